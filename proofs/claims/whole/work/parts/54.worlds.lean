def tyL (cI cZ cO : ClassId) : List (ClassId × FieldType) := [(cI, .int), (cZ, .boolean), (cO, .object RX4)]
def kd6 (b0 b1 b2 b3 b4 b5 j : Nat) : Nat := [b0, b1, b2, b3, b4, b5].getD j 0
def wV (cI cZ cO : ClassId) (a : Nat → Nat) (u : VS) : va_W := [(a 0, .inr (8, [.ref (a 6), .ref (a 1), .ref (a 2), .ref (a 3), .ref (a 4), .ref (a 5), .int (gV_people u), .int (gV_names u), .int (gV_week u)])), (a 1, .inl (cI, 8, .inl (gV_kind u))), (a 2, .inl (cI, 8, .inl (gV_fig u))), (a 3, .inl (cI, 8, .inl (gV_owed u))), (a 4, .inl (cZ, 8, .inl (gV_here u))), (a 5, .inl (cI, 64, .inl (gV_mem u))), (a 6, .inl (cO, 6, .inr (.inr (.inr (.inr (fun j => some (kd6 (a 7) (a 8) (a 9) (a 10) (a 11) (a 12) j))))))), (a 7, .inr (4, [])), (a 8, .inr (0, [])), (a 9, .inr (2, [])), (a 10, .inr (5, [])), (a 11, .inr (1, [])), (a 12, .inr (9, []))]
def wVV (cI cZ cO : ClassId) (a : Nat → Nat) (u : VS × VS) : va_W := [(a 0, .inr (8, [.ref (a 12), .ref (a 1), .ref (a 2), .ref (a 3), .ref (a 4), .ref (a 5), .int (gV_people u.1), .int (gV_names u.1), .int (gV_week u.1)])), (a 1, .inl (cI, 8, .inl (gV_kind u.1))), (a 2, .inl (cI, 8, .inl (gV_fig u.1))), (a 3, .inl (cI, 8, .inl (gV_owed u.1))), (a 4, .inl (cZ, 8, .inl (gV_here u.1))), (a 5, .inl (cI, 64, .inl (gV_mem u.1))), (a 6, .inr (8, [.ref (a 12), .ref (a 7), .ref (a 8), .ref (a 9), .ref (a 10), .ref (a 11), .int (gV_people u.2), .int (gV_names u.2), .int (gV_week u.2)])), (a 7, .inl (cI, 8, .inl (gV_kind u.2))), (a 8, .inl (cI, 8, .inl (gV_fig u.2))), (a 9, .inl (cI, 8, .inl (gV_owed u.2))), (a 10, .inl (cZ, 8, .inl (gV_here u.2))), (a 11, .inl (cI, 64, .inl (gV_mem u.2)))]
def wT (cI cZ cO : ClassId) (a : Nat → Nat) (u : TS) : va_W := [(a 0, .inr (7, [.ref (a 1), .int (gT_size u)])), (a 1, .inl (cI, 96, .inl (gT_let u)))]
def wR (cI cZ cO : ClassId) (a : Nat → Nat) (u : RS) : va_W := [(a 0, .inr (6, [.ref (a 1), .int (gR_size u)])), (a 1, .inl (cI, 16, .inl (gR_num u)))]
def wTV (cI cZ cO : ClassId) (a : Nat → Nat) (u : TS × VS) : va_W := [(a 0, .inr (7, [.ref (a 1), .int (gT_size u.1)])), (a 1, .inl (cI, 96, .inl (gT_let u.1))), (a 2, .inr (8, [.ref (a 8), .ref (a 3), .ref (a 4), .ref (a 5), .ref (a 6), .ref (a 7), .int (gV_people u.2), .int (gV_names u.2), .int (gV_week u.2)])), (a 3, .inl (cI, 8, .inl (gV_kind u.2))), (a 4, .inl (cI, 8, .inl (gV_fig u.2))), (a 5, .inl (cI, 8, .inl (gV_owed u.2))), (a 6, .inl (cZ, 8, .inl (gV_here u.2))), (a 7, .inl (cI, 64, .inl (gV_mem u.2))), (a 8, .inl (cO, 6, .inr (.inr (.inr (.inr (fun j => some (kd6 (a 9) (a 10) (a 11) (a 12) (a 13) (a 14) j))))))), (a 9, .inr (4, [])), (a 10, .inr (0, [])), (a 11, .inr (2, [])), (a 12, .inr (5, [])), (a 13, .inr (1, [])), (a 14, .inr (9, []))]
def wM (cI cZ cO : ClassId) (a : Nat → Nat) (u : MS) : va_W := [(a 0, .inr (3, [.ref (a 6), .ref (a 12), .ref (a 18), .ref (a 1), .ref (a 2), .ref (a 3), .int (gM_z u)])), (a 1, .inl (cI, 8, .inl (gM_lg u))), (a 2, .inl (cI, 4, .inl (gM_fg u))), (a 3, .inl (cI, 4, .inl (gM_og u))), (a 4, .inr (6, [.ref (a 5), .int (gR_size (gM_row u))])), (a 5, .inl (cI, 16, .inl (gR_num (gM_row u)))), (a 6, .inr (8, [.ref (a 24), .ref (a 7), .ref (a 8), .ref (a 9), .ref (a 10), .ref (a 11), .int (gV_people (gM_now u)), .int (gV_names (gM_now u)), .int (gV_week (gM_now u))])), (a 7, .inl (cI, 8, .inl (gV_kind (gM_now u)))), (a 8, .inl (cI, 8, .inl (gV_fig (gM_now u)))), (a 9, .inl (cI, 8, .inl (gV_owed (gM_now u)))), (a 10, .inl (cZ, 8, .inl (gV_here (gM_now u)))), (a 11, .inl (cI, 64, .inl (gV_mem (gM_now u)))), (a 12, .inr (8, [.ref (a 24), .ref (a 13), .ref (a 14), .ref (a 15), .ref (a 16), .ref (a 17), .int (gV_people (gM_then u)), .int (gV_names (gM_then u)), .int (gV_week (gM_then u))])), (a 13, .inl (cI, 8, .inl (gV_kind (gM_then u)))), (a 14, .inl (cI, 8, .inl (gV_fig (gM_then u)))), (a 15, .inl (cI, 8, .inl (gV_owed (gM_then u)))), (a 16, .inl (cZ, 8, .inl (gV_here (gM_then u)))), (a 17, .inl (cI, 64, .inl (gV_mem (gM_then u)))), (a 18, .inr (8, [.ref (a 24), .ref (a 19), .ref (a 20), .ref (a 21), .ref (a 22), .ref (a 23), .int (gV_people (gM_oth u)), .int (gV_names (gM_oth u)), .int (gV_week (gM_oth u))])), (a 19, .inl (cI, 8, .inl (gV_kind (gM_oth u)))), (a 20, .inl (cI, 8, .inl (gV_fig (gM_oth u)))), (a 21, .inl (cI, 8, .inl (gV_owed (gM_oth u)))), (a 22, .inl (cZ, 8, .inl (gV_here (gM_oth u)))), (a 23, .inl (cI, 64, .inl (gV_mem (gM_oth u)))), (a 24, .inl (cO, 6, .inr (.inr (.inr (.inr (fun j => some (kd6 (a 25) (a 26) (a 27) (a 28) (a 29) (a 30) j))))))), (a 25, .inr (4, [])), (a 26, .inr (0, [])), (a 27, .inr (2, [])), (a 28, .inr (5, [])), (a 29, .inr (1, [])), (a 30, .inr (9, []))]
def wX (cI cZ cO : ClassId) (a : Nat → Nat) (u : XS) : va_W := [(a 0, .inr (10, [.ref (a 22), .ref (a 4), .ref (a 10), .ref (a 16), .ref (a 2), .ref (a 20), .ref (a 1), .int (gX_img u)])), (a 1, .inl (cI, 7, .inl (gX_ref u))), (a 2, .inr (7, [.ref (a 3), .int (gT_size (gX_tell u))])), (a 3, .inl (cI, 96, .inl (gT_let (gX_tell u)))), (a 4, .inr (8, [.ref (a 40), .ref (a 5), .ref (a 6), .ref (a 7), .ref (a 8), .ref (a 9), .int (gV_people (gX_kept u)), .int (gV_names (gX_kept u)), .int (gV_week (gX_kept u))])), (a 5, .inl (cI, 8, .inl (gV_kind (gX_kept u)))), (a 6, .inl (cI, 8, .inl (gV_fig (gX_kept u)))), (a 7, .inl (cI, 8, .inl (gV_owed (gX_kept u)))), (a 8, .inl (cZ, 8, .inl (gV_here (gX_kept u)))), (a 9, .inl (cI, 64, .inl (gV_mem (gX_kept u)))), (a 10, .inr (8, [.ref (a 40), .ref (a 11), .ref (a 12), .ref (a 13), .ref (a 14), .ref (a 15), .int (gV_people (gX_told u)), .int (gV_names (gX_told u)), .int (gV_week (gX_told u))])), (a 11, .inl (cI, 8, .inl (gV_kind (gX_told u)))), (a 12, .inl (cI, 8, .inl (gV_fig (gX_told u)))), (a 13, .inl (cI, 8, .inl (gV_owed (gX_told u)))), (a 14, .inl (cZ, 8, .inl (gV_here (gX_told u)))), (a 15, .inl (cI, 64, .inl (gV_mem (gX_told u)))), (a 16, .inr (3, [.ref (a 22), .ref (a 28), .ref (a 34), .ref (a 17), .ref (a 18), .ref (a 19), .int (gM_z (gX_mind u))])), (a 17, .inl (cI, 8, .inl (gM_lg (gX_mind u)))), (a 18, .inl (cI, 4, .inl (gM_fg (gX_mind u)))), (a 19, .inl (cI, 4, .inl (gM_og (gX_mind u)))), (a 20, .inr (6, [.ref (a 21), .int (gR_size (gM_row (gX_mind u)))])), (a 21, .inl (cI, 16, .inl (gR_num (gM_row (gX_mind u))))), (a 22, .inr (8, [.ref (a 40), .ref (a 23), .ref (a 24), .ref (a 25), .ref (a 26), .ref (a 27), .int (gV_people (gM_now (gX_mind u))), .int (gV_names (gM_now (gX_mind u))), .int (gV_week (gM_now (gX_mind u)))])), (a 23, .inl (cI, 8, .inl (gV_kind (gM_now (gX_mind u))))), (a 24, .inl (cI, 8, .inl (gV_fig (gM_now (gX_mind u))))), (a 25, .inl (cI, 8, .inl (gV_owed (gM_now (gX_mind u))))), (a 26, .inl (cZ, 8, .inl (gV_here (gM_now (gX_mind u))))), (a 27, .inl (cI, 64, .inl (gV_mem (gM_now (gX_mind u))))), (a 28, .inr (8, [.ref (a 40), .ref (a 29), .ref (a 30), .ref (a 31), .ref (a 32), .ref (a 33), .int (gV_people (gM_then (gX_mind u))), .int (gV_names (gM_then (gX_mind u))), .int (gV_week (gM_then (gX_mind u)))])), (a 29, .inl (cI, 8, .inl (gV_kind (gM_then (gX_mind u))))), (a 30, .inl (cI, 8, .inl (gV_fig (gM_then (gX_mind u))))), (a 31, .inl (cI, 8, .inl (gV_owed (gM_then (gX_mind u))))), (a 32, .inl (cZ, 8, .inl (gV_here (gM_then (gX_mind u))))), (a 33, .inl (cI, 64, .inl (gV_mem (gM_then (gX_mind u))))), (a 34, .inr (8, [.ref (a 40), .ref (a 35), .ref (a 36), .ref (a 37), .ref (a 38), .ref (a 39), .int (gV_people (gM_oth (gX_mind u))), .int (gV_names (gM_oth (gX_mind u))), .int (gV_week (gM_oth (gX_mind u)))])), (a 35, .inl (cI, 8, .inl (gV_kind (gM_oth (gX_mind u))))), (a 36, .inl (cI, 8, .inl (gV_fig (gM_oth (gX_mind u))))), (a 37, .inl (cI, 8, .inl (gV_owed (gM_oth (gX_mind u))))), (a 38, .inl (cZ, 8, .inl (gV_here (gM_oth (gX_mind u))))), (a 39, .inl (cI, 64, .inl (gV_mem (gM_oth (gX_mind u))))), (a 40, .inl (cO, 6, .inr (.inr (.inr (.inr (fun j => some (kd6 (a 41) (a 42) (a 43) (a 44) (a 45) (a 46) j))))))), (a 41, .inr (4, [])), (a 42, .inr (0, [])), (a 43, .inr (2, [])), (a 44, .inr (5, [])), (a 45, .inr (1, [])), (a 46, .inr (9, []))]
def wD (cI cZ cO : ClassId) (a : Nat → Nat) (u : DS) : va_W := [(a 0, .inr (11, [.ref (a 1), .ref (a 2), .ref (a 3), .ref (a 4), .int (gD_has u), .ref (a 5), .ref (a 6), .ref (a 7), .int (gD_letN u), .int (gD_rowN u), .int (gD_place u), .ref (a 8), .int (gD_seed u)])), (a 1, .inl (cI, 99, .inl (gD_s u))), (a 2, .inl (cI, 99, .inl (gD_m u))), (a 3, .inl (cI, 99, .inl (gD_image u))), (a 4, .inl (cI, 99, .inl (gD_was u))), (a 5, .inl (cI, 96, .inl (gD_let u))), (a 6, .inl (cI, 16, .inl (gD_row u))), (a 7, .inl (cI, 7, .inl (gD_ref u))), (a 8, .inl (cI, 3, .inl (gD_num u)))]
def wI (cI cZ cO : ClassId) (a : Nat → Nat) (u : Nat → Int32) : va_W := [(a 0, .inl (cI, 99, .inl u))]
def wII (cI cZ cO : ClassId) (a : Nat → Nat) (u : (Nat → Int32) × (Nat → Int32)) : va_W := [(a 0, .inl (cI, 99, .inl u.1)), (a 1, .inl (cI, 99, .inl u.2))]
def wP (ci : Nat) (a : Nat → Nat) : va_W := [(a 0, .inr (ci, []))]
theorem kc_b_m9 : (Int8.ofInt (-9)).toInt32 = ((-9) : Int32) := by decide +kernel
theorem kc_b_m6 : (Int8.ofInt (-6)).toInt32 = ((-6) : Int32) := by decide +kernel
theorem kc_b_m4 : (Int8.ofInt (-4)).toInt32 = ((-4) : Int32) := by decide +kernel
theorem kc_b_m3 : (Int8.ofInt (-3)).toInt32 = ((-3) : Int32) := by decide +kernel
theorem kc_b_m2 : (Int8.ofInt (-2)).toInt32 = ((-2) : Int32) := by decide +kernel
theorem kc_b_6 : (Int8.ofInt 6).toInt32 = (6 : Int32) := by decide +kernel
theorem kc_b_7 : (Int8.ofInt 7).toInt32 = (7 : Int32) := by decide +kernel
theorem kc_b_8 : (Int8.ofInt 8).toInt32 = (8 : Int32) := by decide +kernel
theorem kc_b_9 : (Int8.ofInt 9).toInt32 = (9 : Int32) := by decide +kernel
theorem kc_b_10 : (Int8.ofInt 10).toInt32 = (10 : Int32) := by decide +kernel
theorem kc_b_11 : (Int8.ofInt 11).toInt32 = (11 : Int32) := by decide +kernel
theorem kc_b_16 : (Int8.ofInt 16).toInt32 = (16 : Int32) := by decide +kernel
theorem kc_b_20 : (Int8.ofInt 20).toInt32 = (20 : Int32) := by decide +kernel
theorem kc_b_30 : (Int8.ofInt 30).toInt32 = (30 : Int32) := by decide +kernel
theorem kc_b_35 : (Int8.ofInt 35).toInt32 = (35 : Int32) := by decide +kernel
theorem kc_b_48 : (Int8.ofInt 48).toInt32 = (48 : Int32) := by decide +kernel
theorem kc_b_50 : (Int8.ofInt 50).toInt32 = (50 : Int32) := by decide +kernel
theorem kc_b_57 : (Int8.ofInt 57).toInt32 = (57 : Int32) := by decide +kernel
theorem kc_b_59 : (Int8.ofInt 59).toInt32 = (59 : Int32) := by decide +kernel
theorem kc_b_60 : (Int8.ofInt 60).toInt32 = (60 : Int32) := by decide +kernel
theorem kc_b_63 : (Int8.ofInt 63).toInt32 = (63 : Int32) := by decide +kernel
theorem kc_b_64 : (Int8.ofInt 64).toInt32 = (64 : Int32) := by decide +kernel
theorem kc_b_96 : (Int8.ofInt 96).toInt32 = (96 : Int32) := by decide +kernel
theorem kc_b_99 : (Int8.ofInt 99).toInt32 = (99 : Int32) := by decide +kernel
theorem kc_b_100 : (Int8.ofInt 100).toInt32 = (100 : Int32) := by decide +kernel
theorem kc_i_m1 : Int32.ofInt (-1) = ((-1) : Int32) := by decide +kernel
theorem kc_i_0 : Int32.ofInt 0 = (0 : Int32) := by decide +kernel
theorem kc_i_1 : Int32.ofInt 1 = (1 : Int32) := by decide +kernel
theorem kc_i_2 : Int32.ofInt 2 = (2 : Int32) := by decide +kernel
theorem kc_i_3 : Int32.ofInt 3 = (3 : Int32) := by decide +kernel
theorem kc_i_4 : Int32.ofInt 4 = (4 : Int32) := by decide +kernel
theorem kc_i_5 : Int32.ofInt 5 = (5 : Int32) := by decide +kernel
theorem kc_l_0 : Int64.ofNat ((0 : Fin 2) : Nat) = (0 : Int64) := by decide +kernel
theorem kc_l_1 : Int64.ofNat ((1 : Fin 2) : Nat) = (1 : Int64) := by decide +kernel
theorem kc_s_m2000 : (Int16.ofInt (-2000)).toInt32 = ((-2000) : Int32) := by decide +kernel
theorem kc_s_m1000 : (Int16.ofInt (-1000)).toInt32 = ((-1000) : Int32) := by decide +kernel
theorem kc_s_255 : (Int16.ofInt 255).toInt32 = (255 : Int32) := by decide +kernel
theorem kc_s_256 : (Int16.ofInt 256).toInt32 = (256 : Int32) := by decide +kernel
theorem kc_s_999 : (Int16.ofInt 999).toInt32 = (999 : Int32) := by decide +kernel
set_option maxRecDepth 100000 in
theorem qw0 : Cond.methodLink RX2 7 yX4_change ∈ LW := lwm (tb2 (List.mem_of_getElem? (i := 239) rfl)) rfl
set_option maxRecDepth 100000 in
theorem qw1 : Cond.sameMethod RX4 RX4 "change" "(III)I" ∈ LW := lwm (tb2 (List.mem_of_getElem? (i := 229) rfl)) rfl
set_option maxRecDepth 100000 in
theorem qw2 : Cond.superclass RX2 RX4 ∈ LW := lwm (tb1 (List.mem_of_getElem? (i := 50) rfl)) rfl
set_option maxRecDepth 100000 in
theorem qw3 : Cond.instanceMethod yX4_change ∈ LW := lwm (tb2 (List.mem_of_getElem? (i := 227) rfl)) rfl
set_option maxRecDepth 100000 in
theorem qw4 : Cond.initialized RX4 ∈ LW := lwm (tb1 (List.mem_of_getElem? (i := 2) rfl)) rfl
set_option maxRecDepth 100000 in
theorem qw5 : Cond.code yX4_change cX4_change 4 (some .int) ∈ LW := lwm (tb3 (List.mem_of_getElem? (i := 8) rfl)) rfl
set_option maxRecDepth 100000 in
theorem qw6 : Cond.fieldLink RX8 9 "SoManyForgotten$Valley" "kind" "[I" ∈ LW := lwm (tb1 (List.mem_of_getElem? (i := 79) rfl)) rfl
set_option maxRecDepth 100000 in
theorem qw7 : Cond.fieldLink RX8 15 "SoManyForgotten$Valley" "figure" "[I" ∈ LW := lwm (tb1 (List.mem_of_getElem? (i := 82) rfl)) rfl
set_option maxRecDepth 100000 in
theorem qw8 : Cond.fieldLink RX8 18 "SoManyForgotten$Valley" "owed" "[I" ∈ LW := lwm (tb1 (List.mem_of_getElem? (i := 85) rfl)) rfl
set_option maxRecDepth 100000 in
theorem qw9 : Cond.methodLink RX8 42 arraycopyName ∈ LW := lwm (tb2 (List.mem_of_getElem? (i := 4) rfl)) rfl
set_option maxRecDepth 100000 in
theorem qw10 : Cond.native arraycopyName ∈ LW := lwm (tb2 (List.mem_of_getElem? (i := 6) rfl)) rfl
set_option maxRecDepth 100000 in
theorem qw11 : Cond.static arraycopyName ∈ LW := lwm (tb2 (List.mem_of_getElem? (i := 5) rfl)) rfl
set_option maxRecDepth 100000 in
theorem qw12 : Cond.initialized "java/lang/System" ∈ LW := lwm (tb1 (List.mem_of_getElem? (i := 13) rfl)) rfl
set_option maxRecDepth 100000 in
theorem qw13 : Cond.fieldLink RX8 25 "SoManyForgotten$Valley" "memories" "[I" ∈ LW := lwm (tb1 (List.mem_of_getElem? (i := 93) rfl)) rfl
set_option maxRecDepth 100000 in
theorem qw14 : Cond.fieldLink RX8 28 "SoManyForgotten$Valley" "people" "I" ∈ LW := lwm (tb1 (List.mem_of_getElem? (i := 94) rfl)) rfl
set_option maxRecDepth 100000 in
theorem qw15 : Cond.fieldLink RX8 32 "SoManyForgotten$Valley" "namesEachSpring" "I" ∈ LW := lwm (tb1 (List.mem_of_getElem? (i := 98) rfl)) rfl
set_option maxRecDepth 100000 in
theorem qw16 : Cond.fieldLink RX8 35 "SoManyForgotten$Valley" "week" "I" ∈ LW := lwm (tb1 (List.mem_of_getElem? (i := 101) rfl)) rfl
set_option maxRecDepth 100000 in
theorem qw17 : Cond.fieldLink RX8 21 "SoManyForgotten$Valley" "here" "[Z" ∈ LW := lwm (tb1 (List.mem_of_getElem? (i := 89) rfl)) rfl
set_option maxRecDepth 100000 in
theorem qw18 : Cond.fieldLink RX3 34 "SoManyForgotten$Mind" "then" "LSoManyForgotten$Valley;" ∈ LW := lwm (tb1 (List.mem_of_getElem? (i := 134) rfl)) rfl
set_option maxRecDepth 100000 in
theorem qw19 : Cond.fieldLink RX3 25 "SoManyForgotten$Mind" "now" "LSoManyForgotten$Valley;" ∈ LW := lwm (tb1 (List.mem_of_getElem? (i := 133) rfl)) rfl
set_option maxRecDepth 100000 in
theorem qw20 : Cond.methodLink RX3 40 yX8_copy ∈ LW := lwm (tb3 (List.mem_of_getElem? (i := 154) rfl)) rfl
set_option maxRecDepth 100000 in
theorem qw21 : Cond.instanceMethod yX8_copy ∈ LW := lwm (tb2 (List.mem_of_getElem? (i := 1) rfl)) rfl
set_option maxRecDepth 100000 in
theorem qw22 : Cond.selects RX8 yX8_copy yX8_copy ∈ LW := lwm (tb2 (List.mem_of_getElem? (i := 2) rfl)) rfl
set_option maxRecDepth 100000 in
theorem qw23 : Cond.initialized RX8 ∈ LW := lwm (tb1 (List.mem_of_getElem? (i := 8) rfl)) rfl
set_option maxRecDepth 100000 in
theorem qw24 : Cond.code yX8_copy cX8_copy 3 none ∈ LW := lwm (tb2 (List.mem_of_getElem? (i := 3) rfl)) rfl
set_option maxRecDepth 100000 in
theorem qw25 : Cond.methodLink RX5 7 yX0_change ∈ LW := lwm (tb3 (List.mem_of_getElem? (i := 3) rfl)) rfl
set_option maxRecDepth 100000 in
theorem qw26 : Cond.sameMethod RX0 RX0 "change" "(III)I" ∈ LW := lwm (tb6 (List.mem_of_getElem? (i := 131) rfl)) rfl
set_option maxRecDepth 100000 in
theorem qw27 : Cond.superclass RX5 RX0 ∈ LW := lwm (tb1 (List.mem_of_getElem? (i := 57) rfl)) rfl
set_option maxRecDepth 100000 in
theorem qw28 : Cond.instanceMethod yX0_change ∈ LW := lwm (tb2 (List.mem_of_getElem? (i := 231) rfl)) rfl
set_option maxRecDepth 100000 in
theorem qw29 : Cond.initialized RX0 ∈ LW := lwm (tb1 (List.mem_of_getElem? (i := 3) rfl)) rfl
set_option maxRecDepth 100000 in
theorem qw30 : Cond.code yX0_change cX0_change 4 (some .int) ∈ LW := lwm (tb2 (List.mem_of_getElem? (i := 232) rfl)) rfl
set_option maxRecDepth 100000 in
theorem qw31 : Cond.methodLink RX9 7 yX2_change ∈ LW := lwm (tb3 (List.mem_of_getElem? (i := 7) rfl)) rfl
set_option maxRecDepth 100000 in
theorem qw32 : Cond.sameMethod RX2 RX2 "change" "(III)I" ∈ LW := lwm (tb6 (List.mem_of_getElem? (i := 132) rfl)) rfl
set_option maxRecDepth 100000 in
theorem qw33 : Cond.superclass RX9 RX2 ∈ LW := lwm (tb1 (List.mem_of_getElem? (i := 71) rfl)) rfl
set_option maxRecDepth 100000 in
theorem qw34 : Cond.instanceMethod yX2_change ∈ LW := lwm (tb2 (List.mem_of_getElem? (i := 237) rfl)) rfl
set_option maxRecDepth 100000 in
theorem qw35 : Cond.initialized RX2 ∈ LW := lwm (tb1 (List.mem_of_getElem? (i := 4) rfl)) rfl
set_option maxRecDepth 100000 in
theorem qw36 : Cond.code yX2_change cX2_change 6 (some .int) ∈ LW := lwm (tb2 (List.mem_of_getElem? (i := 238) rfl)) rfl
set_option maxRecDepth 100000 in
theorem qw37 : Cond.methodLink RX8 60 Lib.Math.min.name ∈ LW := lwm (tb2 (List.mem_of_getElem? (i := 204) rfl)) rfl
set_option maxRecDepth 100000 in
theorem qw38 : Cond.static Lib.Math.min.name ∈ LW := lwm (tb2 (List.mem_of_getElem? (i := 101) rfl)) rfl
set_option maxRecDepth 100000 in
theorem qw39 : Cond.initialized "java/lang/Math" ∈ LW := lwm (tb1 (List.mem_of_getElem? (i := 18) rfl)) rfl
set_option maxRecDepth 100000 in
theorem qw40 : Cond.code Lib.Math.min.name Lib.Math.min.code 2 (some .int) ∈ LW := lwm (tb2 (List.mem_of_getElem? (i := 102) rfl)) rfl
set_option maxRecDepth 100000 in
theorem qw41 : Cond.methodLink RX8 70 yX8_addMemory ∈ LW := lwm (tb2 (List.mem_of_getElem? (i := 200) rfl)) rfl
set_option maxRecDepth 100000 in
theorem qw42 : Cond.instanceMethod yX8_addMemory ∈ LW := lwm (tb2 (List.mem_of_getElem? (i := 202) rfl)) rfl
set_option maxRecDepth 100000 in
theorem qw43 : Cond.selects RX8 yX8_addMemory yX8_addMemory ∈ LW := lwm (tb0 (List.mem_of_getElem? (i := 8) rfl)) rfl
set_option maxRecDepth 100000 in
theorem qw44 : Cond.code yX8_addMemory cX8_addMemory 6 none ∈ LW := lwm (tb2 (List.mem_of_getElem? (i := 203) rfl)) rfl
set_option maxRecDepth 100000 in
theorem qw45 : Cond.fieldLink RX8 38 "SoManyForgotten$Valley" "kinds" "[LSoManyForgotten$Person;" ∈ LW := lwm (tb1 (List.mem_of_getElem? (i := 78) rfl)) rfl
set_option maxRecDepth 100000 in
theorem qw46 : Cond.methodLink RX8 55 yX4_isNamed ∈ LW := lwm (tb3 (List.mem_of_getElem? (i := 21) rfl)) rfl
set_option maxRecDepth 100000 in
theorem qw47 : Cond.instanceMethod yX4_isNamed ∈ LW := lwm (tb3 (List.mem_of_getElem? (i := 22) rfl)) rfl
set_option maxRecDepth 100000 in
theorem qw48 : Cond.selects RX4 yX4_isNamed yX4_isNamed ∈ LW := lwm (tb3 (List.mem_of_getElem? (i := 23) rfl)) rfl
set_option maxRecDepth 100000 in
theorem qw49 : Cond.code yX4_isNamed cX4_isNamed 2 (some .boolean) ∈ LW := lwm (tb3 (List.mem_of_getElem? (i := 34) rfl)) rfl
set_option maxRecDepth 100000 in
theorem qw50 : Cond.methodLink RX8 55 ⟨"SoManyForgotten$Person", "isNamed", "(I)Z"⟩ ∈ LW := lwm (tb3 (List.mem_of_getElem? (i := 21) rfl)) rfl
set_option maxRecDepth 100000 in
theorem qw51 : Cond.sameMethod "SoManyForgotten$Person" "SoManyForgotten$Person" "isNamed" "(I)Z" ∈ LW := lwm (tb3 (List.mem_of_getElem? (i := 24) rfl)) rfl
set_option maxRecDepth 100000 in
theorem qw52 : Cond.selects RX0 ⟨"SoManyForgotten$Person", "isNamed", "(I)Z"⟩ yX4_isNamed ∈ LW := lwm (tb3 (List.mem_of_getElem? (i := 25) rfl)) rfl
set_option maxRecDepth 100000 in
theorem qw53 : Cond.selects RX2 ⟨"SoManyForgotten$Person", "isNamed", "(I)Z"⟩ yX4_isNamed ∈ LW := lwm (tb3 (List.mem_of_getElem? (i := 29) rfl)) rfl
set_option maxRecDepth 100000 in
theorem qw54 : Cond.selects RX5 ⟨"SoManyForgotten$Person", "isNamed", "(I)Z"⟩ yX4_isNamed ∈ LW := lwm (tb3 (List.mem_of_getElem? (i := 30) rfl)) rfl
set_option maxRecDepth 100000 in
theorem qw55 : Cond.instanceMethod ⟨"SoManyForgotten$Person", "isNamed", "(I)Z"⟩ ∈ LW := lwm (tb3 (List.mem_of_getElem? (i := 22) rfl)) rfl
set_option maxRecDepth 100000 in
theorem qw56 : Cond.selects RX1 ⟨"SoManyForgotten$Person", "isNamed", "(I)Z"⟩ yX1_isNamed ∈ LW := lwm (tb3 (List.mem_of_getElem? (i := 26) rfl)) rfl
set_option maxRecDepth 100000 in
theorem qw57 : Cond.instanceMethod yX1_isNamed ∈ LW := lwm (tb3 (List.mem_of_getElem? (i := 27) rfl)) rfl
set_option maxRecDepth 100000 in
theorem qw58 : Cond.initialized RX1 ∈ LW := lwm (tb1 (List.mem_of_getElem? (i := 6) rfl)) rfl
set_option maxRecDepth 100000 in
theorem qw59 : Cond.code yX1_isNamed cX1_isNamed 2 (some .boolean) ∈ LW := lwm (tb3 (List.mem_of_getElem? (i := 28) rfl)) rfl
set_option maxRecDepth 100000 in
theorem qw60 : Cond.selects RX9 ⟨"SoManyForgotten$Person", "isNamed", "(I)Z"⟩ yX9_isNamed ∈ LW := lwm (tb3 (List.mem_of_getElem? (i := 31) rfl)) rfl
set_option maxRecDepth 100000 in
theorem qw61 : Cond.instanceMethod yX9_isNamed ∈ LW := lwm (tb3 (List.mem_of_getElem? (i := 32) rfl)) rfl
set_option maxRecDepth 100000 in
theorem qw62 : Cond.initialized RX9 ∈ LW := lwm (tb1 (List.mem_of_getElem? (i := 7) rfl)) rfl
set_option maxRecDepth 100000 in
theorem qw63 : Cond.code yX9_isNamed cX9_isNamed 2 (some .boolean) ∈ LW := lwm (tb3 (List.mem_of_getElem? (i := 33) rfl)) rfl
set_option maxRecDepth 100000 in
theorem qw64 : Cond.methodLink RX8 105 yX8_knownOf ∈ LW := lwm (tb3 (List.mem_of_getElem? (i := 35) rfl)) rfl
set_option maxRecDepth 100000 in
theorem qw65 : Cond.instanceMethod yX8_knownOf ∈ LW := lwm (tb3 (List.mem_of_getElem? (i := 36) rfl)) rfl
set_option maxRecDepth 100000 in
theorem qw66 : Cond.selects RX8 yX8_knownOf yX8_knownOf ∈ LW := lwm (tb3 (List.mem_of_getElem? (i := 37) rfl)) rfl
set_option maxRecDepth 100000 in
theorem qw67 : Cond.code yX8_knownOf cX8_knownOf 4 (some .int) ∈ LW := lwm (tb3 (List.mem_of_getElem? (i := 38) rfl)) rfl
set_option maxRecDepth 100000 in
theorem qw68 : Cond.methodLink RX8 81 yX8_rememberAs ∈ LW := lwm (tb2 (List.mem_of_getElem? (i := 212) rfl)) rfl
set_option maxRecDepth 100000 in
theorem qw69 : Cond.instanceMethod yX8_rememberAs ∈ LW := lwm (tb2 (List.mem_of_getElem? (i := 214) rfl)) rfl
set_option maxRecDepth 100000 in
theorem qw70 : Cond.selects RX8 yX8_rememberAs yX8_rememberAs ∈ LW := lwm (tb0 (List.mem_of_getElem? (i := 9) rfl)) rfl
set_option maxRecDepth 100000 in
theorem qw71 : Cond.code yX8_rememberAs cX8_rememberAs 4 none ∈ LW := lwm (tb2 (List.mem_of_getElem? (i := 215) rfl)) rfl
set_option maxRecDepth 100000 in
theorem qw72 : Cond.methodLink RX8 101 yX8_forget ∈ LW := lwm (tb3 (List.mem_of_getElem? (i := 39) rfl)) rfl
set_option maxRecDepth 100000 in
theorem qw73 : Cond.instanceMethod yX8_forget ∈ LW := lwm (tb3 (List.mem_of_getElem? (i := 41) rfl)) rfl
set_option maxRecDepth 100000 in
theorem qw74 : Cond.selects RX8 yX8_forget yX8_forget ∈ LW := lwm (tb0 (List.mem_of_getElem? (i := 12) rfl)) rfl
set_option maxRecDepth 100000 in
theorem qw75 : Cond.code yX8_forget cX8_forget 2 none ∈ LW := lwm (tb3 (List.mem_of_getElem? (i := 42) rfl)) rfl
set_option maxRecDepth 100000 in
theorem qw76 : Cond.methodLink RX8 97 yX8_leastKnown ∈ LW := lwm (tb3 (List.mem_of_getElem? (i := 17) rfl)) rfl
set_option maxRecDepth 100000 in
theorem qw77 : Cond.instanceMethod yX8_leastKnown ∈ LW := lwm (tb3 (List.mem_of_getElem? (i := 18) rfl)) rfl
set_option maxRecDepth 100000 in
theorem qw78 : Cond.selects RX8 yX8_leastKnown yX8_leastKnown ∈ LW := lwm (tb3 (List.mem_of_getElem? (i := 19) rfl)) rfl
set_option maxRecDepth 100000 in
theorem qw79 : Cond.code yX8_leastKnown cX8_leastKnown 5 (some .int) ∈ LW := lwm (tb3 (List.mem_of_getElem? (i := 20) rfl)) rfl
set_option maxRecDepth 100000 in
theorem qw80 : Cond.methodLink RX8 94 yX8_passSpring ∈ LW := lwm (tb3 (List.mem_of_getElem? (i := 13) rfl)) rfl
set_option maxRecDepth 100000 in
theorem qw81 : Cond.instanceMethod yX8_passSpring ∈ LW := lwm (tb3 (List.mem_of_getElem? (i := 15) rfl)) rfl
set_option maxRecDepth 100000 in
theorem qw82 : Cond.selects RX8 yX8_passSpring yX8_passSpring ∈ LW := lwm (tb0 (List.mem_of_getElem? (i := 11) rfl)) rfl
set_option maxRecDepth 100000 in
theorem qw83 : Cond.code yX8_passSpring cX8_passSpring 3 none ∈ LW := lwm (tb3 (List.mem_of_getElem? (i := 16) rfl)) rfl
set_option maxRecDepth 100000 in
theorem qw84 : Cond.methodLink RX8 90 yX4_change ∈ LW := lwm (tb2 (List.mem_of_getElem? (i := 226) rfl)) rfl
set_option maxRecDepth 100000 in
theorem qw85 : Cond.selects RX4 yX4_change yX4_change ∈ LW := lwm (tb2 (List.mem_of_getElem? (i := 228) rfl)) rfl
set_option maxRecDepth 100000 in
theorem qw86 : Cond.methodLink RX8 90 ⟨"SoManyForgotten$Person", "change", "(III)I"⟩ ∈ LW := lwm (tb2 (List.mem_of_getElem? (i := 226) rfl)) rfl
set_option maxRecDepth 100000 in
theorem qw87 : Cond.sameMethod "SoManyForgotten$Person" "SoManyForgotten$Person" "change" "(III)I" ∈ LW := lwm (tb2 (List.mem_of_getElem? (i := 229) rfl)) rfl
set_option maxRecDepth 100000 in
theorem qw88 : Cond.instanceMethod ⟨"SoManyForgotten$Person", "change", "(III)I"⟩ ∈ LW := lwm (tb2 (List.mem_of_getElem? (i := 227) rfl)) rfl
set_option maxRecDepth 100000 in
theorem qw89 : Cond.selects RX0 ⟨"SoManyForgotten$Person", "change", "(III)I"⟩ yX0_change ∈ LW := lwm (tb2 (List.mem_of_getElem? (i := 230) rfl)) rfl
set_option maxRecDepth 100000 in
theorem qw90 : Cond.selects RX2 ⟨"SoManyForgotten$Person", "change", "(III)I"⟩ yX2_change ∈ LW := lwm (tb2 (List.mem_of_getElem? (i := 236) rfl)) rfl
set_option maxRecDepth 100000 in
theorem qw91 : Cond.selects RX5 ⟨"SoManyForgotten$Person", "change", "(III)I"⟩ yX5_change ∈ LW := lwm (tb3 (List.mem_of_getElem? (i := 0) rfl)) rfl
set_option maxRecDepth 100000 in
theorem qw92 : Cond.instanceMethod yX5_change ∈ LW := lwm (tb3 (List.mem_of_getElem? (i := 1) rfl)) rfl
set_option maxRecDepth 100000 in
theorem qw93 : Cond.initialized RX5 ∈ LW := lwm (tb1 (List.mem_of_getElem? (i := 5) rfl)) rfl
set_option maxRecDepth 100000 in
theorem qw94 : Cond.code yX5_change cX5_change 4 (some .int) ∈ LW := lwm (tb3 (List.mem_of_getElem? (i := 2) rfl)) rfl
set_option maxRecDepth 100000 in
theorem qw95 : Cond.selects RX1 ⟨"SoManyForgotten$Person", "change", "(III)I"⟩ yX1_change ∈ LW := lwm (tb2 (List.mem_of_getElem? (i := 233) rfl)) rfl
set_option maxRecDepth 100000 in
theorem qw96 : Cond.instanceMethod yX1_change ∈ LW := lwm (tb2 (List.mem_of_getElem? (i := 234) rfl)) rfl
set_option maxRecDepth 100000 in
theorem qw97 : Cond.code yX1_change cX1_change 4 (some .int) ∈ LW := lwm (tb2 (List.mem_of_getElem? (i := 235) rfl)) rfl
set_option maxRecDepth 100000 in
theorem qw98 : Cond.selects RX9 ⟨"SoManyForgotten$Person", "change", "(III)I"⟩ yX9_change ∈ LW := lwm (tb3 (List.mem_of_getElem? (i := 4) rfl)) rfl
set_option maxRecDepth 100000 in
theorem qw99 : Cond.instanceMethod yX9_change ∈ LW := lwm (tb3 (List.mem_of_getElem? (i := 5) rfl)) rfl
set_option maxRecDepth 100000 in
theorem qw100 : Cond.code yX9_change cX9_change 4 (some .int) ∈ LW := lwm (tb3 (List.mem_of_getElem? (i := 6) rfl)) rfl
set_option maxRecDepth 100000 in
theorem qw101 : Cond.methodLink RX8 84 yX8_rememberMore ∈ LW := lwm (tb3 (List.mem_of_getElem? (i := 9) rfl)) rfl
set_option maxRecDepth 100000 in
theorem qw102 : Cond.instanceMethod yX8_rememberMore ∈ LW := lwm (tb3 (List.mem_of_getElem? (i := 11) rfl)) rfl
set_option maxRecDepth 100000 in
theorem qw103 : Cond.selects RX8 yX8_rememberMore yX8_rememberMore ∈ LW := lwm (tb0 (List.mem_of_getElem? (i := 10) rfl)) rfl
set_option maxRecDepth 100000 in
theorem qw104 : Cond.code yX8_rememberMore cX8_rememberMore 4 none ∈ LW := lwm (tb3 (List.mem_of_getElem? (i := 12) rfl)) rfl
set_option maxRecDepth 100000 in
theorem qw105 : Cond.methodLink RX8 87 yX8_passWeek ∈ LW := lwm (tb3 (List.mem_of_getElem? (i := 141) rfl)) rfl
set_option maxRecDepth 100000 in
theorem qw106 : Cond.instanceMethod yX8_passWeek ∈ LW := lwm (tb2 (List.mem_of_getElem? (i := 223) rfl)) rfl
set_option maxRecDepth 100000 in
theorem qw107 : Cond.selects RX8 yX8_passWeek yX8_passWeek ∈ LW := lwm (tb2 (List.mem_of_getElem? (i := 224) rfl)) rfl
set_option maxRecDepth 100000 in
theorem qw108 : Cond.code yX8_passWeek cX8_passWeek 3 none ∈ LW := lwm (tb2 (List.mem_of_getElem? (i := 225) rfl)) rfl
set_option maxRecDepth 100000 in
theorem qw109 : Cond.methodLink RX3 47 yX8_passWeeks ∈ LW := lwm (tb3 (List.mem_of_getElem? (i := 155) rfl)) rfl
set_option maxRecDepth 100000 in
theorem qw110 : Cond.instanceMethod yX8_passWeeks ∈ LW := lwm (tb3 (List.mem_of_getElem? (i := 138) rfl)) rfl
set_option maxRecDepth 100000 in
theorem qw111 : Cond.selects RX8 yX8_passWeeks yX8_passWeeks ∈ LW := lwm (tb3 (List.mem_of_getElem? (i := 139) rfl)) rfl
set_option maxRecDepth 100000 in
theorem qw112 : Cond.code yX8_passWeeks cX8_passWeeks 3 none ∈ LW := lwm (tb3 (List.mem_of_getElem? (i := 140) rfl)) rfl
set_option maxRecDepth 100000 in
theorem qw113 : Cond.methodLink RX3 44 yX3_startAgain ∈ LW := lwm (tb3 (List.mem_of_getElem? (i := 150) rfl)) rfl
set_option maxRecDepth 100000 in
theorem qw114 : Cond.instanceMethod yX3_startAgain ∈ LW := lwm (tb3 (List.mem_of_getElem? (i := 152) rfl)) rfl
set_option maxRecDepth 100000 in
theorem qw115 : Cond.selects RX3 yX3_startAgain yX3_startAgain ∈ LW := lwm (tb0 (List.mem_of_getElem? (i := 18) rfl)) rfl
set_option maxRecDepth 100000 in
theorem qw116 : Cond.initialized RX3 ∈ LW := lwm (tb1 (List.mem_of_getElem? (i := 9) rfl)) rfl
set_option maxRecDepth 100000 in
theorem qw117 : Cond.code yX3_startAgain cX3_startAgain 1 none ∈ LW := lwm (tb3 (List.mem_of_getElem? (i := 153) rfl)) rfl
set_option maxRecDepth 100000 in
theorem qw118 : Cond.methodLink RX3 51 yX8_passUntilForgotten ∈ LW := lwm (tb3 (List.mem_of_getElem? (i := 176) rfl)) rfl
set_option maxRecDepth 100000 in
theorem qw119 : Cond.instanceMethod yX8_passUntilForgotten ∈ LW := lwm (tb3 (List.mem_of_getElem? (i := 177) rfl)) rfl
set_option maxRecDepth 100000 in
theorem qw120 : Cond.selects RX8 yX8_passUntilForgotten yX8_passUntilForgotten ∈ LW := lwm (tb3 (List.mem_of_getElem? (i := 178) rfl)) rfl
set_option maxRecDepth 100000 in
theorem qw121 : Cond.code yX8_passUntilForgotten cX8_passUntilForgotten 3 (some .int) ∈ LW := lwm (tb3 (List.mem_of_getElem? (i := 179) rfl)) rfl
set_option maxRecDepth 100000 in
theorem qw122 : Cond.methodLink RX3 55 yX8_hereBits ∈ LW := lwm (tb3 (List.mem_of_getElem? (i := 195) rfl)) rfl
set_option maxRecDepth 100000 in
theorem qw123 : Cond.instanceMethod yX8_hereBits ∈ LW := lwm (tb3 (List.mem_of_getElem? (i := 115) rfl)) rfl
set_option maxRecDepth 100000 in
theorem qw124 : Cond.selects RX8 yX8_hereBits yX8_hereBits ∈ LW := lwm (tb3 (List.mem_of_getElem? (i := 116) rfl)) rfl
set_option maxRecDepth 100000 in
theorem qw125 : Cond.code yX8_hereBits cX8_hereBits 3 (some .int) ∈ LW := lwm (tb3 (List.mem_of_getElem? (i := 117) rfl)) rfl
set_option maxRecDepth 100000 in
theorem qw126 : Cond.methodLink RX3 59 yX8_passWeek ∈ LW := lwm (tb3 (List.mem_of_getElem? (i := 196) rfl)) rfl
set_option maxRecDepth 100000 in
theorem qw127 : Cond.methodLink RX3 62 yX3_untilFirstForgotten ∈ LW := lwm (tb3 (List.mem_of_getElem? (i := 191) rfl)) rfl
set_option maxRecDepth 100000 in
theorem qw128 : Cond.instanceMethod yX3_untilFirstForgotten ∈ LW := lwm (tb3 (List.mem_of_getElem? (i := 192) rfl)) rfl
set_option maxRecDepth 100000 in
theorem qw129 : Cond.selects RX3 yX3_untilFirstForgotten yX3_untilFirstForgotten ∈ LW := lwm (tb3 (List.mem_of_getElem? (i := 193) rfl)) rfl
set_option maxRecDepth 100000 in
theorem qw130 : Cond.code yX3_untilFirstForgotten cX3_untilFirstForgotten 3 (some .int) ∈ LW := lwm (tb3 (List.mem_of_getElem? (i := 194) rfl)) rfl
set_option maxRecDepth 100000 in
theorem qw131 : Cond.fieldLink RX3 65 "SoManyForgotten$Valley" "people" "I" ∈ LW := lwm (tb1 (List.mem_of_getElem? (i := 95) rfl)) rfl
set_option maxRecDepth 100000 in
theorem qw132 : Cond.fieldLink RX3 68 "SoManyForgotten$Valley" "here" "[Z" ∈ LW := lwm (tb1 (List.mem_of_getElem? (i := 91) rfl)) rfl
set_option maxRecDepth 100000 in
theorem qw133 : Cond.methodLink RX8 48 yX8_has ∈ LW := lwm (tb2 (List.mem_of_getElem? (i := 176) rfl)) rfl
set_option maxRecDepth 100000 in
theorem qw134 : Cond.instanceMethod yX8_has ∈ LW := lwm (tb2 (List.mem_of_getElem? (i := 177) rfl)) rfl
set_option maxRecDepth 100000 in
theorem qw135 : Cond.selects RX8 yX8_has yX8_has ∈ LW := lwm (tb2 (List.mem_of_getElem? (i := 178) rfl)) rfl
set_option maxRecDepth 100000 in
theorem qw136 : Cond.code yX8_has cX8_has 2 (some .boolean) ∈ LW := lwm (tb2 (List.mem_of_getElem? (i := 179) rfl)) rfl
set_option maxRecDepth 100000 in
theorem qw137 : Cond.methodLink RX8 52 yX8_isHere ∈ LW := lwm (tb2 (List.mem_of_getElem? (i := 192) rfl)) rfl
set_option maxRecDepth 100000 in
theorem qw138 : Cond.instanceMethod yX8_isHere ∈ LW := lwm (tb2 (List.mem_of_getElem? (i := 193) rfl)) rfl
set_option maxRecDepth 100000 in
theorem qw139 : Cond.selects RX8 yX8_isHere yX8_isHere ∈ LW := lwm (tb2 (List.mem_of_getElem? (i := 194) rfl)) rfl
set_option maxRecDepth 100000 in
theorem qw140 : Cond.code yX8_isHere cX8_isHere 2 (some .boolean) ∈ LW := lwm (tb2 (List.mem_of_getElem? (i := 195) rfl)) rfl
set_option maxRecDepth 100000 in
theorem qw141 : Cond.methodLink RX3 72 yX3_untilForgotten ∈ LW := lwm (tb3 (List.mem_of_getElem? (i := 219) rfl)) rfl
set_option maxRecDepth 100000 in
theorem qw142 : Cond.instanceMethod yX3_untilForgotten ∈ LW := lwm (tb3 (List.mem_of_getElem? (i := 173) rfl)) rfl
set_option maxRecDepth 100000 in
theorem qw143 : Cond.selects RX3 yX3_untilForgotten yX3_untilForgotten ∈ LW := lwm (tb3 (List.mem_of_getElem? (i := 174) rfl)) rfl
set_option maxRecDepth 100000 in
theorem qw144 : Cond.code yX3_untilForgotten cX3_untilForgotten 2 (some .int) ∈ LW := lwm (tb3 (List.mem_of_getElem? (i := 175) rfl)) rfl
set_option maxRecDepth 100000 in
theorem qw145 : Cond.methodLink RX3 79 yX8_talk ∈ LW := lwm (tb3 (List.mem_of_getElem? (i := 221) rfl)) rfl
set_option maxRecDepth 100000 in
theorem qw146 : Cond.instanceMethod yX8_talk ∈ LW := lwm (tb2 (List.mem_of_getElem? (i := 197) rfl)) rfl
set_option maxRecDepth 100000 in
theorem qw147 : Cond.selects RX8 yX8_talk yX8_talk ∈ LW := lwm (tb2 (List.mem_of_getElem? (i := 198) rfl)) rfl
set_option maxRecDepth 100000 in
theorem qw148 : Cond.code yX8_talk cX8_talk 3 none ∈ LW := lwm (tb2 (List.mem_of_getElem? (i := 199) rfl)) rfl
set_option maxRecDepth 100000 in
theorem qw149 : Cond.methodLink RX3 75 yX8_areTwoHere ∈ LW := lwm (tb3 (List.mem_of_getElem? (i := 220) rfl)) rfl
set_option maxRecDepth 100000 in
theorem qw150 : Cond.instanceMethod yX8_areTwoHere ∈ LW := lwm (tb2 (List.mem_of_getElem? (i := 189) rfl)) rfl
set_option maxRecDepth 100000 in
theorem qw151 : Cond.selects RX8 yX8_areTwoHere yX8_areTwoHere ∈ LW := lwm (tb2 (List.mem_of_getElem? (i := 190) rfl)) rfl
set_option maxRecDepth 100000 in
theorem qw152 : Cond.code yX8_areTwoHere cX8_areTwoHere 3 (some .boolean) ∈ LW := lwm (tb2 (List.mem_of_getElem? (i := 191) rfl)) rfl
set_option maxRecDepth 100000 in
theorem qw153 : Cond.methodLink RX3 91 yX3_listenerAt ∈ LW := lwm (tb3 (List.mem_of_getElem? (i := 234) rfl)) rfl
set_option maxRecDepth 100000 in
theorem qw154 : Cond.static yX3_listenerAt ∈ LW := lwm (tb3 (List.mem_of_getElem? (i := 235) rfl)) rfl
set_option maxRecDepth 100000 in
theorem qw155 : Cond.code yX3_listenerAt cX3_listenerAt 2 (some .int) ∈ LW := lwm (tb3 (List.mem_of_getElem? (i := 236) rfl)) rfl
set_option maxRecDepth 100000 in
theorem qw156 : Cond.methodLink RX3 95 yX8_keeps ∈ LW := lwm (tb4 (List.mem_of_getElem? (i := 1) rfl)) rfl
set_option maxRecDepth 100000 in
theorem qw157 : Cond.instanceMethod yX8_keeps ∈ LW := lwm (tb4 (List.mem_of_getElem? (i := 2) rfl)) rfl
set_option maxRecDepth 100000 in
theorem qw158 : Cond.selects RX8 yX8_keeps yX8_keeps ∈ LW := lwm (tb4 (List.mem_of_getElem? (i := 3) rfl)) rfl
set_option maxRecDepth 100000 in
theorem qw159 : Cond.code yX8_keeps cX8_keeps 4 (some .boolean) ∈ LW := lwm (tb4 (List.mem_of_getElem? (i := 4) rfl)) rfl
set_option maxRecDepth 100000 in
theorem qw160 : Cond.methodLink RX3 87 yX3_isKeptBy ∈ LW := lwm (tb3 (List.mem_of_getElem? (i := 237) rfl)) rfl
set_option maxRecDepth 100000 in
theorem qw161 : Cond.instanceMethod yX3_isKeptBy ∈ LW := lwm (tb3 (List.mem_of_getElem? (i := 239) rfl)) rfl
set_option maxRecDepth 100000 in
theorem qw162 : Cond.selects RX3 yX3_isKeptBy yX3_isKeptBy ∈ LW := lwm (tb0 (List.mem_of_getElem? (i := 20) rfl)) rfl
set_option maxRecDepth 100000 in
theorem qw163 : Cond.code yX3_isKeptBy cX3_isKeptBy 6 (some .boolean) ∈ LW := lwm (tb4 (List.mem_of_getElem? (i := 0) rfl)) rfl
set_option maxRecDepth 100000 in
theorem qw164 : Cond.methodLink RX3 83 yX3_areListeners ∈ LW := lwm (tb3 (List.mem_of_getElem? (i := 230) rfl)) rfl
set_option maxRecDepth 100000 in
theorem qw165 : Cond.instanceMethod yX3_areListeners ∈ LW := lwm (tb3 (List.mem_of_getElem? (i := 232) rfl)) rfl
set_option maxRecDepth 100000 in
theorem qw166 : Cond.selects RX3 yX3_areListeners yX3_areListeners ∈ LW := lwm (tb0 (List.mem_of_getElem? (i := 19) rfl)) rfl
set_option maxRecDepth 100000 in
theorem qw167 : Cond.code yX3_areListeners cX3_areListeners 7 (some .boolean) ∈ LW := lwm (tb3 (List.mem_of_getElem? (i := 233) rfl)) rfl
set_option maxRecDepth 100000 in
theorem qw168 : Cond.constant RJ6 265 (1431655765) ∈ LW := lwm (tb3 (List.mem_of_getElem? (i := 121) rfl)) rfl
set_option maxRecDepth 100000 in
theorem qw169 : Cond.constant RJ6 266 (858993459) ∈ LW := lwm (tb3 (List.mem_of_getElem? (i := 122) rfl)) rfl
set_option maxRecDepth 100000 in
theorem qw170 : Cond.constant RJ6 267 (252645135) ∈ LW := lwm (tb3 (List.mem_of_getElem? (i := 123) rfl)) rfl
set_option maxRecDepth 100000 in
theorem qw171 : Cond.methodLink RX8 112 yJ6_bitCount_0f7a4 ∈ LW := lwm (tb3 (List.mem_of_getElem? (i := 118) rfl)) rfl
set_option maxRecDepth 100000 in
theorem qw172 : Cond.static yJ6_bitCount_0f7a4 ∈ LW := lwm (tb3 (List.mem_of_getElem? (i := 119) rfl)) rfl
set_option maxRecDepth 100000 in
theorem qw173 : Cond.initialized RJ6 ∈ LW := lwm (tb1 (List.mem_of_getElem? (i := 20) rfl)) rfl
set_option maxRecDepth 100000 in
theorem qw174 : Cond.code yJ6_bitCount_0f7a4 cJ6_bitCount_0f7a4 1 (some .int) ∈ LW := lwm (tb3 (List.mem_of_getElem? (i := 120) rfl)) rfl
set_option maxRecDepth 100000 in
theorem qw175 : Cond.methodLink RX8 109 yX8_hereBits ∈ LW := lwm (tb3 (List.mem_of_getElem? (i := 114) rfl)) rfl
set_option maxRecDepth 100000 in
theorem qw176 : Cond.methodLink RX3 102 yX8_countHere ∈ LW := lwm (tb4 (List.mem_of_getElem? (i := 14) rfl)) rfl
set_option maxRecDepth 100000 in
theorem qw177 : Cond.instanceMethod yX8_countHere ∈ LW := lwm (tb3 (List.mem_of_getElem? (i := 111) rfl)) rfl
set_option maxRecDepth 100000 in
theorem qw178 : Cond.selects RX8 yX8_countHere yX8_countHere ∈ LW := lwm (tb3 (List.mem_of_getElem? (i := 112) rfl)) rfl
set_option maxRecDepth 100000 in
theorem qw179 : Cond.code yX8_countHere cX8_countHere 1 (some .int) ∈ LW := lwm (tb3 (List.mem_of_getElem? (i := 113) rfl)) rfl
set_option maxRecDepth 100000 in
theorem qw180 : Cond.methodLink RX3 98 yX3_after ∈ LW := lwm (tb4 (List.mem_of_getElem? (i := 13) rfl)) rfl
set_option maxRecDepth 100000 in
theorem qw181 : Cond.instanceMethod yX3_after ∈ LW := lwm (tb3 (List.mem_of_getElem? (i := 147) rfl)) rfl
set_option maxRecDepth 100000 in
theorem qw182 : Cond.selects RX3 yX3_after yX3_after ∈ LW := lwm (tb3 (List.mem_of_getElem? (i := 148) rfl)) rfl
set_option maxRecDepth 100000 in
theorem qw183 : Cond.code yX3_after cX3_after 2 (some (.object "SoManyForgotten$Valley")) ∈ LW := lwm (tb3 (List.mem_of_getElem? (i := 149) rfl)) rfl
set_option maxRecDepth 100000 in
theorem qw184 : Cond.fieldLink RX3 105 "SoManyForgotten$Valley" "kind" "[I" ∈ LW := lwm (tb1 (List.mem_of_getElem? (i := 81) rfl)) rfl
set_option maxRecDepth 100000 in
theorem qw185 : Cond.methodLink RX3 114 Lib.Math.min.name ∈ LW := lwm (tb4 (List.mem_of_getElem? (i := 28) rfl)) rfl
set_option maxRecDepth 100000 in
theorem qw186 : Cond.methodLink RX3 111 yX8_comeBack ∈ LW := lwm (tb4 (List.mem_of_getElem? (i := 27) rfl)) rfl
set_option maxRecDepth 100000 in
theorem qw187 : Cond.instanceMethod yX8_comeBack ∈ LW := lwm (tb2 (List.mem_of_getElem? (i := 209) rfl)) rfl
set_option maxRecDepth 100000 in
theorem qw188 : Cond.selects RX8 yX8_comeBack yX8_comeBack ∈ LW := lwm (tb2 (List.mem_of_getElem? (i := 210) rfl)) rfl
set_option maxRecDepth 100000 in
theorem qw189 : Cond.code yX8_comeBack cX8_comeBack 2 none ∈ LW := lwm (tb2 (List.mem_of_getElem? (i := 211) rfl)) rfl
set_option maxRecDepth 100000 in
theorem qw190 : Cond.methodLink RX3 108 yX3_weeksIfBack ∈ LW := lwm (tb4 (List.mem_of_getElem? (i := 23) rfl)) rfl
set_option maxRecDepth 100000 in
theorem qw191 : Cond.instanceMethod yX3_weeksIfBack ∈ LW := lwm (tb4 (List.mem_of_getElem? (i := 24) rfl)) rfl
set_option maxRecDepth 100000 in
theorem qw192 : Cond.selects RX3 yX3_weeksIfBack yX3_weeksIfBack ∈ LW := lwm (tb4 (List.mem_of_getElem? (i := 25) rfl)) rfl
set_option maxRecDepth 100000 in
theorem qw193 : Cond.code yX3_weeksIfBack cX3_weeksIfBack 2 (some .int) ∈ LW := lwm (tb4 (List.mem_of_getElem? (i := 26) rfl)) rfl
set_option maxRecDepth 100000 in
theorem qw194 : Cond.methodLink RX8 117 yX8_memoryOf ∈ LW := lwm (tb4 (List.mem_of_getElem? (i := 39) rfl)) rfl
set_option maxRecDepth 100000 in
theorem qw195 : Cond.instanceMethod yX8_memoryOf ∈ LW := lwm (tb3 (List.mem_of_getElem? (i := 79) rfl)) rfl
set_option maxRecDepth 100000 in
theorem qw196 : Cond.selects RX8 yX8_memoryOf yX8_memoryOf ∈ LW := lwm (tb3 (List.mem_of_getElem? (i := 80) rfl)) rfl
set_option maxRecDepth 100000 in
theorem qw197 : Cond.code yX8_memoryOf cX8_memoryOf 3 (some .int) ∈ LW := lwm (tb3 (List.mem_of_getElem? (i := 81) rfl)) rfl
set_option maxRecDepth 100000 in
theorem qw198 : Cond.methodLink RX8 73 yX8_areTwoHere ∈ LW := lwm (tb4 (List.mem_of_getElem? (i := 38) rfl)) rfl
set_option maxRecDepth 100000 in
theorem qw199 : Cond.fieldLink RX3 9 "SoManyForgotten$Mind" "leagues" "[I" ∈ LW := lwm (tb1 (List.mem_of_getElem? (i := 136) rfl)) rfl
set_option maxRecDepth 100000 in
theorem qw200 : Cond.methodLink RX3 119 yX8_leagueOf ∈ LW := lwm (tb4 (List.mem_of_getElem? (i := 48) rfl)) rfl
set_option maxRecDepth 100000 in
theorem qw201 : Cond.instanceMethod yX8_leagueOf ∈ LW := lwm (tb4 (List.mem_of_getElem? (i := 35) rfl)) rfl
set_option maxRecDepth 100000 in
theorem qw202 : Cond.selects RX8 yX8_leagueOf yX8_leagueOf ∈ LW := lwm (tb4 (List.mem_of_getElem? (i := 36) rfl)) rfl
set_option maxRecDepth 100000 in
theorem qw203 : Cond.code yX8_leagueOf cX8_leagueOf 4 (some .int) ∈ LW := lwm (tb4 (List.mem_of_getElem? (i := 37) rfl)) rfl
set_option maxRecDepth 100000 in
theorem qw204 : Cond.methodLink RX3 127 yX3_isLeague ∈ LW := lwm (tb4 (List.mem_of_getElem? (i := 50) rfl)) rfl
set_option maxRecDepth 100000 in
theorem qw205 : Cond.instanceMethod yX3_isLeague ∈ LW := lwm (tb4 (List.mem_of_getElem? (i := 52) rfl)) rfl
set_option maxRecDepth 100000 in
theorem qw206 : Cond.selects RX3 yX3_isLeague yX3_isLeague ∈ LW := lwm (tb0 (List.mem_of_getElem? (i := 21) rfl)) rfl
set_option maxRecDepth 100000 in
theorem qw207 : Cond.code yX3_isLeague cX3_isLeague 5 (some .boolean) ∈ LW := lwm (tb4 (List.mem_of_getElem? (i := 53) rfl)) rfl
set_option maxRecDepth 100000 in
theorem qw208 : Cond.methodLink RX3 122 yJ6_bitCount_0f7a4 ∈ LW := lwm (tb4 (List.mem_of_getElem? (i := 49) rfl)) rfl
set_option maxRecDepth 100000 in
theorem qw209 : Cond.methodLink RX8 66 yX8_setMemory ∈ LW := lwm (tb2 (List.mem_of_getElem? (i := 161) rfl)) rfl
set_option maxRecDepth 100000 in
theorem qw210 : Cond.instanceMethod yX8_setMemory ∈ LW := lwm (tb2 (List.mem_of_getElem? (i := 162) rfl)) rfl
set_option maxRecDepth 100000 in
theorem qw211 : Cond.selects RX8 yX8_setMemory yX8_setMemory ∈ LW := lwm (tb2 (List.mem_of_getElem? (i := 163) rfl)) rfl
set_option maxRecDepth 100000 in
theorem qw212 : Cond.code yX8_setMemory cX8_setMemory 4 none ∈ LW := lwm (tb2 (List.mem_of_getElem? (i := 164) rfl)) rfl
set_option maxRecDepth 100000 in
theorem qw213 : Cond.fieldLink RX3 37 "SoManyForgotten$Mind" "otherwise" "LSoManyForgotten$Valley;" ∈ LW := lwm (tb1 (List.mem_of_getElem? (i := 135) rfl)) rfl
set_option maxRecDepth 100000 in
theorem qw214 : Cond.methodLink RX3 131 yX8_forgetOthers ∈ LW := lwm (tb4 (List.mem_of_getElem? (i := 87) rfl)) rfl
set_option maxRecDepth 100000 in
theorem qw215 : Cond.instanceMethod yX8_forgetOthers ∈ LW := lwm (tb4 (List.mem_of_getElem? (i := 88) rfl)) rfl
set_option maxRecDepth 100000 in
theorem qw216 : Cond.selects RX8 yX8_forgetOthers yX8_forgetOthers ∈ LW := lwm (tb4 (List.mem_of_getElem? (i := 89) rfl)) rfl
set_option maxRecDepth 100000 in
theorem qw217 : Cond.code yX8_forgetOthers cX8_forgetOthers 3 none ∈ LW := lwm (tb4 (List.mem_of_getElem? (i := 90) rfl)) rfl
set_option maxRecDepth 100000 in
theorem qw218 : Cond.methodLink RX3 134 yX8_leastKnown ∈ LW := lwm (tb4 (List.mem_of_getElem? (i := 91) rfl)) rfl
set_option maxRecDepth 100000 in
theorem qw219 : Cond.fieldLink RX3 137 "SoManyForgotten$Valley" "owed" "[I" ∈ LW := lwm (tb1 (List.mem_of_getElem? (i := 88) rfl)) rfl
set_option maxRecDepth 100000 in
theorem qw220 : Cond.methodLink RX8 77 yX8_talk ∈ LW := lwm (tb4 (List.mem_of_getElem? (i := 128) rfl)) rfl
set_option maxRecDepth 100000 in
theorem qw221 : Cond.methodLink RX3 144 yX8_talkToAll ∈ LW := lwm (tb4 (List.mem_of_getElem? (i := 124) rfl)) rfl
set_option maxRecDepth 100000 in
theorem qw222 : Cond.instanceMethod yX8_talkToAll ∈ LW := lwm (tb4 (List.mem_of_getElem? (i := 125) rfl)) rfl
set_option maxRecDepth 100000 in
theorem qw223 : Cond.selects RX8 yX8_talkToAll yX8_talkToAll ∈ LW := lwm (tb4 (List.mem_of_getElem? (i := 126) rfl)) rfl
set_option maxRecDepth 100000 in
theorem qw224 : Cond.code yX8_talkToAll cX8_talkToAll 3 none ∈ LW := lwm (tb4 (List.mem_of_getElem? (i := 127) rfl)) rfl
set_option maxRecDepth 100000 in
theorem qw225 : Cond.fieldLink RX3 15 "SoManyForgotten$Mind" "firstGains" "[I" ∈ LW := lwm (tb1 (List.mem_of_getElem? (i := 137) rfl)) rfl
set_option maxRecDepth 100000 in
theorem qw226 : Cond.fieldLink RX3 18 "SoManyForgotten$Mind" "otherGains" "[I" ∈ LW := lwm (tb1 (List.mem_of_getElem? (i := 138) rfl)) rfl
set_option maxRecDepth 100000 in
theorem qw227 : Cond.methodLink RX3 147 yX8_knownOf ∈ LW := lwm (tb4 (List.mem_of_getElem? (i := 129) rfl)) rfl
set_option maxRecDepth 100000 in
theorem qw228 : Cond.methodLink RX3 140 yX3_weighPair ∈ LW := lwm (tb4 (List.mem_of_getElem? (i := 120) rfl)) rfl
set_option maxRecDepth 100000 in
theorem qw229 : Cond.instanceMethod yX3_weighPair ∈ LW := lwm (tb4 (List.mem_of_getElem? (i := 122) rfl)) rfl
set_option maxRecDepth 100000 in
theorem qw230 : Cond.selects RX3 yX3_weighPair yX3_weighPair ∈ LW := lwm (tb0 (List.mem_of_getElem? (i := 24) rfl)) rfl
set_option maxRecDepth 100000 in
theorem qw231 : Cond.code yX3_weighPair cX3_weighPair 7 none ∈ LW := lwm (tb4 (List.mem_of_getElem? (i := 123) rfl)) rfl
set_option maxRecDepth 100000 in
theorem qw232 : Cond.methodLink RX3 157 yX8_holdFeast ∈ LW := lwm (tb4 (List.mem_of_getElem? (i := 143) rfl)) rfl
set_option maxRecDepth 100000 in
theorem qw233 : Cond.instanceMethod yX8_holdFeast ∈ LW := lwm (tb4 (List.mem_of_getElem? (i := 144) rfl)) rfl
set_option maxRecDepth 100000 in
theorem qw234 : Cond.selects RX8 yX8_holdFeast yX8_holdFeast ∈ LW := lwm (tb4 (List.mem_of_getElem? (i := 145) rfl)) rfl
set_option maxRecDepth 100000 in
theorem qw235 : Cond.code yX8_holdFeast cX8_holdFeast 2 none ∈ LW := lwm (tb4 (List.mem_of_getElem? (i := 146) rfl)) rfl
set_option maxRecDepth 100000 in
theorem qw236 : Cond.fieldLink RX3 167 "SoManyForgotten$Row" "size" "I" ∈ LW := lwm (tb1 (List.mem_of_getElem? (i := 178) rfl)) rfl
set_option maxRecDepth 100000 in
theorem qw237 : Cond.fieldLink RX3 175 "SoManyForgotten$Row" "numbers" "[I" ∈ LW := lwm (tb1 (List.mem_of_getElem? (i := 176) rfl)) rfl
set_option maxRecDepth 100000 in
theorem qw238 : Cond.methodLink RX3 172 yX8_memoryOf ∈ LW := lwm (tb4 (List.mem_of_getElem? (i := 178) rfl)) rfl
set_option maxRecDepth 100000 in
theorem qw239 : Cond.methodLink RX3 160 yX3_isMemoryAsTold ∈ LW := lwm (tb4 (List.mem_of_getElem? (i := 174) rfl)) rfl
set_option maxRecDepth 100000 in
theorem qw240 : Cond.instanceMethod yX3_isMemoryAsTold ∈ LW := lwm (tb4 (List.mem_of_getElem? (i := 176) rfl)) rfl
set_option maxRecDepth 100000 in
theorem qw241 : Cond.selects RX3 yX3_isMemoryAsTold yX3_isMemoryAsTold ∈ LW := lwm (tb0 (List.mem_of_getElem? (i := 26) rfl)) rfl
set_option maxRecDepth 100000 in
theorem qw242 : Cond.code yX3_isMemoryAsTold cX3_isMemoryAsTold 5 (some .boolean) ∈ LW := lwm (tb4 (List.mem_of_getElem? (i := 177) rfl)) rfl
set_option maxRecDepth 100000 in
theorem qw243 : Cond.fieldLink RX3 164 "SoManyForgotten$Valley" "figure" "[I" ∈ LW := lwm (tb1 (List.mem_of_getElem? (i := 84) rfl)) rfl
set_option maxRecDepth 100000 in
theorem qw244 : Cond.fieldLink RX3 21 "SoManyForgotten$Mind" "z" "I" ∈ LW := lwm (tb1 (List.mem_of_getElem? (i := 139) rfl)) rfl
set_option maxRecDepth 100000 in
theorem qw245 : Cond.constant RX3 191 (1664525) ∈ LW := lwm (tb4 (List.mem_of_getElem? (i := 227) rfl)) rfl
set_option maxRecDepth 100000 in
theorem qw246 : Cond.constant RX3 192 (1013904223) ∈ LW := lwm (tb4 (List.mem_of_getElem? (i := 228) rfl)) rfl
set_option maxRecDepth 100000 in
theorem qw247 : Cond.constant RX3 193 (2147483647) ∈ LW := lwm (tb4 (List.mem_of_getElem? (i := 229) rfl)) rfl
set_option maxRecDepth 100000 in
theorem qw248 : Cond.methodLink RX3 187 yX8_setMemory ∈ LW := lwm (tb4 (List.mem_of_getElem? (i := 230) rfl)) rfl
set_option maxRecDepth 100000 in
theorem qw249 : Cond.methodLink RX3 184 yX3_drawBelowHundred ∈ LW := lwm (tb4 (List.mem_of_getElem? (i := 223) rfl)) rfl
set_option maxRecDepth 100000 in
theorem qw250 : Cond.instanceMethod yX3_drawBelowHundred ∈ LW := lwm (tb4 (List.mem_of_getElem? (i := 225) rfl)) rfl
set_option maxRecDepth 100000 in
theorem qw251 : Cond.selects RX3 yX3_drawBelowHundred yX3_drawBelowHundred ∈ LW := lwm (tb0 (List.mem_of_getElem? (i := 28) rfl)) rfl
set_option maxRecDepth 100000 in
theorem qw252 : Cond.code yX3_drawBelowHundred cX3_drawBelowHundred 1 (some .int) ∈ LW := lwm (tb4 (List.mem_of_getElem? (i := 226) rfl)) rfl
set_option maxRecDepth 100000 in
theorem qw253 : Cond.methodLink RX3 181 yX8_knownTogether ∈ LW := lwm (tb4 (List.mem_of_getElem? (i := 231) rfl)) rfl
set_option maxRecDepth 100000 in
theorem qw254 : Cond.instanceMethod yX8_knownTogether ∈ LW := lwm (tb4 (List.mem_of_getElem? (i := 162) rfl)) rfl
set_option maxRecDepth 100000 in
theorem qw255 : Cond.selects RX8 yX8_knownTogether yX8_knownTogether ∈ LW := lwm (tb4 (List.mem_of_getElem? (i := 163) rfl)) rfl
set_option maxRecDepth 100000 in
theorem qw256 : Cond.code yX8_knownTogether cX8_knownTogether 3 (some .int) ∈ LW := lwm (tb4 (List.mem_of_getElem? (i := 164) rfl)) rfl
set_option maxRecDepth 100000 in
theorem qw257 : Cond.methodLink RX3 178 yX3_drawMemories ∈ LW := lwm (tb4 (List.mem_of_getElem? (i := 219) rfl)) rfl
set_option maxRecDepth 100000 in
theorem qw258 : Cond.instanceMethod yX3_drawMemories ∈ LW := lwm (tb4 (List.mem_of_getElem? (i := 221) rfl)) rfl
set_option maxRecDepth 100000 in
theorem qw259 : Cond.selects RX3 yX3_drawMemories yX3_drawMemories ∈ LW := lwm (tb0 (List.mem_of_getElem? (i := 27) rfl)) rfl
set_option maxRecDepth 100000 in
theorem qw260 : Cond.code yX3_drawMemories cX3_drawMemories 3 none ∈ LW := lwm (tb4 (List.mem_of_getElem? (i := 222) rfl)) rfl
set_option maxRecDepth 100000 in
theorem qw261 : Cond.fieldLink RX6 15 "SoManyForgotten$Row" "size" "I" ∈ LW := lwm (tb1 (List.mem_of_getElem? (i := 177) rfl)) rfl
set_option maxRecDepth 100000 in
theorem qw262 : Cond.fieldLink RX6 9 "SoManyForgotten$Row" "numbers" "[I" ∈ LW := lwm (tb1 (List.mem_of_getElem? (i := 175) rfl)) rfl
set_option maxRecDepth 100000 in
theorem qw263 : Cond.fieldLink RX7 15 "SoManyForgotten$Telling" "size" "I" ∈ LW := lwm (tb1 (List.mem_of_getElem? (i := 162) rfl)) rfl
set_option maxRecDepth 100000 in
theorem qw264 : Cond.fieldLink RX7 9 "SoManyForgotten$Telling" "letters" "[I" ∈ LW := lwm (tb1 (List.mem_of_getElem? (i := 161) rfl)) rfl
set_option maxRecDepth 100000 in
theorem qw265 : Cond.methodLink RX7 74 yX7_digit ∈ LW := lwm (tb2 (List.mem_of_getElem? (i := 153) rfl)) rfl
set_option maxRecDepth 100000 in
theorem qw266 : Cond.instanceMethod yX7_digit ∈ LW := lwm (tb2 (List.mem_of_getElem? (i := 155) rfl)) rfl
set_option maxRecDepth 100000 in
theorem qw267 : Cond.selects RX7 yX7_digit yX7_digit ∈ LW := lwm (tb0 (List.mem_of_getElem? (i := 6) rfl)) rfl
set_option maxRecDepth 100000 in
theorem qw268 : Cond.initialized RX7 ∈ LW := lwm (tb1 (List.mem_of_getElem? (i := 10) rfl)) rfl
set_option maxRecDepth 100000 in
theorem qw269 : Cond.code yX7_digit cX7_digit 2 (some .int) ∈ LW := lwm (tb2 (List.mem_of_getElem? (i := 156) rfl)) rfl
set_option maxRecDepth 100000 in
theorem qw270 : Cond.methodLink RX7 116 yX8_setMemory ∈ LW := lwm (tb2 (List.mem_of_getElem? (i := 180) rfl)) rfl
set_option maxRecDepth 100000 in
theorem qw271 : Cond.methodLink RX7 112 yX8_areTwo ∈ LW := lwm (tb2 (List.mem_of_getElem? (i := 172) rfl)) rfl
set_option maxRecDepth 100000 in
theorem qw272 : Cond.instanceMethod yX8_areTwo ∈ LW := lwm (tb2 (List.mem_of_getElem? (i := 173) rfl)) rfl
set_option maxRecDepth 100000 in
theorem qw273 : Cond.selects RX8 yX8_areTwo yX8_areTwo ∈ LW := lwm (tb2 (List.mem_of_getElem? (i := 174) rfl)) rfl
set_option maxRecDepth 100000 in
theorem qw274 : Cond.code yX8_areTwo cX8_areTwo 3 (some .boolean) ∈ LW := lwm (tb2 (List.mem_of_getElem? (i := 175) rfl)) rfl
set_option maxRecDepth 100000 in
theorem qw275 : Cond.fieldLink RX7 123 "SoManyForgotten$Valley" "owed" "[I" ∈ LW := lwm (tb1 (List.mem_of_getElem? (i := 87) rfl)) rfl
set_option maxRecDepth 100000 in
theorem qw276 : Cond.methodLink RX7 120 yX8_has ∈ LW := lwm (tb2 (List.mem_of_getElem? (i := 184) rfl)) rfl
set_option maxRecDepth 100000 in
theorem qw277 : Cond.methodLink RX7 129 yX8_talk ∈ LW := lwm (tb2 (List.mem_of_getElem? (i := 196) rfl)) rfl
set_option maxRecDepth 100000 in
theorem qw278 : Cond.methodLink RX7 126 yX8_areTwoHere ∈ LW := lwm (tb2 (List.mem_of_getElem? (i := 188) rfl)) rfl
set_option maxRecDepth 100000 in
theorem qw279 : Cond.fieldLink RX7 132 "SoManyForgotten$Valley" "here" "[Z" ∈ LW := lwm (tb1 (List.mem_of_getElem? (i := 92) rfl)) rfl
set_option maxRecDepth 100000 in
theorem qw280 : Cond.methodLink RX7 136 yX8_comeBack ∈ LW := lwm (tb2 (List.mem_of_getElem? (i := 208) rfl)) rfl
set_option maxRecDepth 100000 in
theorem qw281 : Cond.fieldLink RX7 140 "SoManyForgotten$Valley" "namesEachSpring" "I" ∈ LW := lwm (tb1 (List.mem_of_getElem? (i := 100) rfl)) rfl
set_option maxRecDepth 100000 in
theorem qw282 : Cond.fieldLink RX7 143 "SoManyForgotten$Valley" "week" "I" ∈ LW := lwm (tb1 (List.mem_of_getElem? (i := 103) rfl)) rfl
set_option maxRecDepth 100000 in
theorem qw283 : Cond.methodLink RX7 146 yX8_passWeek ∈ LW := lwm (tb2 (List.mem_of_getElem? (i := 222) rfl)) rfl
set_option maxRecDepth 100000 in
theorem qw284 : Cond.methodLink RX7 94 yX7_carryOutBack ∈ LW := lwm (tb2 (List.mem_of_getElem? (i := 205) rfl)) rfl
set_option maxRecDepth 100000 in
theorem qw285 : Cond.static yX7_carryOutBack ∈ LW := lwm (tb2 (List.mem_of_getElem? (i := 206) rfl)) rfl
set_option maxRecDepth 100000 in
theorem qw286 : Cond.code yX7_carryOutBack cX7_carryOutBack 2 (some .boolean) ∈ LW := lwm (tb2 (List.mem_of_getElem? (i := 207) rfl)) rfl
set_option maxRecDepth 100000 in
theorem qw287 : Cond.methodLink RX7 97 yX7_carryOutNames ∈ LW := lwm (tb2 (List.mem_of_getElem? (i := 216) rfl)) rfl
set_option maxRecDepth 100000 in
theorem qw288 : Cond.static yX7_carryOutNames ∈ LW := lwm (tb2 (List.mem_of_getElem? (i := 217) rfl)) rfl
set_option maxRecDepth 100000 in
theorem qw289 : Cond.code yX7_carryOutNames cX7_carryOutNames 2 (some .boolean) ∈ LW := lwm (tb2 (List.mem_of_getElem? (i := 218) rfl)) rfl
set_option maxRecDepth 100000 in
theorem qw290 : Cond.methodLink RX7 87 yX7_carryOutOwes ∈ LW := lwm (tb2 (List.mem_of_getElem? (i := 181) rfl)) rfl
set_option maxRecDepth 100000 in
theorem qw291 : Cond.static yX7_carryOutOwes ∈ LW := lwm (tb2 (List.mem_of_getElem? (i := 182) rfl)) rfl
set_option maxRecDepth 100000 in
theorem qw292 : Cond.code yX7_carryOutOwes cX7_carryOutOwes 3 (some .boolean) ∈ LW := lwm (tb2 (List.mem_of_getElem? (i := 183) rfl)) rfl
set_option maxRecDepth 100000 in
theorem qw293 : Cond.methodLink RX7 80 yX7_number ∈ LW := lwm (tb2 (List.mem_of_getElem? (i := 165) rfl)) rfl
set_option maxRecDepth 100000 in
theorem qw294 : Cond.instanceMethod yX7_number ∈ LW := lwm (tb2 (List.mem_of_getElem? (i := 167) rfl)) rfl
set_option maxRecDepth 100000 in
theorem qw295 : Cond.selects RX7 yX7_number yX7_number ∈ LW := lwm (tb0 (List.mem_of_getElem? (i := 7) rfl)) rfl
set_option maxRecDepth 100000 in
theorem qw296 : Cond.code yX7_number cX7_number 2 (some .int) ∈ LW := lwm (tb2 (List.mem_of_getElem? (i := 168) rfl)) rfl
set_option maxRecDepth 100000 in
theorem qw297 : Cond.methodLink RX8 120 yX8_areCold ∈ LW := lwm (tb4 (List.mem_of_getElem? (i := 63) rfl)) rfl
set_option maxRecDepth 100000 in
theorem qw298 : Cond.instanceMethod yX8_areCold ∈ LW := lwm (tb4 (List.mem_of_getElem? (i := 65) rfl)) rfl
set_option maxRecDepth 100000 in
theorem qw299 : Cond.selects RX8 yX8_areCold yX8_areCold ∈ LW := lwm (tb0 (List.mem_of_getElem? (i := 22) rfl)) rfl
set_option maxRecDepth 100000 in
theorem qw300 : Cond.code yX8_areCold cX8_areCold 3 (some .boolean) ∈ LW := lwm (tb4 (List.mem_of_getElem? (i := 66) rfl)) rfl
set_option maxRecDepth 100000 in
theorem qw301 : Cond.fieldLink RX10 65 "SoManyForgotten" "refusals" "[I" ∈ LW := lwm (tb1 (List.mem_of_getElem? (i := 191) rfl)) rfl
set_option maxRecDepth 100000 in
theorem qw302 : Cond.methodLink RX10 311 yX10_counted ∈ LW := lwm (tb1 (List.mem_of_getElem? (i := 228) rfl)) rfl
set_option maxRecDepth 100000 in
theorem qw303 : Cond.instanceMethod yX10_counted ∈ LW := lwm (tb1 (List.mem_of_getElem? (i := 230) rfl)) rfl
set_option maxRecDepth 100000 in
theorem qw304 : Cond.selects RX10 yX10_counted yX10_counted ∈ LW := lwm (tb0 (List.mem_of_getElem? (i := 1) rfl)) rfl
set_option maxRecDepth 100000 in
theorem qw305 : Cond.initialized RX10 ∈ LW := lwm (tb1 (List.mem_of_getElem? (i := 1) rfl)) rfl
set_option maxRecDepth 100000 in
theorem qw306 : Cond.code yX10_counted cX10_counted 2 (some .int) ∈ LW := lwm (tb1 (List.mem_of_getElem? (i := 231) rfl)) rfl
set_option maxRecDepth 100000 in
theorem qw307 : Cond.methodLink RX10 314 yX10_firstThatFits ∈ LW := lwm (tb1 (List.mem_of_getElem? (i := 225) rfl)) rfl
set_option maxRecDepth 100000 in
theorem qw308 : Cond.static yX10_firstThatFits ∈ LW := lwm (tb1 (List.mem_of_getElem? (i := 226) rfl)) rfl
set_option maxRecDepth 100000 in
theorem qw309 : Cond.code yX10_firstThatFits cX10_firstThatFits 2 (some .int) ∈ LW := lwm (tb1 (List.mem_of_getElem? (i := 227) rfl)) rfl
set_option maxRecDepth 100000 in
theorem qw310 : Cond.fieldLink RX10 54 "SoManyForgotten" "telling" "LSoManyForgotten$Telling;" ∈ LW := lwm (tb1 (List.mem_of_getElem? (i := 189) rfl)) rfl
set_option maxRecDepth 100000 in
theorem qw311 : Cond.methodLink RX10 77 yX7_isFull ∈ LW := lwm (tb1 (List.mem_of_getElem? (i := 217) rfl)) rfl
set_option maxRecDepth 100000 in
theorem qw312 : Cond.instanceMethod yX7_isFull ∈ LW := lwm (tb1 (List.mem_of_getElem? (i := 218) rfl)) rfl
set_option maxRecDepth 100000 in
theorem qw313 : Cond.selects RX7 yX7_isFull yX7_isFull ∈ LW := lwm (tb1 (List.mem_of_getElem? (i := 219) rfl)) rfl
set_option maxRecDepth 100000 in
theorem qw314 : Cond.code yX7_isFull cX7_isFull 1 (some .boolean) ∈ LW := lwm (tb1 (List.mem_of_getElem? (i := 220) rfl)) rfl
set_option maxRecDepth 100000 in
theorem qw315 : Cond.methodLink RX10 73 yX10_outside ∈ LW := lwm (tb1 (List.mem_of_getElem? (i := 214) rfl)) rfl
set_option maxRecDepth 100000 in
theorem qw316 : Cond.static yX10_outside ∈ LW := lwm (tb1 (List.mem_of_getElem? (i := 215) rfl)) rfl
set_option maxRecDepth 100000 in
theorem qw317 : Cond.code yX10_outside cX10_outside 3 (some .int) ∈ LW := lwm (tb1 (List.mem_of_getElem? (i := 216) rfl)) rfl
set_option maxRecDepth 100000 in
theorem qw318 : Cond.methodLink RX10 85 yX7_add ∈ LW := lwm (tb1 (List.mem_of_getElem? (i := 232) rfl)) rfl
set_option maxRecDepth 100000 in
theorem qw319 : Cond.instanceMethod yX7_add ∈ LW := lwm (tb1 (List.mem_of_getElem? (i := 233) rfl)) rfl
set_option maxRecDepth 100000 in
theorem qw320 : Cond.selects RX7 yX7_add yX7_add ∈ LW := lwm (tb1 (List.mem_of_getElem? (i := 234) rfl)) rfl
set_option maxRecDepth 100000 in
theorem qw321 : Cond.code yX7_add cX7_add 2 (some .int) ∈ LW := lwm (tb1 (List.mem_of_getElem? (i := 235) rfl)) rfl
set_option maxRecDepth 100000 in
theorem qw322 : Cond.methodLink RX10 81 yX10_refused_ ∈ LW := lwm (tb1 (List.mem_of_getElem? (i := 221) rfl)) rfl
set_option maxRecDepth 100000 in
theorem qw323 : Cond.instanceMethod yX10_refused_ ∈ LW := lwm (tb1 (List.mem_of_getElem? (i := 223) rfl)) rfl
set_option maxRecDepth 100000 in
theorem qw324 : Cond.selects RX10 yX10_refused_ yX10_refused_ ∈ LW := lwm (tb0 (List.mem_of_getElem? (i := 0) rfl)) rfl
set_option maxRecDepth 100000 in
theorem qw325 : Cond.code yX10_refused_ cX10_refused_ 3 (some .int) ∈ LW := lwm (tb1 (List.mem_of_getElem? (i := 224) rfl)) rfl
set_option maxRecDepth 100000 in
theorem qw326 : Cond.fieldLink RX10 39 "SoManyForgotten" "told" "LSoManyForgotten$Valley;" ∈ LW := lwm (tb1 (List.mem_of_getElem? (i := 187) rfl)) rfl
set_option maxRecDepth 100000 in
theorem qw327 : Cond.fieldLink RX10 32 "SoManyForgotten" "now" "LSoManyForgotten$Valley;" ∈ LW := lwm (tb1 (List.mem_of_getElem? (i := 185) rfl)) rfl
set_option maxRecDepth 100000 in
theorem qw328 : Cond.methodLink RX10 304 yX8_has ∈ LW := lwm (tb3 (List.mem_of_getElem? (i := 56) rfl)) rfl
set_option maxRecDepth 100000 in
theorem qw329 : Cond.fieldLink RX10 106 "SoManyForgotten$Valley" "kind" "[I" ∈ LW := lwm (tb1 (List.mem_of_getElem? (i := 80) rfl)) rfl
set_option maxRecDepth 100000 in
theorem qw330 : Cond.fieldLink RX10 109 "SoManyForgotten$Valley" "figure" "[I" ∈ LW := lwm (tb1 (List.mem_of_getElem? (i := 83) rfl)) rfl
set_option maxRecDepth 100000 in
theorem qw331 : Cond.fieldLink RX10 112 "SoManyForgotten$Valley" "here" "[Z" ∈ LW := lwm (tb1 (List.mem_of_getElem? (i := 90) rfl)) rfl
set_option maxRecDepth 100000 in
theorem qw332 : Cond.fieldLink RX10 116 "SoManyForgotten$Valley" "owed" "[I" ∈ LW := lwm (tb1 (List.mem_of_getElem? (i := 86) rfl)) rfl
set_option maxRecDepth 100000 in
theorem qw333 : Cond.methodLink RX10 119 yX8_knownOf ∈ LW := lwm (tb3 (List.mem_of_getElem? (i := 60) rfl)) rfl
set_option maxRecDepth 100000 in
theorem qw334 : Cond.methodLink RX10 122 yX8_mayBeNamed ∈ LW := lwm (tb3 (List.mem_of_getElem? (i := 61) rfl)) rfl
set_option maxRecDepth 100000 in
theorem qw335 : Cond.instanceMethod yX8_mayBeNamed ∈ LW := lwm (tb3 (List.mem_of_getElem? (i := 62) rfl)) rfl
set_option maxRecDepth 100000 in
theorem qw336 : Cond.selects RX8 yX8_mayBeNamed yX8_mayBeNamed ∈ LW := lwm (tb3 (List.mem_of_getElem? (i := 63) rfl)) rfl
set_option maxRecDepth 100000 in
theorem qw337 : Cond.code yX8_mayBeNamed cX8_mayBeNamed 2 (some .boolean) ∈ LW := lwm (tb3 (List.mem_of_getElem? (i := 64) rfl)) rfl
set_option maxRecDepth 100000 in
theorem qw338 : Cond.methodLink RX10 103 yX10_wrongWhat ∈ LW := lwm (tb3 (List.mem_of_getElem? (i := 57) rfl)) rfl
set_option maxRecDepth 100000 in
theorem qw339 : Cond.static yX10_wrongWhat ∈ LW := lwm (tb3 (List.mem_of_getElem? (i := 58) rfl)) rfl
set_option maxRecDepth 100000 in
theorem qw340 : Cond.code yX10_wrongWhat cX10_wrongWhat 2 (some .int) ∈ LW := lwm (tb3 (List.mem_of_getElem? (i := 59) rfl)) rfl
set_option maxRecDepth 100000 in
theorem qw341 : Cond.methodLink RX10 100 yX10_nobody ∈ LW := lwm (tb3 (List.mem_of_getElem? (i := 52) rfl)) rfl
set_option maxRecDepth 100000 in
theorem qw342 : Cond.instanceMethod yX10_nobody ∈ LW := lwm (tb3 (List.mem_of_getElem? (i := 54) rfl)) rfl
set_option maxRecDepth 100000 in
theorem qw343 : Cond.selects RX10 yX10_nobody yX10_nobody ∈ LW := lwm (tb0 (List.mem_of_getElem? (i := 13) rfl)) rfl
set_option maxRecDepth 100000 in
theorem qw344 : Cond.code yX10_nobody cX10_nobody 2 (some .int) ∈ LW := lwm (tb3 (List.mem_of_getElem? (i := 55) rfl)) rfl
set_option maxRecDepth 100000 in
theorem qw345 : Cond.methodLink RX10 307 yX8_areTwo ∈ LW := lwm (tb3 (List.mem_of_getElem? (i := 73) rfl)) rfl
set_option maxRecDepth 100000 in
theorem qw346 : Cond.methodLink RX10 131 yX8_memoryOf ∈ LW := lwm (tb3 (List.mem_of_getElem? (i := 78) rfl)) rfl
set_option maxRecDepth 100000 in
theorem qw347 : Cond.methodLink RX10 129 yX10_refused ∈ LW := lwm (tb3 (List.mem_of_getElem? (i := 74) rfl)) rfl
set_option maxRecDepth 100000 in
theorem qw348 : Cond.instanceMethod yX10_refused ∈ LW := lwm (tb3 (List.mem_of_getElem? (i := 76) rfl)) rfl
set_option maxRecDepth 100000 in
theorem qw349 : Cond.selects RX10 yX10_refused yX10_refused ∈ LW := lwm (tb0 (List.mem_of_getElem? (i := 15) rfl)) rfl
set_option maxRecDepth 100000 in
theorem qw350 : Cond.code yX10_refused cX10_refused 2 (some .int) ∈ LW := lwm (tb3 (List.mem_of_getElem? (i := 77) rfl)) rfl
set_option maxRecDepth 100000 in
theorem qw351 : Cond.methodLink RX10 126 yX10_notTwo ∈ LW := lwm (tb3 (List.mem_of_getElem? (i := 69) rfl)) rfl
set_option maxRecDepth 100000 in
theorem qw352 : Cond.instanceMethod yX10_notTwo ∈ LW := lwm (tb3 (List.mem_of_getElem? (i := 71) rfl)) rfl
set_option maxRecDepth 100000 in
theorem qw353 : Cond.selects RX10 yX10_notTwo yX10_notTwo ∈ LW := lwm (tb0 (List.mem_of_getElem? (i := 14) rfl)) rfl
set_option maxRecDepth 100000 in
theorem qw354 : Cond.code yX10_notTwo cX10_notTwo 3 (some .int) ∈ LW := lwm (tb3 (List.mem_of_getElem? (i := 72) rfl)) rfl
set_option maxRecDepth 100000 in
theorem qw355 : Cond.methodLink RX10 134 yX8_setMemory ∈ LW := lwm (tb3 (List.mem_of_getElem? (i := 86) rfl)) rfl
set_option maxRecDepth 100000 in
theorem qw356 : Cond.methodLink RX10 143 yX8_talk ∈ LW := lwm (tb3 (List.mem_of_getElem? (i := 99) rfl)) rfl
set_option maxRecDepth 100000 in
theorem qw357 : Cond.methodLink RX10 141 yX10_refused__ ∈ LW := lwm (tb3 (List.mem_of_getElem? (i := 95) rfl)) rfl
set_option maxRecDepth 100000 in
theorem qw358 : Cond.instanceMethod yX10_refused__ ∈ LW := lwm (tb3 (List.mem_of_getElem? (i := 97) rfl)) rfl
set_option maxRecDepth 100000 in
theorem qw359 : Cond.selects RX10 yX10_refused__ yX10_refused__ ∈ LW := lwm (tb0 (List.mem_of_getElem? (i := 17) rfl)) rfl
set_option maxRecDepth 100000 in
theorem qw360 : Cond.code yX10_refused__ cX10_refused__ 4 (some .int) ∈ LW := lwm (tb3 (List.mem_of_getElem? (i := 98) rfl)) rfl
set_option maxRecDepth 100000 in
theorem qw361 : Cond.methodLink RX10 138 yX10_forgotten ∈ LW := lwm (tb3 (List.mem_of_getElem? (i := 91) rfl)) rfl
set_option maxRecDepth 100000 in
theorem qw362 : Cond.instanceMethod yX10_forgotten ∈ LW := lwm (tb3 (List.mem_of_getElem? (i := 93) rfl)) rfl
set_option maxRecDepth 100000 in
theorem qw363 : Cond.selects RX10 yX10_forgotten yX10_forgotten ∈ LW := lwm (tb0 (List.mem_of_getElem? (i := 16) rfl)) rfl
set_option maxRecDepth 100000 in
theorem qw364 : Cond.code yX10_forgotten cX10_forgotten 2 (some .int) ∈ LW := lwm (tb3 (List.mem_of_getElem? (i := 94) rfl)) rfl
set_option maxRecDepth 100000 in
theorem qw365 : Cond.methodLink RX10 147 yX8_isHere ∈ LW := lwm (tb3 (List.mem_of_getElem? (i := 108) rfl)) rfl
set_option maxRecDepth 100000 in
theorem qw366 : Cond.methodLink RX10 154 yX8_countHere ∈ LW := lwm (tb3 (List.mem_of_getElem? (i := 110) rfl)) rfl
set_option maxRecDepth 100000 in
theorem qw367 : Cond.methodLink RX10 150 yX8_comeBack ∈ LW := lwm (tb3 (List.mem_of_getElem? (i := 109) rfl)) rfl
set_option maxRecDepth 100000 in
theorem qw368 : Cond.fieldLink RX10 158 "SoManyForgotten$Valley" "namesEachSpring" "I" ∈ LW := lwm (tb1 (List.mem_of_getElem? (i := 99) rfl)) rfl
set_option maxRecDepth 100000 in
theorem qw369 : Cond.fieldLink RX10 162 "SoManyForgotten$Valley" "week" "I" ∈ LW := lwm (tb1 (List.mem_of_getElem? (i := 102) rfl)) rfl
set_option maxRecDepth 100000 in
theorem qw370 : Cond.methodLink RX10 170 yX8_passWeeks ∈ LW := lwm (tb3 (List.mem_of_getElem? (i := 137) rfl)) rfl
set_option maxRecDepth 100000 in
theorem qw371 : Cond.methodLink RX10 165 Lib.Math.min.name ∈ LW := lwm (tb3 (List.mem_of_getElem? (i := 136) rfl)) rfl
set_option maxRecDepth 100000 in
theorem qw372 : Cond.fieldLink RX10 47 "SoManyForgotten" "mind" "LSoManyForgotten$Mind;" ∈ LW := lwm (tb1 (List.mem_of_getElem? (i := 188) rfl)) rfl
set_option maxRecDepth 100000 in
theorem qw373 : Cond.methodLink RX10 173 yX3_after ∈ LW := lwm (tb3 (List.mem_of_getElem? (i := 146) rfl)) rfl
set_option maxRecDepth 100000 in
theorem qw374 : Cond.methodLink RX10 177 yX8_forgottenBits ∈ LW := lwm (tb3 (List.mem_of_getElem? (i := 164) rfl)) rfl
set_option maxRecDepth 100000 in
theorem qw375 : Cond.instanceMethod yX8_forgottenBits ∈ LW := lwm (tb3 (List.mem_of_getElem? (i := 165) rfl)) rfl
set_option maxRecDepth 100000 in
theorem qw376 : Cond.selects RX8 yX8_forgottenBits yX8_forgottenBits ∈ LW := lwm (tb3 (List.mem_of_getElem? (i := 166) rfl)) rfl
set_option maxRecDepth 100000 in
theorem qw377 : Cond.code yX8_forgottenBits cX8_forgottenBits 1 (some .int) ∈ LW := lwm (tb3 (List.mem_of_getElem? (i := 167) rfl)) rfl
set_option maxRecDepth 100000 in
theorem qw378 : Cond.methodLink RX10 183 yX10_noneIfNever ∈ LW := lwm (tb3 (List.mem_of_getElem? (i := 180) rfl)) rfl
set_option maxRecDepth 100000 in
theorem qw379 : Cond.static yX10_noneIfNever ∈ LW := lwm (tb3 (List.mem_of_getElem? (i := 181) rfl)) rfl
set_option maxRecDepth 100000 in
theorem qw380 : Cond.code yX10_noneIfNever cX10_noneIfNever 1 (some .int) ∈ LW := lwm (tb3 (List.mem_of_getElem? (i := 182) rfl)) rfl
set_option maxRecDepth 100000 in
theorem qw381 : Cond.methodLink RX10 180 yX3_untilForgotten ∈ LW := lwm (tb3 (List.mem_of_getElem? (i := 172) rfl)) rfl
set_option maxRecDepth 100000 in
theorem qw382 : Cond.methodLink RX10 186 yX3_firstForgotten ∈ LW := lwm (tb3 (List.mem_of_getElem? (i := 187) rfl)) rfl
set_option maxRecDepth 100000 in
theorem qw383 : Cond.instanceMethod yX3_firstForgotten ∈ LW := lwm (tb3 (List.mem_of_getElem? (i := 188) rfl)) rfl
set_option maxRecDepth 100000 in
theorem qw384 : Cond.selects RX3 yX3_firstForgotten yX3_firstForgotten ∈ LW := lwm (tb3 (List.mem_of_getElem? (i := 189) rfl)) rfl
set_option maxRecDepth 100000 in
theorem qw385 : Cond.code yX3_firstForgotten cX3_firstForgotten 2 (some .int) ∈ LW := lwm (tb3 (List.mem_of_getElem? (i := 190) rfl)) rfl
set_option maxRecDepth 100000 in
theorem qw386 : Cond.methodLink RX10 189 yX3_untilFirstForgotten ∈ LW := lwm (tb3 (List.mem_of_getElem? (i := 197) rfl)) rfl
set_option maxRecDepth 100000 in
theorem qw387 : Cond.methodLink RX10 192 yX3_untilEmpty ∈ LW := lwm (tb3 (List.mem_of_getElem? (i := 198) rfl)) rfl
set_option maxRecDepth 100000 in
theorem qw388 : Cond.instanceMethod yX3_untilEmpty ∈ LW := lwm (tb3 (List.mem_of_getElem? (i := 199) rfl)) rfl
set_option maxRecDepth 100000 in
theorem qw389 : Cond.selects RX3 yX3_untilEmpty yX3_untilEmpty ∈ LW := lwm (tb3 (List.mem_of_getElem? (i := 200) rfl)) rfl
set_option maxRecDepth 100000 in
theorem qw390 : Cond.code yX3_untilEmpty cX3_untilEmpty 2 (some .int) ∈ LW := lwm (tb3 (List.mem_of_getElem? (i := 201) rfl)) rfl
set_option maxRecDepth 100000 in
theorem qw391 : Cond.methodLink RX10 198 yX8_bestKnown ∈ LW := lwm (tb3 (List.mem_of_getElem? (i := 207) rfl)) rfl
set_option maxRecDepth 100000 in
theorem qw392 : Cond.instanceMethod yX8_bestKnown ∈ LW := lwm (tb3 (List.mem_of_getElem? (i := 208) rfl)) rfl
set_option maxRecDepth 100000 in
theorem qw393 : Cond.selects RX8 yX8_bestKnown yX8_bestKnown ∈ LW := lwm (tb3 (List.mem_of_getElem? (i := 209) rfl)) rfl
set_option maxRecDepth 100000 in
theorem qw394 : Cond.code yX8_bestKnown cX8_bestKnown 4 (some .int) ∈ LW := lwm (tb3 (List.mem_of_getElem? (i := 210) rfl)) rfl
set_option maxRecDepth 100000 in
theorem qw395 : Cond.methodLink RX10 195 yX8_leastKnown ∈ LW := lwm (tb3 (List.mem_of_getElem? (i := 206) rfl)) rfl
set_option maxRecDepth 100000 in
theorem qw396 : Cond.methodLink RX10 201 yX3_bestToSpeakTo ∈ LW := lwm (tb3 (List.mem_of_getElem? (i := 215) rfl)) rfl
set_option maxRecDepth 100000 in
theorem qw397 : Cond.instanceMethod yX3_bestToSpeakTo ∈ LW := lwm (tb3 (List.mem_of_getElem? (i := 216) rfl)) rfl
set_option maxRecDepth 100000 in
theorem qw398 : Cond.selects RX3 yX3_bestToSpeakTo yX3_bestToSpeakTo ∈ LW := lwm (tb3 (List.mem_of_getElem? (i := 217) rfl)) rfl
set_option maxRecDepth 100000 in
theorem qw399 : Cond.code yX3_bestToSpeakTo cX3_bestToSpeakTo 6 (some .int) ∈ LW := lwm (tb3 (List.mem_of_getElem? (i := 218) rfl)) rfl
set_option maxRecDepth 100000 in
theorem qw400 : Cond.methodLink RX10 204 yX3_fewestTimes ∈ LW := lwm (tb3 (List.mem_of_getElem? (i := 226) rfl)) rfl
set_option maxRecDepth 100000 in
theorem qw401 : Cond.instanceMethod yX3_fewestTimes ∈ LW := lwm (tb3 (List.mem_of_getElem? (i := 227) rfl)) rfl
set_option maxRecDepth 100000 in
theorem qw402 : Cond.selects RX3 yX3_fewestTimes yX3_fewestTimes ∈ LW := lwm (tb3 (List.mem_of_getElem? (i := 228) rfl)) rfl
set_option maxRecDepth 100000 in
theorem qw403 : Cond.code yX3_fewestTimes cX3_fewestTimes 5 (some .int) ∈ LW := lwm (tb3 (List.mem_of_getElem? (i := 229) rfl)) rfl
set_option maxRecDepth 100000 in
theorem qw404 : Cond.methodLink RX10 207 yX3_bestAsDog ∈ LW := lwm (tb4 (List.mem_of_getElem? (i := 9) rfl)) rfl
set_option maxRecDepth 100000 in
theorem qw405 : Cond.instanceMethod yX3_bestAsDog ∈ LW := lwm (tb4 (List.mem_of_getElem? (i := 10) rfl)) rfl
set_option maxRecDepth 100000 in
theorem qw406 : Cond.selects RX3 yX3_bestAsDog yX3_bestAsDog ∈ LW := lwm (tb4 (List.mem_of_getElem? (i := 11) rfl)) rfl
set_option maxRecDepth 100000 in
theorem qw407 : Cond.code yX3_bestAsDog cX3_bestAsDog 5 (some .int) ∈ LW := lwm (tb4 (List.mem_of_getElem? (i := 12) rfl)) rfl
set_option maxRecDepth 100000 in
theorem qw408 : Cond.methodLink RX10 213 yX3_weeksIfBack ∈ LW := lwm (tb4 (List.mem_of_getElem? (i := 29) rfl)) rfl
set_option maxRecDepth 100000 in
theorem qw409 : Cond.methodLink RX10 210 yX3_bestToBring ∈ LW := lwm (tb4 (List.mem_of_getElem? (i := 19) rfl)) rfl
set_option maxRecDepth 100000 in
theorem qw410 : Cond.instanceMethod yX3_bestToBring ∈ LW := lwm (tb4 (List.mem_of_getElem? (i := 20) rfl)) rfl
set_option maxRecDepth 100000 in
theorem qw411 : Cond.selects RX3 yX3_bestToBring yX3_bestToBring ∈ LW := lwm (tb4 (List.mem_of_getElem? (i := 21) rfl)) rfl
set_option maxRecDepth 100000 in
theorem qw412 : Cond.code yX3_bestToBring cX3_bestToBring 5 (some .int) ∈ LW := lwm (tb4 (List.mem_of_getElem? (i := 22) rfl)) rfl
set_option maxRecDepth 100000 in
theorem qw413 : Cond.methodLink RX10 216 yX8_leagueOf ∈ LW := lwm (tb4 (List.mem_of_getElem? (i := 34) rfl)) rfl
set_option maxRecDepth 100000 in
theorem qw414 : Cond.methodLink RX10 222 yJ6_bitCount_0f7a4 ∈ LW := lwm (tb4 (List.mem_of_getElem? (i := 54) rfl)) rfl
set_option maxRecDepth 100000 in
theorem qw415 : Cond.methodLink RX10 219 yX3_largestLeague ∈ LW := lwm (tb4 (List.mem_of_getElem? (i := 44) rfl)) rfl
set_option maxRecDepth 100000 in
theorem qw416 : Cond.instanceMethod yX3_largestLeague ∈ LW := lwm (tb4 (List.mem_of_getElem? (i := 45) rfl)) rfl
set_option maxRecDepth 100000 in
theorem qw417 : Cond.selects RX3 yX3_largestLeague yX3_largestLeague ∈ LW := lwm (tb4 (List.mem_of_getElem? (i := 46) rfl)) rfl
set_option maxRecDepth 100000 in
theorem qw418 : Cond.code yX3_largestLeague cX3_largestLeague 3 (some .int) ∈ LW := lwm (tb4 (List.mem_of_getElem? (i := 47) rfl)) rfl
set_option maxRecDepth 100000 in
theorem qw419 : Cond.methodLink RX10 230 yX8_firstCold ∈ LW := lwm (tb4 (List.mem_of_getElem? (i := 67) rfl)) rfl
set_option maxRecDepth 100000 in
theorem qw420 : Cond.instanceMethod yX8_firstCold ∈ LW := lwm (tb4 (List.mem_of_getElem? (i := 68) rfl)) rfl
set_option maxRecDepth 100000 in
theorem qw421 : Cond.selects RX8 yX8_firstCold yX8_firstCold ∈ LW := lwm (tb4 (List.mem_of_getElem? (i := 69) rfl)) rfl
set_option maxRecDepth 100000 in
theorem qw422 : Cond.code yX8_firstCold cX8_firstCold 3 (some .int) ∈ LW := lwm (tb4 (List.mem_of_getElem? (i := 70) rfl)) rfl
set_option maxRecDepth 100000 in
theorem qw423 : Cond.methodLink RX10 227 yX8_countCold ∈ LW := lwm (tb4 (List.mem_of_getElem? (i := 59) rfl)) rfl
set_option maxRecDepth 100000 in
theorem qw424 : Cond.instanceMethod yX8_countCold ∈ LW := lwm (tb4 (List.mem_of_getElem? (i := 60) rfl)) rfl
set_option maxRecDepth 100000 in
theorem qw425 : Cond.selects RX8 yX8_countCold yX8_countCold ∈ LW := lwm (tb4 (List.mem_of_getElem? (i := 61) rfl)) rfl
set_option maxRecDepth 100000 in
theorem qw426 : Cond.code yX8_countCold cX8_countCold 4 (some .int) ∈ LW := lwm (tb4 (List.mem_of_getElem? (i := 62) rfl)) rfl
set_option maxRecDepth 100000 in
theorem qw427 : Cond.methodLink RX10 233 yX8_leastRemembered ∈ LW := lwm (tb4 (List.mem_of_getElem? (i := 75) rfl)) rfl
set_option maxRecDepth 100000 in
theorem qw428 : Cond.instanceMethod yX8_leastRemembered ∈ LW := lwm (tb4 (List.mem_of_getElem? (i := 76) rfl)) rfl
set_option maxRecDepth 100000 in
theorem qw429 : Cond.selects RX8 yX8_leastRemembered yX8_leastRemembered ∈ LW := lwm (tb4 (List.mem_of_getElem? (i := 77) rfl)) rfl
set_option maxRecDepth 100000 in
theorem qw430 : Cond.code yX8_leastRemembered cX8_leastRemembered 4 (some .int) ∈ LW := lwm (tb4 (List.mem_of_getElem? (i := 78) rfl)) rfl
set_option maxRecDepth 100000 in
theorem qw431 : Cond.methodLink RX10 236 yX3_powerOf ∈ LW := lwm (tb4 (List.mem_of_getElem? (i := 83) rfl)) rfl
set_option maxRecDepth 100000 in
theorem qw432 : Cond.instanceMethod yX3_powerOf ∈ LW := lwm (tb4 (List.mem_of_getElem? (i := 84) rfl)) rfl
set_option maxRecDepth 100000 in
theorem qw433 : Cond.selects RX3 yX3_powerOf yX3_powerOf ∈ LW := lwm (tb4 (List.mem_of_getElem? (i := 85) rfl)) rfl
set_option maxRecDepth 100000 in
theorem qw434 : Cond.code yX3_powerOf cX3_powerOf 5 (some .int) ∈ LW := lwm (tb4 (List.mem_of_getElem? (i := 86) rfl)) rfl
set_option maxRecDepth 100000 in
theorem qw435 : Cond.methodLink RX10 239 yX3_debtsVoid ∈ LW := lwm (tb4 (List.mem_of_getElem? (i := 96) rfl)) rfl
set_option maxRecDepth 100000 in
theorem qw436 : Cond.instanceMethod yX3_debtsVoid ∈ LW := lwm (tb4 (List.mem_of_getElem? (i := 97) rfl)) rfl
set_option maxRecDepth 100000 in
theorem qw437 : Cond.selects RX3 yX3_debtsVoid yX3_debtsVoid ∈ LW := lwm (tb4 (List.mem_of_getElem? (i := 98) rfl)) rfl
set_option maxRecDepth 100000 in
theorem qw438 : Cond.code yX3_debtsVoid cX3_debtsVoid 5 (some .int) ∈ LW := lwm (tb4 (List.mem_of_getElem? (i := 99) rfl)) rfl
set_option maxRecDepth 100000 in
theorem qw439 : Cond.methodLink RX10 242 yX8_memoryOverTheHill ∈ LW := lwm (tb4 (List.mem_of_getElem? (i := 104) rfl)) rfl
set_option maxRecDepth 100000 in
theorem qw440 : Cond.instanceMethod yX8_memoryOverTheHill ∈ LW := lwm (tb4 (List.mem_of_getElem? (i := 105) rfl)) rfl
set_option maxRecDepth 100000 in
theorem qw441 : Cond.selects RX8 yX8_memoryOverTheHill yX8_memoryOverTheHill ∈ LW := lwm (tb4 (List.mem_of_getElem? (i := 106) rfl)) rfl
set_option maxRecDepth 100000 in
theorem qw442 : Cond.code yX8_memoryOverTheHill cX8_memoryOverTheHill 4 (some .int) ∈ LW := lwm (tb4 (List.mem_of_getElem? (i := 107) rfl)) rfl
set_option maxRecDepth 100000 in
theorem qw443 : Cond.methodLink RX10 248 yX3_settled ∈ LW := lwm (tb4 (List.mem_of_getElem? (i := 116) rfl)) rfl
set_option maxRecDepth 100000 in
theorem qw444 : Cond.instanceMethod yX3_settled ∈ LW := lwm (tb4 (List.mem_of_getElem? (i := 117) rfl)) rfl
set_option maxRecDepth 100000 in
theorem qw445 : Cond.selects RX3 yX3_settled yX3_settled ∈ LW := lwm (tb4 (List.mem_of_getElem? (i := 118) rfl)) rfl
set_option maxRecDepth 100000 in
theorem qw446 : Cond.code yX3_settled cX3_settled 5 (some .int) ∈ LW := lwm (tb4 (List.mem_of_getElem? (i := 119) rfl)) rfl
set_option maxRecDepth 100000 in
theorem qw447 : Cond.methodLink RX10 245 yX10_refused___ ∈ LW := lwm (tb4 (List.mem_of_getElem? (i := 112) rfl)) rfl
set_option maxRecDepth 100000 in
theorem qw448 : Cond.instanceMethod yX10_refused___ ∈ LW := lwm (tb4 (List.mem_of_getElem? (i := 114) rfl)) rfl
set_option maxRecDepth 100000 in
theorem qw449 : Cond.selects RX10 yX10_refused___ yX10_refused___ ∈ LW := lwm (tb0 (List.mem_of_getElem? (i := 23) rfl)) rfl
set_option maxRecDepth 100000 in
theorem qw450 : Cond.code yX10_refused___ cX10_refused___ 5 (some .int) ∈ LW := lwm (tb4 (List.mem_of_getElem? (i := 115) rfl)) rfl
set_option maxRecDepth 100000 in
theorem qw451 : Cond.methodLink RX10 317 yX10_greatestDivisor ∈ LW := lwm (tb4 (List.mem_of_getElem? (i := 154) rfl)) rfl
set_option maxRecDepth 100000 in
theorem qw452 : Cond.static yX10_greatestDivisor ∈ LW := lwm (tb4 (List.mem_of_getElem? (i := 155) rfl)) rfl
set_option maxRecDepth 100000 in
theorem qw453 : Cond.code yX10_greatestDivisor cX10_greatestDivisor 11 (some .long) ∈ LW := lwm (tb4 (List.mem_of_getElem? (i := 156) rfl)) rfl
set_option maxRecDepth 100000 in
theorem qw454 : Cond.methodLink RX10 261 yX10_partOf ∈ LW := lwm (tb4 (List.mem_of_getElem? (i := 151) rfl)) rfl
set_option maxRecDepth 100000 in
theorem qw455 : Cond.static yX10_partOf ∈ LW := lwm (tb4 (List.mem_of_getElem? (i := 152) rfl)) rfl
set_option maxRecDepth 100000 in
theorem qw456 : Cond.code yX10_partOf cX10_partOf 7 (some .long) ∈ LW := lwm (tb4 (List.mem_of_getElem? (i := 153) rfl)) rfl
set_option maxRecDepth 100000 in
theorem qw457 : Cond.methodLink RX10 268 Lib.Math.max.name ∈ LW := lwm (tb4 (List.mem_of_getElem? (i := 165) rfl)) rfl
set_option maxRecDepth 100000 in
theorem qw458 : Cond.static Lib.Math.max.name ∈ LW := lwm (tb2 (List.mem_of_getElem? (i := 98) rfl)) rfl
set_option maxRecDepth 100000 in
theorem qw459 : Cond.code Lib.Math.max.name Lib.Math.max.code 2 (some .int) ∈ LW := lwm (tb2 (List.mem_of_getElem? (i := 99) rfl)) rfl
set_option maxRecDepth 100000 in
theorem qw460 : Cond.methodLink RX10 265 yX8_knownTogether ∈ LW := lwm (tb4 (List.mem_of_getElem? (i := 161) rfl)) rfl
set_option maxRecDepth 100000 in
theorem qw461 : Cond.constantLong RX10 251 (4000000000000000000) ∈ LW := lwm (tb4 (List.mem_of_getElem? (i := 134) rfl)) rfl
set_option maxRecDepth 100000 in
theorem qw462 : Cond.fieldLink RX10 61 "SoManyForgotten" "numbers" "LSoManyForgotten$Row;" ∈ LW := lwm (tb1 (List.mem_of_getElem? (i := 190) rfl)) rfl
set_option maxRecDepth 100000 in
theorem qw463 : Cond.methodLink RX10 275 yX3_figuresThatFit ∈ LW := lwm (tb4 (List.mem_of_getElem? (i := 179) rfl)) rfl
set_option maxRecDepth 100000 in
theorem qw464 : Cond.instanceMethod yX3_figuresThatFit ∈ LW := lwm (tb4 (List.mem_of_getElem? (i := 180) rfl)) rfl
set_option maxRecDepth 100000 in
theorem qw465 : Cond.selects RX3 yX3_figuresThatFit yX3_figuresThatFit ∈ LW := lwm (tb4 (List.mem_of_getElem? (i := 181) rfl)) rfl
set_option maxRecDepth 100000 in
theorem qw466 : Cond.code yX3_figuresThatFit cX3_figuresThatFit 6 (some .int) ∈ LW := lwm (tb4 (List.mem_of_getElem? (i := 182) rfl)) rfl
set_option maxRecDepth 100000 in
theorem qw467 : Cond.methodLink RX10 271 yX3_kindsThatFit ∈ LW := lwm (tb4 (List.mem_of_getElem? (i := 170) rfl)) rfl
set_option maxRecDepth 100000 in
theorem qw468 : Cond.instanceMethod yX3_kindsThatFit ∈ LW := lwm (tb4 (List.mem_of_getElem? (i := 171) rfl)) rfl
set_option maxRecDepth 100000 in
theorem qw469 : Cond.selects RX3 yX3_kindsThatFit yX3_kindsThatFit ∈ LW := lwm (tb4 (List.mem_of_getElem? (i := 172) rfl)) rfl
set_option maxRecDepth 100000 in
theorem qw470 : Cond.code yX3_kindsThatFit cX3_kindsThatFit 6 (some .int) ∈ LW := lwm (tb4 (List.mem_of_getElem? (i := 173) rfl)) rfl
set_option maxRecDepth 100000 in
theorem qw471 : Cond.methodLink RX10 278 yX6_isFull ∈ LW := lwm (tb4 (List.mem_of_getElem? (i := 187) rfl)) rfl
set_option maxRecDepth 100000 in
theorem qw472 : Cond.instanceMethod yX6_isFull ∈ LW := lwm (tb4 (List.mem_of_getElem? (i := 188) rfl)) rfl
set_option maxRecDepth 100000 in
theorem qw473 : Cond.selects RX6 yX6_isFull yX6_isFull ∈ LW := lwm (tb4 (List.mem_of_getElem? (i := 189) rfl)) rfl
set_option maxRecDepth 100000 in
theorem qw474 : Cond.initialized RX6 ∈ LW := lwm (tb1 (List.mem_of_getElem? (i := 11) rfl)) rfl
set_option maxRecDepth 100000 in
theorem qw475 : Cond.code yX6_isFull cX6_isFull 1 (some .boolean) ∈ LW := lwm (tb4 (List.mem_of_getElem? (i := 190) rfl)) rfl
set_option maxRecDepth 100000 in
theorem qw476 : Cond.methodLink RX10 279 yX6_add ∈ LW := lwm (tb4 (List.mem_of_getElem? (i := 191) rfl)) rfl
set_option maxRecDepth 100000 in
theorem qw477 : Cond.instanceMethod yX6_add ∈ LW := lwm (tb4 (List.mem_of_getElem? (i := 192) rfl)) rfl
set_option maxRecDepth 100000 in
theorem qw478 : Cond.selects RX6 yX6_add yX6_add ∈ LW := lwm (tb4 (List.mem_of_getElem? (i := 193) rfl)) rfl
set_option maxRecDepth 100000 in
theorem qw479 : Cond.code yX6_add cX6_add 2 (some .int) ∈ LW := lwm (tb4 (List.mem_of_getElem? (i := 194) rfl)) rfl
set_option maxRecDepth 100000 in
theorem qw480 : Cond.methodLink RX10 284 yX6_empty ∈ LW := lwm (tb4 (List.mem_of_getElem? (i := 203) rfl)) rfl
set_option maxRecDepth 100000 in
theorem qw481 : Cond.instanceMethod yX6_empty ∈ LW := lwm (tb4 (List.mem_of_getElem? (i := 204) rfl)) rfl
set_option maxRecDepth 100000 in
theorem qw482 : Cond.selects RX6 yX6_empty yX6_empty ∈ LW := lwm (tb4 (List.mem_of_getElem? (i := 205) rfl)) rfl
set_option maxRecDepth 100000 in
theorem qw483 : Cond.code yX6_empty cX6_empty 2 (some .int) ∈ LW := lwm (tb4 (List.mem_of_getElem? (i := 206) rfl)) rfl
set_option maxRecDepth 100000 in
theorem qw484 : Cond.methodLink RX10 280 yX3_firstNotSo ∈ LW := lwm (tb4 (List.mem_of_getElem? (i := 199) rfl)) rfl
set_option maxRecDepth 100000 in
theorem qw485 : Cond.instanceMethod yX3_firstNotSo ∈ LW := lwm (tb4 (List.mem_of_getElem? (i := 200) rfl)) rfl
set_option maxRecDepth 100000 in
theorem qw486 : Cond.selects RX3 yX3_firstNotSo yX3_firstNotSo ∈ LW := lwm (tb4 (List.mem_of_getElem? (i := 201) rfl)) rfl
set_option maxRecDepth 100000 in
theorem qw487 : Cond.code yX3_firstNotSo cX3_firstNotSo 3 (some .int) ∈ LW := lwm (tb4 (List.mem_of_getElem? (i := 202) rfl)) rfl
set_option maxRecDepth 100000 in
theorem qw488 : Cond.methodLink RX10 287 yX3_byLot ∈ LW := lwm (tb4 (List.mem_of_getElem? (i := 215) rfl)) rfl
set_option maxRecDepth 100000 in
theorem qw489 : Cond.instanceMethod yX3_byLot ∈ LW := lwm (tb4 (List.mem_of_getElem? (i := 216) rfl)) rfl
set_option maxRecDepth 100000 in
theorem qw490 : Cond.selects RX3 yX3_byLot yX3_byLot ∈ LW := lwm (tb4 (List.mem_of_getElem? (i := 217) rfl)) rfl
set_option maxRecDepth 100000 in
theorem qw491 : Cond.code yX3_byLot cX3_byLot 6 (some .int) ∈ LW := lwm (tb4 (List.mem_of_getElem? (i := 218) rfl)) rfl
set_option maxRecDepth 100000 in
theorem qw492 : Cond.fieldLink RX10 36 "SoManyForgotten" "kept" "LSoManyForgotten$Valley;" ∈ LW := lwm (tb1 (List.mem_of_getElem? (i := 186) rfl)) rfl
set_option maxRecDepth 100000 in
theorem qw493 : Cond.fieldLink RX10 69 "SoManyForgotten" "imageTaken" "Z" ∈ LW := lwm (tb1 (List.mem_of_getElem? (i := 192) rfl)) rfl
set_option maxRecDepth 100000 in
theorem qw494 : Cond.methodLink RX10 89 yX8_copy ∈ LW := lwm (tb2 (List.mem_of_getElem? (i := 0) rfl)) rfl
set_option maxRecDepth 100000 in
theorem qw495 : Cond.fieldLink RX10 291 "SoManyForgotten$Valley" "people" "I" ∈ LW := lwm (tb1 (List.mem_of_getElem? (i := 97) rfl)) rfl
set_option maxRecDepth 100000 in
theorem qw496 : Cond.methodLink RX10 294 yX8_hereBits ∈ LW := lwm (tb5 (List.mem_of_getElem? (i := 4) rfl)) rfl
set_option maxRecDepth 100000 in
theorem qw497 : Cond.methodLink RX10 297 yX8_owedTogether ∈ LW := lwm (tb5 (List.mem_of_getElem? (i := 5) rfl)) rfl
set_option maxRecDepth 100000 in
theorem qw498 : Cond.instanceMethod yX8_owedTogether ∈ LW := lwm (tb5 (List.mem_of_getElem? (i := 6) rfl)) rfl
set_option maxRecDepth 100000 in
theorem qw499 : Cond.selects RX8 yX8_owedTogether yX8_owedTogether ∈ LW := lwm (tb5 (List.mem_of_getElem? (i := 7) rfl)) rfl
set_option maxRecDepth 100000 in
theorem qw500 : Cond.code yX8_owedTogether cX8_owedTogether 3 (some .int) ∈ LW := lwm (tb5 (List.mem_of_getElem? (i := 8) rfl)) rfl
set_option maxRecDepth 100000 in
theorem qw501 : Cond.fieldLink RX10 300 "SoManyForgotten$Row" "size" "I" ∈ LW := lwm (tb1 (List.mem_of_getElem? (i := 179) rfl)) rfl
set_option maxRecDepth 100000 in
theorem qw502 : Cond.fieldLink RX10 303 "SoManyForgotten$Telling" "size" "I" ∈ LW := lwm (tb1 (List.mem_of_getElem? (i := 163) rfl)) rfl
set_option maxRecDepth 100000 in
theorem qw503 : Cond.fieldLink RX11 28 "SoManyForgottenModel" "refused" "[I" ∈ LW := lwm (tb5 (List.mem_of_getElem? (i := 22) rfl)) rfl
set_option maxRecDepth 100000 in
theorem qw504 : Cond.constantLong RX11 34 (4000000000000000000) ∈ LW := lwm (tb6 (List.mem_of_getElem? (i := 75) rfl)) rfl
set_option maxRecDepth 100000 in
theorem qw505 : Cond.methodLink RX11 36 yX11_no ∈ LW := lwm (tb5 (List.mem_of_getElem? (i := 59) rfl)) rfl
set_option maxRecDepth 100000 in
theorem qw506 : Cond.instanceMethod yX11_no ∈ LW := lwm (tb5 (List.mem_of_getElem? (i := 61) rfl)) rfl
set_option maxRecDepth 100000 in
theorem qw507 : Cond.selects RX11 yX11_no yX11_no ∈ LW := lwm (tb0 (List.mem_of_getElem? (i := 29) rfl)) rfl
set_option maxRecDepth 100000 in
theorem qw508 : Cond.initialized RX11 ∈ LW := lwm (tb1 (List.mem_of_getElem? (i := 12) rfl)) rfl
set_option maxRecDepth 100000 in
theorem qw509 : Cond.code yX11_no cX11_no 2 (some .int) ∈ LW := lwm (tb5 (List.mem_of_getElem? (i := 62) rfl)) rfl
set_option maxRecDepth 100000 in
theorem qw510 : Cond.fieldLink RX11 9 "SoManyForgottenModel" "s" "[I" ∈ LW := lwm (tb5 (List.mem_of_getElem? (i := 15) rfl)) rfl
set_option maxRecDepth 100000 in
theorem qw511 : Cond.methodLink RX11 40 yX11_isIn ∈ LW := lwm (tb5 (List.mem_of_getElem? (i := 86) rfl)) rfl
set_option maxRecDepth 100000 in
theorem qw512 : Cond.static yX11_isIn ∈ LW := lwm (tb5 (List.mem_of_getElem? (i := 87) rfl)) rfl
set_option maxRecDepth 100000 in
theorem qw513 : Cond.code yX11_isIn cX11_isIn 3 (some .boolean) ∈ LW := lwm (tb5 (List.mem_of_getElem? (i := 88) rfl)) rfl
set_option maxRecDepth 100000 in
theorem qw514 : Cond.methodLink RX11 44 yX11_isOne ∈ LW := lwm (tb5 (List.mem_of_getElem? (i := 110) rfl)) rfl
set_option maxRecDepth 100000 in
theorem qw515 : Cond.instanceMethod yX11_isOne ∈ LW := lwm (tb5 (List.mem_of_getElem? (i := 112) rfl)) rfl
set_option maxRecDepth 100000 in
theorem qw516 : Cond.selects RX11 yX11_isOne yX11_isOne ∈ LW := lwm (tb0 (List.mem_of_getElem? (i := 37) rfl)) rfl
set_option maxRecDepth 100000 in
theorem qw517 : Cond.code yX11_isOne cX11_isOne 2 (some .boolean) ∈ LW := lwm (tb5 (List.mem_of_getElem? (i := 113) rfl)) rfl
set_option maxRecDepth 100000 in
theorem qw518 : Cond.methodLink RX11 48 yX11_of ∈ LW := lwm (tb5 (List.mem_of_getElem? (i := 100) rfl)) rfl
set_option maxRecDepth 100000 in
theorem qw519 : Cond.static yX11_of ∈ LW := lwm (tb5 (List.mem_of_getElem? (i := 101) rfl)) rfl
set_option maxRecDepth 100000 in
theorem qw520 : Cond.code yX11_of cX11_of 2 (some .int) ∈ LW := lwm (tb5 (List.mem_of_getElem? (i := 102) rfl)) rfl
set_option maxRecDepth 100000 in
theorem qw521 : Cond.methodLink RX11 56 yX11_by ∈ LW := lwm (tb5 (List.mem_of_getElem? (i := 103) rfl)) rfl
set_option maxRecDepth 100000 in
theorem qw522 : Cond.static yX11_by ∈ LW := lwm (tb5 (List.mem_of_getElem? (i := 104) rfl)) rfl
set_option maxRecDepth 100000 in
theorem qw523 : Cond.code yX11_by cX11_by 2 (some .int) ∈ LW := lwm (tb5 (List.mem_of_getElem? (i := 105) rfl)) rfl
set_option maxRecDepth 100000 in
theorem qw524 : Cond.methodLink RX11 52 yX11_isHere ∈ LW := lwm (tb5 (List.mem_of_getElem? (i := 114) rfl)) rfl
set_option maxRecDepth 100000 in
theorem qw525 : Cond.static yX11_isHere ∈ LW := lwm (tb5 (List.mem_of_getElem? (i := 115) rfl)) rfl
set_option maxRecDepth 100000 in
theorem qw526 : Cond.code yX11_isHere cX11_isHere 2 (some .boolean) ∈ LW := lwm (tb5 (List.mem_of_getElem? (i := 116) rfl)) rfl
set_option maxRecDepth 100000 in
theorem qw527 : Cond.methodLink RX11 62 yX11_knownIn ∈ LW := lwm (tb5 (List.mem_of_getElem? (i := 141) rfl)) rfl
set_option maxRecDepth 100000 in
theorem qw528 : Cond.static yX11_knownIn ∈ LW := lwm (tb5 (List.mem_of_getElem? (i := 142) rfl)) rfl
set_option maxRecDepth 100000 in
theorem qw529 : Cond.code yX11_knownIn cX11_knownIn 4 (some .int) ∈ LW := lwm (tb5 (List.mem_of_getElem? (i := 143) rfl)) rfl
set_option maxRecDepth 100000 in
theorem qw530 : Cond.methodLink RX11 59 yX11_mayBeNamed ∈ LW := lwm (tb5 (List.mem_of_getElem? (i := 138) rfl)) rfl
set_option maxRecDepth 100000 in
theorem qw531 : Cond.static yX11_mayBeNamed ∈ LW := lwm (tb5 (List.mem_of_getElem? (i := 139) rfl)) rfl
set_option maxRecDepth 100000 in
theorem qw532 : Cond.code yX11_mayBeNamed cX11_mayBeNamed 3 (some .boolean) ∈ LW := lwm (tb5 (List.mem_of_getElem? (i := 140) rfl)) rfl
set_option maxRecDepth 100000 in
theorem qw533 : Cond.methodLink RX11 66 yX11_changeBy ∈ LW := lwm (tb5 (List.mem_of_getElem? (i := 132) rfl)) rfl
set_option maxRecDepth 100000 in
theorem qw534 : Cond.static yX11_changeBy ∈ LW := lwm (tb5 (List.mem_of_getElem? (i := 133) rfl)) rfl
set_option maxRecDepth 100000 in
theorem qw535 : Cond.code yX11_changeBy cX11_changeBy 6 (some .int) ∈ LW := lwm (tb5 (List.mem_of_getElem? (i := 134) rfl)) rfl
set_option maxRecDepth 100000 in
theorem qw536 : Cond.methodLink RX11 76 yX11_forgets ∈ LW := lwm (tb5 (List.mem_of_getElem? (i := 144) rfl)) rfl
set_option maxRecDepth 100000 in
theorem qw537 : Cond.static yX11_forgets ∈ LW := lwm (tb5 (List.mem_of_getElem? (i := 145) rfl)) rfl
set_option maxRecDepth 100000 in
theorem qw538 : Cond.code yX11_forgets cX11_forgets 3 none ∈ LW := lwm (tb5 (List.mem_of_getElem? (i := 146) rfl)) rfl
set_option maxRecDepth 100000 in
theorem qw539 : Cond.methodLink RX11 72 yX11_leastIn ∈ LW := lwm (tb5 (List.mem_of_getElem? (i := 135) rfl)) rfl
set_option maxRecDepth 100000 in
theorem qw540 : Cond.static yX11_leastIn ∈ LW := lwm (tb5 (List.mem_of_getElem? (i := 136) rfl)) rfl
set_option maxRecDepth 100000 in
theorem qw541 : Cond.code yX11_leastIn cX11_leastIn 3 (some .int) ∈ LW := lwm (tb5 (List.mem_of_getElem? (i := 137) rfl)) rfl
set_option maxRecDepth 100000 in
theorem qw542 : Cond.methodLink RX11 69 yX11_held ∈ LW := lwm (tb5 (List.mem_of_getElem? (i := 120) rfl)) rfl
set_option maxRecDepth 100000 in
theorem qw543 : Cond.static yX11_held ∈ LW := lwm (tb5 (List.mem_of_getElem? (i := 121) rfl)) rfl
set_option maxRecDepth 100000 in
theorem qw544 : Cond.code yX11_held cX11_held 1 (some .int) ∈ LW := lwm (tb5 (List.mem_of_getElem? (i := 122) rfl)) rfl
set_option maxRecDepth 100000 in
theorem qw545 : Cond.methodLink RX11 80 yX11_week ∈ LW := lwm (tb5 (List.mem_of_getElem? (i := 129) rfl)) rfl
set_option maxRecDepth 100000 in
theorem qw546 : Cond.static yX11_week ∈ LW := lwm (tb5 (List.mem_of_getElem? (i := 130) rfl)) rfl
set_option maxRecDepth 100000 in
theorem qw547 : Cond.code yX11_week cX11_week 4 none ∈ LW := lwm (tb5 (List.mem_of_getElem? (i := 131) rfl)) rfl
set_option maxRecDepth 100000 in
theorem qw548 : Cond.fieldLink RX11 84 "SoManyForgottenModel" "letterMany" "I" ∈ LW := lwm (tb5 (List.mem_of_getElem? (i := 23) rfl)) rfl
set_option maxRecDepth 100000 in
theorem qw549 : Cond.fieldLink RX11 22 "SoManyForgottenModel" "letters" "[I" ∈ LW := lwm (tb5 (List.mem_of_getElem? (i := 20) rfl)) rfl
set_option maxRecDepth 100000 in
theorem qw550 : Cond.fieldLink RX11 88 "SoManyForgottenModel" "place" "I" ∈ LW := lwm (tb5 (List.mem_of_getElem? (i := 25) rfl)) rfl
set_option maxRecDepth 100000 in
theorem qw551 : Cond.fieldLink RX11 31 "SoManyForgottenModel" "numbers" "[I" ∈ LW := lwm (tb5 (List.mem_of_getElem? (i := 26) rfl)) rfl
set_option maxRecDepth 100000 in
theorem qw552 : Cond.methodLink RX11 91 yX11_here ∈ LW := lwm (tb5 (List.mem_of_getElem? (i := 71) rfl)) rfl
set_option maxRecDepth 100000 in
theorem qw553 : Cond.instanceMethod yX11_here ∈ LW := lwm (tb5 (List.mem_of_getElem? (i := 73) rfl)) rfl
set_option maxRecDepth 100000 in
theorem qw554 : Cond.selects RX11 yX11_here yX11_here ∈ LW := lwm (tb0 (List.mem_of_getElem? (i := 31) rfl)) rfl
set_option maxRecDepth 100000 in
theorem qw555 : Cond.code yX11_here cX11_here 1 (some .int) ∈ LW := lwm (tb5 (List.mem_of_getElem? (i := 74) rfl)) rfl
set_option maxRecDepth 100000 in
theorem qw556 : Cond.methodLink RX11 95 yX11_kindBy ∈ LW := lwm (tb5 (List.mem_of_getElem? (i := 79) rfl)) rfl
set_option maxRecDepth 100000 in
theorem qw557 : Cond.static yX11_kindBy ∈ LW := lwm (tb5 (List.mem_of_getElem? (i := 80) rfl)) rfl
set_option maxRecDepth 100000 in
theorem qw558 : Cond.code yX11_kindBy cX11_kindBy 1 (some .int) ∈ LW := lwm (tb5 (List.mem_of_getElem? (i := 81) rfl)) rfl
set_option maxRecDepth 100000 in
theorem qw559 : Cond.methodLink RX11 102 yX11_readsNumber ∈ LW := lwm (tb5 (List.mem_of_getElem? (i := 82) rfl)) rfl
set_option maxRecDepth 100000 in
theorem qw560 : Cond.instanceMethod yX11_readsNumber ∈ LW := lwm (tb5 (List.mem_of_getElem? (i := 84) rfl)) rfl
set_option maxRecDepth 100000 in
theorem qw561 : Cond.selects RX11 yX11_readsNumber yX11_readsNumber ∈ LW := lwm (tb0 (List.mem_of_getElem? (i := 33) rfl)) rfl
set_option maxRecDepth 100000 in
theorem qw562 : Cond.code yX11_readsNumber cX11_readsNumber 4 (some .boolean) ∈ LW := lwm (tb5 (List.mem_of_getElem? (i := 85) rfl)) rfl
set_option maxRecDepth 100000 in
theorem qw563 : Cond.methodLink RX11 98 yX11_readsKind ∈ LW := lwm (tb5 (List.mem_of_getElem? (i := 75) rfl)) rfl
set_option maxRecDepth 100000 in
theorem qw564 : Cond.instanceMethod yX11_readsKind ∈ LW := lwm (tb5 (List.mem_of_getElem? (i := 77) rfl)) rfl
set_option maxRecDepth 100000 in
theorem qw565 : Cond.selects RX11 yX11_readsKind yX11_readsKind ∈ LW := lwm (tb0 (List.mem_of_getElem? (i := 32) rfl)) rfl
set_option maxRecDepth 100000 in
theorem qw566 : Cond.code yX11_readsKind cX11_readsKind 1 (some .boolean) ∈ LW := lwm (tb5 (List.mem_of_getElem? (i := 78) rfl)) rfl
set_option maxRecDepth 100000 in
theorem qw567 : Cond.methodLink RX11 116 yX11_comesBack ∈ LW := lwm (tb5 (List.mem_of_getElem? (i := 123) rfl)) rfl
set_option maxRecDepth 100000 in
theorem qw568 : Cond.static yX11_comesBack ∈ LW := lwm (tb5 (List.mem_of_getElem? (i := 124) rfl)) rfl
set_option maxRecDepth 100000 in
theorem qw569 : Cond.code yX11_comesBack cX11_comesBack 3 none ∈ LW := lwm (tb5 (List.mem_of_getElem? (i := 125) rfl)) rfl
set_option maxRecDepth 100000 in
theorem qw570 : Cond.methodLink RX11 106 yX11_adds ∈ LW := lwm (tb5 (List.mem_of_getElem? (i := 96) rfl)) rfl
set_option maxRecDepth 100000 in
theorem qw571 : Cond.instanceMethod yX11_adds ∈ LW := lwm (tb5 (List.mem_of_getElem? (i := 98) rfl)) rfl
set_option maxRecDepth 100000 in
theorem qw572 : Cond.selects RX11 yX11_adds yX11_adds ∈ LW := lwm (tb0 (List.mem_of_getElem? (i := 35) rfl)) rfl
set_option maxRecDepth 100000 in
theorem qw573 : Cond.code yX11_adds cX11_adds 5 (some .boolean) ∈ LW := lwm (tb5 (List.mem_of_getElem? (i := 99) rfl)) rfl
set_option maxRecDepth 100000 in
theorem qw574 : Cond.methodLink RX11 109 yX11_areTwo ∈ LW := lwm (tb5 (List.mem_of_getElem? (i := 106) rfl)) rfl
set_option maxRecDepth 100000 in
theorem qw575 : Cond.instanceMethod yX11_areTwo ∈ LW := lwm (tb5 (List.mem_of_getElem? (i := 108) rfl)) rfl
set_option maxRecDepth 100000 in
theorem qw576 : Cond.selects RX11 yX11_areTwo yX11_areTwo ∈ LW := lwm (tb0 (List.mem_of_getElem? (i := 36) rfl)) rfl
set_option maxRecDepth 100000 in
theorem qw577 : Cond.code yX11_areTwo cX11_areTwo 3 (some .boolean) ∈ LW := lwm (tb5 (List.mem_of_getElem? (i := 109) rfl)) rfl
set_option maxRecDepth 100000 in
theorem qw578 : Cond.methodLink RX11 112 yX11_speaksIn ∈ LW := lwm (tb5 (List.mem_of_getElem? (i := 117) rfl)) rfl
set_option maxRecDepth 100000 in
theorem qw579 : Cond.static yX11_speaksIn ∈ LW := lwm (tb5 (List.mem_of_getElem? (i := 118) rfl)) rfl
set_option maxRecDepth 100000 in
theorem qw580 : Cond.code yX11_speaksIn cX11_speaksIn 3 none ∈ LW := lwm (tb5 (List.mem_of_getElem? (i := 119) rfl)) rfl
set_option maxRecDepth 100000 in
theorem qw581 : Cond.methodLink RX11 119 yX11_weeksOn ∈ LW := lwm (tb5 (List.mem_of_getElem? (i := 126) rfl)) rfl
set_option maxRecDepth 100000 in
theorem qw582 : Cond.static yX11_weeksOn ∈ LW := lwm (tb5 (List.mem_of_getElem? (i := 127) rfl)) rfl
set_option maxRecDepth 100000 in
theorem qw583 : Cond.code yX11_weeksOn cX11_weeksOn 3 none ∈ LW := lwm (tb5 (List.mem_of_getElem? (i := 128) rfl)) rfl
set_option maxRecDepth 100000 in
theorem qw584 : Cond.methodLink RX11 122 yX11_readsStatement ∈ LW := lwm (tb5 (List.mem_of_getElem? (i := 67) rfl)) rfl
set_option maxRecDepth 100000 in
theorem qw585 : Cond.instanceMethod yX11_readsStatement ∈ LW := lwm (tb5 (List.mem_of_getElem? (i := 69) rfl)) rfl
set_option maxRecDepth 100000 in
theorem qw586 : Cond.selects RX11 yX11_readsStatement yX11_readsStatement ∈ LW := lwm (tb0 (List.mem_of_getElem? (i := 30) rfl)) rfl
set_option maxRecDepth 100000 in
theorem qw587 : Cond.code yX11_readsStatement cX11_readsStatement 3 (some .boolean) ∈ LW := lwm (tb5 (List.mem_of_getElem? (i := 70) rfl)) rfl
set_option maxRecDepth 100000 in
theorem qw588 : Cond.fieldLink RX11 19 "SoManyForgottenModel" "was" "[I" ∈ LW := lwm (tb5 (List.mem_of_getElem? (i := 18) rfl)) rfl
set_option maxRecDepth 100000 in
theorem qw589 : Cond.methodLink RX11 125 yX11_copies ∈ LW := lwm (tb5 (List.mem_of_getElem? (i := 89) rfl)) rfl
set_option maxRecDepth 100000 in
theorem qw590 : Cond.static yX11_copies ∈ LW := lwm (tb5 (List.mem_of_getElem? (i := 90) rfl)) rfl
set_option maxRecDepth 100000 in
theorem qw591 : Cond.code yX11_copies cX11_copies 3 none ∈ LW := lwm (tb5 (List.mem_of_getElem? (i := 91) rfl)) rfl
set_option maxRecDepth 100000 in
theorem qw592 : Cond.methodLink RX11 129 yX11_isDone ∈ LW := lwm (tb5 (List.mem_of_getElem? (i := 92) rfl)) rfl
set_option maxRecDepth 100000 in
theorem qw593 : Cond.instanceMethod yX11_isDone ∈ LW := lwm (tb5 (List.mem_of_getElem? (i := 94) rfl)) rfl
set_option maxRecDepth 100000 in
theorem qw594 : Cond.selects RX11 yX11_isDone yX11_isDone ∈ LW := lwm (tb0 (List.mem_of_getElem? (i := 34) rfl)) rfl
set_option maxRecDepth 100000 in
theorem qw595 : Cond.code yX11_isDone cX11_isDone 4 (some .boolean) ∈ LW := lwm (tb5 (List.mem_of_getElem? (i := 95) rfl)) rfl
set_option maxRecDepth 100000 in
theorem qw596 : Cond.methodLink RX11 132 yX11_wrongBy ∈ LW := lwm (tb5 (List.mem_of_getElem? (i := 159) rfl)) rfl
set_option maxRecDepth 100000 in
theorem qw597 : Cond.static yX11_wrongBy ∈ LW := lwm (tb5 (List.mem_of_getElem? (i := 160) rfl)) rfl
set_option maxRecDepth 100000 in
theorem qw598 : Cond.code yX11_wrongBy cX11_wrongBy 3 (some .int) ∈ LW := lwm (tb5 (List.mem_of_getElem? (i := 161) rfl)) rfl
set_option maxRecDepth 100000 in
theorem qw599 : Cond.methodLink RX11 139 yX11_bits ∈ LW := lwm (tb5 (List.mem_of_getElem? (i := 177) rfl)) rfl
set_option maxRecDepth 100000 in
theorem qw600 : Cond.static yX11_bits ∈ LW := lwm (tb5 (List.mem_of_getElem? (i := 178) rfl)) rfl
set_option maxRecDepth 100000 in
theorem qw601 : Cond.code yX11_bits cX11_bits 3 (some .int) ∈ LW := lwm (tb5 (List.mem_of_getElem? (i := 179) rfl)) rfl
set_option maxRecDepth 100000 in
theorem qw602 : Cond.methodLink RX11 136 yX11_hereIn ∈ LW := lwm (tb5 (List.mem_of_getElem? (i := 174) rfl)) rfl
set_option maxRecDepth 100000 in
theorem qw603 : Cond.static yX11_hereIn ∈ LW := lwm (tb5 (List.mem_of_getElem? (i := 175) rfl)) rfl
set_option maxRecDepth 100000 in
theorem qw604 : Cond.code yX11_hereIn cX11_hereIn 3 (some .int) ∈ LW := lwm (tb5 (List.mem_of_getElem? (i := 176) rfl)) rfl
set_option maxRecDepth 100000 in
theorem qw605 : Cond.fieldLink RX11 13 "SoManyForgottenModel" "m" "[I" ∈ LW := lwm (tb5 (List.mem_of_getElem? (i := 16) rfl)) rfl
set_option maxRecDepth 100000 in
theorem qw606 : Cond.methodLink RX11 142 yX11_takes ∈ LW := lwm (tb5 (List.mem_of_getElem? (i := 196) rfl)) rfl
set_option maxRecDepth 100000 in
theorem qw607 : Cond.instanceMethod yX11_takes ∈ LW := lwm (tb5 (List.mem_of_getElem? (i := 198) rfl)) rfl
set_option maxRecDepth 100000 in
theorem qw608 : Cond.selects RX11 yX11_takes yX11_takes ∈ LW := lwm (tb0 (List.mem_of_getElem? (i := 38) rfl)) rfl
set_option maxRecDepth 100000 in
theorem qw609 : Cond.code yX11_takes cX11_takes 2 none ∈ LW := lwm (tb5 (List.mem_of_getElem? (i := 199) rfl)) rfl
set_option maxRecDepth 100000 in
theorem qw610 : Cond.methodLink RX11 146 yX11_goesIn ∈ LW := lwm (tb5 (List.mem_of_getElem? (i := 216) rfl)) rfl
set_option maxRecDepth 100000 in
theorem qw611 : Cond.instanceMethod yX11_goesIn ∈ LW := lwm (tb5 (List.mem_of_getElem? (i := 218) rfl)) rfl
set_option maxRecDepth 100000 in
theorem qw612 : Cond.selects RX11 yX11_goesIn yX11_goesIn ∈ LW := lwm (tb0 (List.mem_of_getElem? (i := 40) rfl)) rfl
set_option maxRecDepth 100000 in
theorem qw613 : Cond.code yX11_goesIn cX11_goesIn 3 (some .int) ∈ LW := lwm (tb5 (List.mem_of_getElem? (i := 219) rfl)) rfl
set_option maxRecDepth 100000 in
theorem qw614 : Cond.methodLink RX11 149 yX11_goesOf ∈ LW := lwm (tb5 (List.mem_of_getElem? (i := 212) rfl)) rfl
set_option maxRecDepth 100000 in
theorem qw615 : Cond.instanceMethod yX11_goesOf ∈ LW := lwm (tb5 (List.mem_of_getElem? (i := 214) rfl)) rfl
set_option maxRecDepth 100000 in
theorem qw616 : Cond.selects RX11 yX11_goesOf yX11_goesOf ∈ LW := lwm (tb0 (List.mem_of_getElem? (i := 39) rfl)) rfl
set_option maxRecDepth 100000 in
theorem qw617 : Cond.code yX11_goesOf cX11_goesOf 2 (some .int) ∈ LW := lwm (tb5 (List.mem_of_getElem? (i := 215) rfl)) rfl
set_option maxRecDepth 100000 in
theorem qw618 : Cond.constant RX11 155 (1000000000) ∈ LW := lwm (tb5 (List.mem_of_getElem? (i := 228) rfl)) rfl
set_option maxRecDepth 100000 in
theorem qw619 : Cond.methodLink RX11 152 yX11_emptyBehind ∈ LW := lwm (tb5 (List.mem_of_getElem? (i := 224) rfl)) rfl
set_option maxRecDepth 100000 in
theorem qw620 : Cond.instanceMethod yX11_emptyBehind ∈ LW := lwm (tb5 (List.mem_of_getElem? (i := 226) rfl)) rfl
set_option maxRecDepth 100000 in
theorem qw621 : Cond.selects RX11 yX11_emptyBehind yX11_emptyBehind ∈ LW := lwm (tb0 (List.mem_of_getElem? (i := 41) rfl)) rfl
set_option maxRecDepth 100000 in
theorem qw622 : Cond.code yX11_emptyBehind cX11_emptyBehind 2 (some .int) ∈ LW := lwm (tb5 (List.mem_of_getElem? (i := 227) rfl)) rfl
set_option maxRecDepth 100000 in
theorem qw623 : Cond.methodLink RX11 159 yX11_orNever ∈ LW := lwm (tb6 (List.mem_of_getElem? (i := 1) rfl)) rfl
set_option maxRecDepth 100000 in
theorem qw624 : Cond.static yX11_orNever ∈ LW := lwm (tb6 (List.mem_of_getElem? (i := 2) rfl)) rfl
set_option maxRecDepth 100000 in
theorem qw625 : Cond.code yX11_orNever cX11_orNever 1 (some .int) ∈ LW := lwm (tb6 (List.mem_of_getElem? (i := 3) rfl)) rfl
set_option maxRecDepth 100000 in
theorem qw626 : Cond.methodLink RX11 156 yX11_wrongOne ∈ LW := lwm (tb5 (List.mem_of_getElem? (i := 237) rfl)) rfl
set_option maxRecDepth 100000 in
theorem qw627 : Cond.instanceMethod yX11_wrongOne ∈ LW := lwm (tb5 (List.mem_of_getElem? (i := 239) rfl)) rfl
set_option maxRecDepth 100000 in
theorem qw628 : Cond.selects RX11 yX11_wrongOne yX11_wrongOne ∈ LW := lwm (tb0 (List.mem_of_getElem? (i := 42) rfl)) rfl
set_option maxRecDepth 100000 in
theorem qw629 : Cond.code yX11_wrongOne cX11_wrongOne 2 (some .int) ∈ LW := lwm (tb6 (List.mem_of_getElem? (i := 0) rfl)) rfl
set_option maxRecDepth 100000 in
theorem qw630 : Cond.methodLink RX11 162 yX11_isHereBy ∈ LW := lwm (tb6 (List.mem_of_getElem? (i := 8) rfl)) rfl
set_option maxRecDepth 100000 in
theorem qw631 : Cond.instanceMethod yX11_isHereBy ∈ LW := lwm (tb6 (List.mem_of_getElem? (i := 10) rfl)) rfl
set_option maxRecDepth 100000 in
theorem qw632 : Cond.selects RX11 yX11_isHereBy yX11_isHereBy ∈ LW := lwm (tb0 (List.mem_of_getElem? (i := 43) rfl)) rfl
set_option maxRecDepth 100000 in
theorem qw633 : Cond.code yX11_isHereBy cX11_isHereBy 8 (some .boolean) ∈ LW := lwm (tb6 (List.mem_of_getElem? (i := 11) rfl)) rfl
set_option maxRecDepth 100000 in
theorem qw634 : Cond.methodLink RX11 166 yX11_areLeagued ∈ LW := lwm (tb6 (List.mem_of_getElem? (i := 24) rfl)) rfl
set_option maxRecDepth 100000 in
theorem qw635 : Cond.instanceMethod yX11_areLeagued ∈ LW := lwm (tb6 (List.mem_of_getElem? (i := 26) rfl)) rfl
set_option maxRecDepth 100000 in
theorem qw636 : Cond.selects RX11 yX11_areLeagued yX11_areLeagued ∈ LW := lwm (tb0 (List.mem_of_getElem? (i := 44) rfl)) rfl
set_option maxRecDepth 100000 in
theorem qw637 : Cond.code yX11_areLeagued cX11_areLeagued 3 (some .boolean) ∈ LW := lwm (tb6 (List.mem_of_getElem? (i := 27) rfl)) rfl
set_option maxRecDepth 100000 in
theorem qw638 : Cond.methodLink RX11 169 yX11_has ∈ LW := lwm (tb6 (List.mem_of_getElem? (i := 32) rfl)) rfl
set_option maxRecDepth 100000 in
theorem qw639 : Cond.static yX11_has ∈ LW := lwm (tb6 (List.mem_of_getElem? (i := 33) rfl)) rfl
set_option maxRecDepth 100000 in
theorem qw640 : Cond.code yX11_has cX11_has 2 (some .boolean) ∈ LW := lwm (tb6 (List.mem_of_getElem? (i := 34) rfl)) rfl
set_option maxRecDepth 100000 in
theorem qw641 : Cond.methodLink RX11 172 yX11_speaksToAll ∈ LW := lwm (tb6 (List.mem_of_getElem? (i := 63) rfl)) rfl
set_option maxRecDepth 100000 in
theorem qw642 : Cond.instanceMethod yX11_speaksToAll ∈ LW := lwm (tb6 (List.mem_of_getElem? (i := 65) rfl)) rfl
set_option maxRecDepth 100000 in
theorem qw643 : Cond.selects RX11 yX11_speaksToAll yX11_speaksToAll ∈ LW := lwm (tb0 (List.mem_of_getElem? (i := 46) rfl)) rfl
set_option maxRecDepth 100000 in
theorem qw644 : Cond.code yX11_speaksToAll cX11_speaksToAll 3 none ∈ LW := lwm (tb6 (List.mem_of_getElem? (i := 66) rfl)) rfl
set_option maxRecDepth 100000 in
theorem qw645 : Cond.methodLink RX11 175 yX11_hasBy ∈ LW := lwm (tb6 (List.mem_of_getElem? (i := 59) rfl)) rfl
set_option maxRecDepth 100000 in
theorem qw646 : Cond.instanceMethod yX11_hasBy ∈ LW := lwm (tb6 (List.mem_of_getElem? (i := 61) rfl)) rfl
set_option maxRecDepth 100000 in
theorem qw647 : Cond.selects RX11 yX11_hasBy yX11_hasBy ∈ LW := lwm (tb0 (List.mem_of_getElem? (i := 45) rfl)) rfl
set_option maxRecDepth 100000 in
theorem qw648 : Cond.code yX11_hasBy cX11_hasBy 7 (some .int) ∈ LW := lwm (tb6 (List.mem_of_getElem? (i := 62) rfl)) rfl
set_option maxRecDepth 100000 in
theorem qw649 : Cond.methodLink RX11 179 yX11_gcd ∈ LW := lwm (tb6 (List.mem_of_getElem? (i := 82) rfl)) rfl
set_option maxRecDepth 100000 in
theorem qw650 : Cond.static yX11_gcd ∈ LW := lwm (tb6 (List.mem_of_getElem? (i := 83) rfl)) rfl
set_option maxRecDepth 100000 in
theorem qw651 : Cond.code yX11_gcd cX11_gcd 10 (some .long) ∈ LW := lwm (tb6 (List.mem_of_getElem? (i := 84) rfl)) rfl
set_option maxRecDepth 100000 in
theorem qw652 : Cond.methodLink RX11 183 yX11_noWide ∈ LW := lwm (tb6 (List.mem_of_getElem? (i := 71) rfl)) rfl
set_option maxRecDepth 100000 in
theorem qw653 : Cond.instanceMethod yX11_noWide ∈ LW := lwm (tb6 (List.mem_of_getElem? (i := 73) rfl)) rfl
set_option maxRecDepth 100000 in
theorem qw654 : Cond.selects RX11 yX11_noWide yX11_noWide ∈ LW := lwm (tb0 (List.mem_of_getElem? (i := 47) rfl)) rfl
set_option maxRecDepth 100000 in
theorem qw655 : Cond.code yX11_noWide cX11_noWide 2 (some .long) ∈ LW := lwm (tb6 (List.mem_of_getElem? (i := 74) rfl)) rfl
set_option maxRecDepth 100000 in
theorem qw656 : Cond.methodLink RX11 190 yX11_partOf ∈ LW := lwm (tb6 (List.mem_of_getElem? (i := 79) rfl)) rfl
set_option maxRecDepth 100000 in
theorem qw657 : Cond.static yX11_partOf ∈ LW := lwm (tb6 (List.mem_of_getElem? (i := 80) rfl)) rfl
set_option maxRecDepth 100000 in
theorem qw658 : Cond.code yX11_partOf cX11_partOf 5 (some .long) ∈ LW := lwm (tb6 (List.mem_of_getElem? (i := 81) rfl)) rfl
set_option maxRecDepth 100000 in
theorem qw659 : Cond.methodLink RX11 187 yX11_feasts ∈ LW := lwm (tb6 (List.mem_of_getElem? (i := 76) rfl)) rfl
set_option maxRecDepth 100000 in
theorem qw660 : Cond.static yX11_feasts ∈ LW := lwm (tb6 (List.mem_of_getElem? (i := 77) rfl)) rfl
set_option maxRecDepth 100000 in
theorem qw661 : Cond.code yX11_feasts cX11_feasts 3 none ∈ LW := lwm (tb6 (List.mem_of_getElem? (i := 78) rfl)) rfl
set_option maxRecDepth 100000 in
theorem qw662 : Cond.methodLink RX11 194 yX11_knownAll ∈ LW := lwm (tb6 (List.mem_of_getElem? (i := 89) rfl)) rfl
set_option maxRecDepth 100000 in
theorem qw663 : Cond.static yX11_knownAll ∈ LW := lwm (tb6 (List.mem_of_getElem? (i := 90) rfl)) rfl
set_option maxRecDepth 100000 in
theorem qw664 : Cond.code yX11_knownAll cX11_knownAll 3 (some .int) ∈ LW := lwm (tb6 (List.mem_of_getElem? (i := 91) rfl)) rfl
set_option maxRecDepth 100000 in
theorem qw665 : Cond.fieldLink RX11 197 "SoManyForgottenModel" "rowMany" "I" ∈ LW := lwm (tb5 (List.mem_of_getElem? (i := 24) rfl)) rfl
set_option maxRecDepth 100000 in
theorem qw666 : Cond.fieldLink RX11 25 "SoManyForgottenModel" "row" "[I" ∈ LW := lwm (tb5 (List.mem_of_getElem? (i := 21) rfl)) rfl
set_option maxRecDepth 100000 in
theorem qw667 : Cond.fieldLink RX11 200 "SoManyForgottenModel" "seed" "I" ∈ LW := lwm (tb5 (List.mem_of_getElem? (i := 27) rfl)) rfl
set_option maxRecDepth 100000 in
theorem qw668 : Cond.constant RX11 203 (1664525) ∈ LW := lwm (tb6 (List.mem_of_getElem? (i := 116) rfl)) rfl
set_option maxRecDepth 100000 in
theorem qw669 : Cond.constant RX11 204 (1013904223) ∈ LW := lwm (tb6 (List.mem_of_getElem? (i := 117) rfl)) rfl
set_option maxRecDepth 100000 in
theorem qw670 : Cond.constant RX11 205 (2147483647) ∈ LW := lwm (tb6 (List.mem_of_getElem? (i := 118) rfl)) rfl
set_option maxRecDepth 100000 in
theorem qw671 : Cond.methodLink RX11 206 yX11_drawn ∈ LW := lwm (tb6 (List.mem_of_getElem? (i := 112) rfl)) rfl
set_option maxRecDepth 100000 in
theorem qw672 : Cond.instanceMethod yX11_drawn ∈ LW := lwm (tb6 (List.mem_of_getElem? (i := 114) rfl)) rfl
set_option maxRecDepth 100000 in
theorem qw673 : Cond.selects RX11 yX11_drawn yX11_drawn ∈ LW := lwm (tb0 (List.mem_of_getElem? (i := 48) rfl)) rfl
set_option maxRecDepth 100000 in
theorem qw674 : Cond.code yX11_drawn cX11_drawn 2 (some .int) ∈ LW := lwm (tb6 (List.mem_of_getElem? (i := 115) rfl)) rfl
set_option maxRecDepth 100000 in
theorem qw675 : Cond.fieldLink RX11 16 "SoManyForgottenModel" "image" "[I" ∈ LW := lwm (tb5 (List.mem_of_getElem? (i := 17) rfl)) rfl
set_option maxRecDepth 100000 in
theorem qw676 : Cond.fieldLink RX11 209 "SoManyForgottenModel" "hasImage" "Z" ∈ LW := lwm (tb5 (List.mem_of_getElem? (i := 19) rfl)) rfl
set_option maxRecDepth 100000 in
theorem qw677 : Cond.laysFinal "SoManyForgotten" "SoManyForgotten" "now" "LSoManyForgotten$Valley;" ∈ LW := lwm (tb1 (List.mem_of_getElem? (i := 193) rfl)) rfl
set_option maxRecDepth 100000 in
theorem qw678 : Cond.laysFinal "SoManyForgotten" "SoManyForgotten" "kept" "LSoManyForgotten$Valley;" ∈ LW := lwm (tb1 (List.mem_of_getElem? (i := 195) rfl)) rfl
set_option maxRecDepth 100000 in
theorem qw679 : Cond.laysFinal "SoManyForgotten" "SoManyForgotten" "told" "LSoManyForgotten$Valley;" ∈ LW := lwm (tb1 (List.mem_of_getElem? (i := 197) rfl)) rfl
set_option maxRecDepth 100000 in
theorem qw680 : Cond.laysFinal "SoManyForgotten" "SoManyForgotten" "mind" "LSoManyForgotten$Mind;" ∈ LW := lwm (tb1 (List.mem_of_getElem? (i := 199) rfl)) rfl
set_option maxRecDepth 100000 in
theorem qw681 : Cond.laysFinal "SoManyForgotten" "SoManyForgotten" "telling" "LSoManyForgotten$Telling;" ∈ LW := lwm (tb1 (List.mem_of_getElem? (i := 201) rfl)) rfl
set_option maxRecDepth 100000 in
theorem qw682 : Cond.laysFinal "SoManyForgotten" "SoManyForgotten" "numbers" "LSoManyForgotten$Row;" ∈ LW := lwm (tb1 (List.mem_of_getElem? (i := 203) rfl)) rfl
set_option maxRecDepth 100000 in
theorem qw683 : Cond.laysFinal "SoManyForgotten" "SoManyForgotten" "refusals" "[I" ∈ LW := lwm (tb1 (List.mem_of_getElem? (i := 205) rfl)) rfl
set_option maxRecDepth 100000 in
theorem qw684 : Cond.lays "SoManyForgotten" "SoManyForgotten" "imageTaken" "Z" ∈ LW := lwm (tb1 (List.mem_of_getElem? (i := 207) rfl)) rfl
set_option maxRecDepth 100000 in
theorem qw685 : Cond.laysFinal "SoManyForgottenModel" "SoManyForgottenModel" "s" "[I" ∈ LW := lwm (tb5 (List.mem_of_getElem? (i := 28) rfl)) rfl
set_option maxRecDepth 100000 in
theorem qw686 : Cond.laysFinal "SoManyForgottenModel" "SoManyForgottenModel" "m" "[I" ∈ LW := lwm (tb5 (List.mem_of_getElem? (i := 30) rfl)) rfl
set_option maxRecDepth 100000 in
theorem qw687 : Cond.laysFinal "SoManyForgottenModel" "SoManyForgottenModel" "image" "[I" ∈ LW := lwm (tb5 (List.mem_of_getElem? (i := 32) rfl)) rfl
set_option maxRecDepth 100000 in
theorem qw688 : Cond.laysFinal "SoManyForgottenModel" "SoManyForgottenModel" "was" "[I" ∈ LW := lwm (tb5 (List.mem_of_getElem? (i := 34) rfl)) rfl
set_option maxRecDepth 100000 in
theorem qw689 : Cond.lays "SoManyForgottenModel" "SoManyForgottenModel" "hasImage" "Z" ∈ LW := lwm (tb5 (List.mem_of_getElem? (i := 36) rfl)) rfl
set_option maxRecDepth 100000 in
theorem qw690 : Cond.laysFinal "SoManyForgottenModel" "SoManyForgottenModel" "letters" "[I" ∈ LW := lwm (tb5 (List.mem_of_getElem? (i := 38) rfl)) rfl
set_option maxRecDepth 100000 in
theorem qw691 : Cond.laysFinal "SoManyForgottenModel" "SoManyForgottenModel" "row" "[I" ∈ LW := lwm (tb5 (List.mem_of_getElem? (i := 40) rfl)) rfl
set_option maxRecDepth 100000 in
theorem qw692 : Cond.laysFinal "SoManyForgottenModel" "SoManyForgottenModel" "refused" "[I" ∈ LW := lwm (tb5 (List.mem_of_getElem? (i := 42) rfl)) rfl
set_option maxRecDepth 100000 in
theorem qw693 : Cond.lays "SoManyForgottenModel" "SoManyForgottenModel" "letterMany" "I" ∈ LW := lwm (tb5 (List.mem_of_getElem? (i := 44) rfl)) rfl
set_option maxRecDepth 100000 in
theorem qw694 : Cond.lays "SoManyForgottenModel" "SoManyForgottenModel" "rowMany" "I" ∈ LW := lwm (tb5 (List.mem_of_getElem? (i := 46) rfl)) rfl
set_option maxRecDepth 100000 in
theorem qw695 : Cond.lays "SoManyForgottenModel" "SoManyForgottenModel" "place" "I" ∈ LW := lwm (tb5 (List.mem_of_getElem? (i := 48) rfl)) rfl
set_option maxRecDepth 100000 in
theorem qw696 : Cond.laysFinal "SoManyForgottenModel" "SoManyForgottenModel" "numbers" "[I" ∈ LW := lwm (tb5 (List.mem_of_getElem? (i := 50) rfl)) rfl
set_option maxRecDepth 100000 in
theorem qw697 : Cond.lays "SoManyForgottenModel" "SoManyForgottenModel" "seed" "I" ∈ LW := lwm (tb5 (List.mem_of_getElem? (i := 52) rfl)) rfl
set_option maxRecDepth 100000 in
theorem qw698 : Cond.laysFinal "SoManyForgotten$Mind" "SoManyForgotten$Mind" "now" "LSoManyForgotten$Valley;" ∈ LW := lwm (tb1 (List.mem_of_getElem? (i := 140) rfl)) rfl
set_option maxRecDepth 100000 in
theorem qw699 : Cond.laysFinal "SoManyForgotten$Mind" "SoManyForgotten$Mind" "then" "LSoManyForgotten$Valley;" ∈ LW := lwm (tb1 (List.mem_of_getElem? (i := 142) rfl)) rfl
set_option maxRecDepth 100000 in
theorem qw700 : Cond.laysFinal "SoManyForgotten$Mind" "SoManyForgotten$Mind" "otherwise" "LSoManyForgotten$Valley;" ∈ LW := lwm (tb1 (List.mem_of_getElem? (i := 144) rfl)) rfl
set_option maxRecDepth 100000 in
theorem qw701 : Cond.laysFinal "SoManyForgotten$Mind" "SoManyForgotten$Mind" "leagues" "[I" ∈ LW := lwm (tb1 (List.mem_of_getElem? (i := 146) rfl)) rfl
set_option maxRecDepth 100000 in
theorem qw702 : Cond.laysFinal "SoManyForgotten$Mind" "SoManyForgotten$Mind" "firstGains" "[I" ∈ LW := lwm (tb1 (List.mem_of_getElem? (i := 148) rfl)) rfl
set_option maxRecDepth 100000 in
theorem qw703 : Cond.laysFinal "SoManyForgotten$Mind" "SoManyForgotten$Mind" "otherGains" "[I" ∈ LW := lwm (tb1 (List.mem_of_getElem? (i := 150) rfl)) rfl
set_option maxRecDepth 100000 in
theorem qw704 : Cond.lays "SoManyForgotten$Mind" "SoManyForgotten$Mind" "z" "I" ∈ LW := lwm (tb1 (List.mem_of_getElem? (i := 152) rfl)) rfl
set_option maxRecDepth 100000 in
theorem qw705 : Cond.laysFinal "SoManyForgotten$Row" "SoManyForgotten$Row" "numbers" "[I" ∈ LW := lwm (tb1 (List.mem_of_getElem? (i := 180) rfl)) rfl
set_option maxRecDepth 100000 in
theorem qw706 : Cond.lays "SoManyForgotten$Row" "SoManyForgotten$Row" "size" "I" ∈ LW := lwm (tb1 (List.mem_of_getElem? (i := 182) rfl)) rfl
set_option maxRecDepth 100000 in
theorem qw707 : Cond.laysFinal "SoManyForgotten$Telling" "SoManyForgotten$Telling" "letters" "[I" ∈ LW := lwm (tb1 (List.mem_of_getElem? (i := 164) rfl)) rfl
set_option maxRecDepth 100000 in
theorem qw708 : Cond.lays "SoManyForgotten$Telling" "SoManyForgotten$Telling" "size" "I" ∈ LW := lwm (tb1 (List.mem_of_getElem? (i := 166) rfl)) rfl
set_option maxRecDepth 100000 in
theorem qw709 : Cond.laysFinal "SoManyForgotten$Valley" "SoManyForgotten$Valley" "kinds" "[LSoManyForgotten$Person;" ∈ LW := lwm (tb1 (List.mem_of_getElem? (i := 104) rfl)) rfl
set_option maxRecDepth 100000 in
theorem qw710 : Cond.laysFinal "SoManyForgotten$Valley" "SoManyForgotten$Valley" "kind" "[I" ∈ LW := lwm (tb1 (List.mem_of_getElem? (i := 106) rfl)) rfl
set_option maxRecDepth 100000 in
theorem qw711 : Cond.laysFinal "SoManyForgotten$Valley" "SoManyForgotten$Valley" "figure" "[I" ∈ LW := lwm (tb1 (List.mem_of_getElem? (i := 108) rfl)) rfl
set_option maxRecDepth 100000 in
theorem qw712 : Cond.laysFinal "SoManyForgotten$Valley" "SoManyForgotten$Valley" "owed" "[I" ∈ LW := lwm (tb1 (List.mem_of_getElem? (i := 110) rfl)) rfl
set_option maxRecDepth 100000 in
theorem qw713 : Cond.laysFinal "SoManyForgotten$Valley" "SoManyForgotten$Valley" "here" "[Z" ∈ LW := lwm (tb1 (List.mem_of_getElem? (i := 112) rfl)) rfl
set_option maxRecDepth 100000 in
theorem qw714 : Cond.laysFinal "SoManyForgotten$Valley" "SoManyForgotten$Valley" "memories" "[I" ∈ LW := lwm (tb1 (List.mem_of_getElem? (i := 114) rfl)) rfl
set_option maxRecDepth 100000 in
theorem qw715 : Cond.lays "SoManyForgotten$Valley" "SoManyForgotten$Valley" "people" "I" ∈ LW := lwm (tb1 (List.mem_of_getElem? (i := 116) rfl)) rfl
set_option maxRecDepth 100000 in
theorem qw716 : Cond.lays "SoManyForgotten$Valley" "SoManyForgotten$Valley" "namesEachSpring" "I" ∈ LW := lwm (tb1 (List.mem_of_getElem? (i := 118) rfl)) rfl
set_option maxRecDepth 100000 in
theorem qw717 : Cond.lays "SoManyForgotten$Valley" "SoManyForgotten$Valley" "week" "I" ∈ LW := lwm (tb1 (List.mem_of_getElem? (i := 120) rfl)) rfl
set_option maxRecDepth 100000 in
theorem inX10 : ∀ w ∈ u_ws RX10 TX10 8, w ∈ LW := by
  intro w h
  obtain ⟨k, hk, rfl⟩ := List.mem_map.mp h
  have hk := List.mem_range.mp hk
  match k, hk with
  | 0, _ => exact qw677
  | 1, _ => exact qw678
  | 2, _ => exact qw679
  | 3, _ => exact qw680
  | 4, _ => exact qw681
  | 5, _ => exact qw682
  | 6, _ => exact qw683
  | 7, _ => exact qw684
  | k + 8, hk => exact absurd hk (by omega)
set_option maxRecDepth 100000 in
theorem inX11 : ∀ w ∈ u_ws RX11 TX11 13, w ∈ LW := by
  intro w h
  obtain ⟨k, hk, rfl⟩ := List.mem_map.mp h
  have hk := List.mem_range.mp hk
  match k, hk with
  | 0, _ => exact qw685
  | 1, _ => exact qw686
  | 2, _ => exact qw687
  | 3, _ => exact qw688
  | 4, _ => exact qw689
  | 5, _ => exact qw690
  | 6, _ => exact qw691
  | 7, _ => exact qw692
  | 8, _ => exact qw693
  | 9, _ => exact qw694
  | 10, _ => exact qw695
  | 11, _ => exact qw696
  | 12, _ => exact qw697
  | k + 13, hk => exact absurd hk (by omega)
set_option maxRecDepth 100000 in
theorem inX3 : ∀ w ∈ u_ws RX3 TX3 7, w ∈ LW := by
  intro w h
  obtain ⟨k, hk, rfl⟩ := List.mem_map.mp h
  have hk := List.mem_range.mp hk
  match k, hk with
  | 0, _ => exact qw698
  | 1, _ => exact qw699
  | 2, _ => exact qw700
  | 3, _ => exact qw701
  | 4, _ => exact qw702
  | 5, _ => exact qw703
  | 6, _ => exact qw704
  | k + 7, hk => exact absurd hk (by omega)
set_option maxRecDepth 100000 in
theorem inX6 : ∀ w ∈ u_ws RX6 TX6 2, w ∈ LW := by
  intro w h
  obtain ⟨k, hk, rfl⟩ := List.mem_map.mp h
  have hk := List.mem_range.mp hk
  match k, hk with
  | 0, _ => exact qw705
  | 1, _ => exact qw706
  | k + 2, hk => exact absurd hk (by omega)
set_option maxRecDepth 100000 in
theorem inX7 : ∀ w ∈ u_ws RX7 TX7 2, w ∈ LW := by
  intro w h
  obtain ⟨k, hk, rfl⟩ := List.mem_map.mp h
  have hk := List.mem_range.mp hk
  match k, hk with
  | 0, _ => exact qw707
  | 1, _ => exact qw708
  | k + 2, hk => exact absurd hk (by omega)
set_option maxRecDepth 100000 in
theorem inX8 : ∀ w ∈ u_ws RX8 TX8 9, w ∈ LW := by
  intro w h
  obtain ⟨k, hk, rfl⟩ := List.mem_map.mp h
  have hk := List.mem_range.mp hk
  match k, hk with
  | 0, _ => exact qw709
  | 1, _ => exact qw710
  | 2, _ => exact qw711
  | 3, _ => exact qw712
  | 4, _ => exact qw713
  | 5, _ => exact qw714
  | 6, _ => exact qw715
  | 7, _ => exact qw716
  | 8, _ => exact qw717
  | k + 9, hk => exact absurd hk (by omega)
def pm_D_i1 (i : Nat) : Nat := [1].getD i 0
set_option maxRecDepth 100000 in
theorem cut_D_i1 (cI cZ cO : ClassId) (a : Nat → Nat) (u : DS) (t : Nat → Int32) : smCut (wD cI cZ cO a u) (wI cI cZ cO (fun i => a (pm_D_i1 i)) (gD_s u)) (wI cI cZ cO (fun i => a (pm_D_i1 i)) t) (wD cI cZ cO a (sD_s u t)) := ⟨[1], [0, 2, 3, 4, 5, 6, 7, 8], [0, 8, 1, 2, 3, 4, 5, 6, 7], ([0, 2, 3, 4, 5, 6, 7, 8].filterMap (fun i => (wD cI cZ cO a u)[i]?)), rfl, by decide, rfl, by decide, by decide, rfl, by decide⟩
set_option maxRecDepth 100000 in
theorem cut_D_i1_ro (cI cZ cO : ClassId) (a : Nat → Nat) (u : DS) : smCut (wD cI cZ cO a u) (wI cI cZ cO (fun i => a (pm_D_i1 i)) (gD_s u)) (wI cI cZ cO (fun i => a (pm_D_i1 i)) (gD_s u)) (wD cI cZ cO a u) := ⟨[1], [0, 2, 3, 4, 5, 6, 7, 8], [0, 8, 1, 2, 3, 4, 5, 6, 7], ([0, 2, 3, 4, 5, 6, 7, 8].filterMap (fun i => (wD cI cZ cO a u)[i]?)), rfl, by decide, rfl, by decide, by decide, rfl, by decide⟩
def pm_D_i2 (i : Nat) : Nat := [2].getD i 0
set_option maxRecDepth 100000 in
theorem cut_D_i2 (cI cZ cO : ClassId) (a : Nat → Nat) (u : DS) (t : Nat → Int32) : smCut (wD cI cZ cO a u) (wI cI cZ cO (fun i => a (pm_D_i2 i)) (gD_m u)) (wI cI cZ cO (fun i => a (pm_D_i2 i)) t) (wD cI cZ cO a (sD_m u t)) := ⟨[2], [0, 1, 3, 4, 5, 6, 7, 8], [0, 1, 8, 2, 3, 4, 5, 6, 7], ([0, 1, 3, 4, 5, 6, 7, 8].filterMap (fun i => (wD cI cZ cO a u)[i]?)), rfl, by decide, rfl, by decide, by decide, rfl, by decide⟩
set_option maxRecDepth 100000 in
theorem cut_D_i2_ro (cI cZ cO : ClassId) (a : Nat → Nat) (u : DS) : smCut (wD cI cZ cO a u) (wI cI cZ cO (fun i => a (pm_D_i2 i)) (gD_m u)) (wI cI cZ cO (fun i => a (pm_D_i2 i)) (gD_m u)) (wD cI cZ cO a u) := ⟨[2], [0, 1, 3, 4, 5, 6, 7, 8], [0, 1, 8, 2, 3, 4, 5, 6, 7], ([0, 1, 3, 4, 5, 6, 7, 8].filterMap (fun i => (wD cI cZ cO a u)[i]?)), rfl, by decide, rfl, by decide, by decide, rfl, by decide⟩
def pm_D_i4 (i : Nat) : Nat := [4].getD i 0
set_option maxRecDepth 100000 in
theorem cut_D_i4 (cI cZ cO : ClassId) (a : Nat → Nat) (u : DS) (t : Nat → Int32) : smCut (wD cI cZ cO a u) (wI cI cZ cO (fun i => a (pm_D_i4 i)) (gD_was u)) (wI cI cZ cO (fun i => a (pm_D_i4 i)) t) (wD cI cZ cO a (sD_was u t)) := ⟨[4], [0, 1, 2, 3, 5, 6, 7, 8], [0, 1, 2, 3, 8, 4, 5, 6, 7], ([0, 1, 2, 3, 5, 6, 7, 8].filterMap (fun i => (wD cI cZ cO a u)[i]?)), rfl, by decide, rfl, by decide, by decide, rfl, by decide⟩
set_option maxRecDepth 100000 in
theorem cut_D_i4_ro (cI cZ cO : ClassId) (a : Nat → Nat) (u : DS) : smCut (wD cI cZ cO a u) (wI cI cZ cO (fun i => a (pm_D_i4 i)) (gD_was u)) (wI cI cZ cO (fun i => a (pm_D_i4 i)) (gD_was u)) (wD cI cZ cO a u) := ⟨[4], [0, 1, 2, 3, 5, 6, 7, 8], [0, 1, 2, 3, 8, 4, 5, 6, 7], ([0, 1, 2, 3, 5, 6, 7, 8].filterMap (fun i => (wD cI cZ cO a u)[i]?)), rfl, by decide, rfl, by decide, by decide, rfl, by decide⟩
set_option maxRecDepth 100000 in
theorem cut_D_id (cI cZ cO : ClassId) (a : Nat → Nat) (u t : DS) : smCut (wD cI cZ cO a u) (wD cI cZ cO a u) (wD cI cZ cO a t) (wD cI cZ cO a t) := ⟨[0, 1, 2, 3, 4, 5, 6, 7, 8], [], [0, 1, 2, 3, 4, 5, 6, 7, 8], [], rfl, by decide, rfl, rfl, fun _ h => (by cases h), rfl, by decide⟩
def pm_D_ii1_2 (i : Nat) : Nat := [1, 2].getD i 0
set_option maxRecDepth 100000 in
theorem cut_D_ii1_2 (cI cZ cO : ClassId) (a : Nat → Nat) (u : DS) (t : (Nat → Int32) × (Nat → Int32)) : smCut (wD cI cZ cO a u) (wII cI cZ cO (fun i => a (pm_D_ii1_2 i)) (gD_s u, gD_m u)) (wII cI cZ cO (fun i => a (pm_D_ii1_2 i)) t) (wD cI cZ cO a (sD_m (sD_s u t.1) t.2)) := ⟨[1, 2], [0, 3, 4, 5, 6, 7, 8], [0, 7, 8, 1, 2, 3, 4, 5, 6], ([0, 3, 4, 5, 6, 7, 8].filterMap (fun i => (wD cI cZ cO a u)[i]?)), rfl, by decide, rfl, by decide, by decide, rfl, by decide⟩
set_option maxRecDepth 100000 in
theorem cut_D_ii1_2_ro (cI cZ cO : ClassId) (a : Nat → Nat) (u : DS) : smCut (wD cI cZ cO a u) (wII cI cZ cO (fun i => a (pm_D_ii1_2 i)) (gD_s u, gD_m u)) (wII cI cZ cO (fun i => a (pm_D_ii1_2 i)) (gD_s u, gD_m u)) (wD cI cZ cO a u) := ⟨[1, 2], [0, 3, 4, 5, 6, 7, 8], [0, 7, 8, 1, 2, 3, 4, 5, 6], ([0, 3, 4, 5, 6, 7, 8].filterMap (fun i => (wD cI cZ cO a u)[i]?)), rfl, by decide, rfl, by decide, by decide, rfl, by decide⟩
def pm_D_ii1_3 (i : Nat) : Nat := [1, 3].getD i 0
set_option maxRecDepth 100000 in
theorem cut_D_ii1_3 (cI cZ cO : ClassId) (a : Nat → Nat) (u : DS) (t : (Nat → Int32) × (Nat → Int32)) : smCut (wD cI cZ cO a u) (wII cI cZ cO (fun i => a (pm_D_ii1_3 i)) (gD_s u, gD_image u)) (wII cI cZ cO (fun i => a (pm_D_ii1_3 i)) t) (wD cI cZ cO a (sD_image (sD_s u t.1) t.2)) := ⟨[1, 3], [0, 2, 4, 5, 6, 7, 8], [0, 7, 1, 8, 2, 3, 4, 5, 6], ([0, 2, 4, 5, 6, 7, 8].filterMap (fun i => (wD cI cZ cO a u)[i]?)), rfl, by decide, rfl, by decide, by decide, rfl, by decide⟩
set_option maxRecDepth 100000 in
theorem cut_D_ii1_3_ro (cI cZ cO : ClassId) (a : Nat → Nat) (u : DS) : smCut (wD cI cZ cO a u) (wII cI cZ cO (fun i => a (pm_D_ii1_3 i)) (gD_s u, gD_image u)) (wII cI cZ cO (fun i => a (pm_D_ii1_3 i)) (gD_s u, gD_image u)) (wD cI cZ cO a u) := ⟨[1, 3], [0, 2, 4, 5, 6, 7, 8], [0, 7, 1, 8, 2, 3, 4, 5, 6], ([0, 2, 4, 5, 6, 7, 8].filterMap (fun i => (wD cI cZ cO a u)[i]?)), rfl, by decide, rfl, by decide, by decide, rfl, by decide⟩
def pm_D_ii1_4 (i : Nat) : Nat := [1, 4].getD i 0
set_option maxRecDepth 100000 in
theorem cut_D_ii1_4 (cI cZ cO : ClassId) (a : Nat → Nat) (u : DS) (t : (Nat → Int32) × (Nat → Int32)) : smCut (wD cI cZ cO a u) (wII cI cZ cO (fun i => a (pm_D_ii1_4 i)) (gD_s u, gD_was u)) (wII cI cZ cO (fun i => a (pm_D_ii1_4 i)) t) (wD cI cZ cO a (sD_was (sD_s u t.1) t.2)) := ⟨[1, 4], [0, 2, 3, 5, 6, 7, 8], [0, 7, 1, 2, 8, 3, 4, 5, 6], ([0, 2, 3, 5, 6, 7, 8].filterMap (fun i => (wD cI cZ cO a u)[i]?)), rfl, by decide, rfl, by decide, by decide, rfl, by decide⟩
set_option maxRecDepth 100000 in
theorem cut_D_ii1_4_ro (cI cZ cO : ClassId) (a : Nat → Nat) (u : DS) : smCut (wD cI cZ cO a u) (wII cI cZ cO (fun i => a (pm_D_ii1_4 i)) (gD_s u, gD_was u)) (wII cI cZ cO (fun i => a (pm_D_ii1_4 i)) (gD_s u, gD_was u)) (wD cI cZ cO a u) := ⟨[1, 4], [0, 2, 3, 5, 6, 7, 8], [0, 7, 1, 2, 8, 3, 4, 5, 6], ([0, 2, 3, 5, 6, 7, 8].filterMap (fun i => (wD cI cZ cO a u)[i]?)), rfl, by decide, rfl, by decide, by decide, rfl, by decide⟩
def pm_D_ii3_1 (i : Nat) : Nat := [3, 1].getD i 0
set_option maxRecDepth 100000 in
theorem cut_D_ii3_1 (cI cZ cO : ClassId) (a : Nat → Nat) (u : DS) (t : (Nat → Int32) × (Nat → Int32)) : smCut (wD cI cZ cO a u) (wII cI cZ cO (fun i => a (pm_D_ii3_1 i)) (gD_image u, gD_s u)) (wII cI cZ cO (fun i => a (pm_D_ii3_1 i)) t) (wD cI cZ cO a (sD_s (sD_image u t.1) t.2)) := ⟨[3, 1], [0, 2, 4, 5, 6, 7, 8], [0, 8, 1, 7, 2, 3, 4, 5, 6], ([0, 2, 4, 5, 6, 7, 8].filterMap (fun i => (wD cI cZ cO a u)[i]?)), rfl, by decide, rfl, by decide, by decide, rfl, by decide⟩
set_option maxRecDepth 100000 in
theorem cut_D_ii3_1_ro (cI cZ cO : ClassId) (a : Nat → Nat) (u : DS) : smCut (wD cI cZ cO a u) (wII cI cZ cO (fun i => a (pm_D_ii3_1 i)) (gD_image u, gD_s u)) (wII cI cZ cO (fun i => a (pm_D_ii3_1 i)) (gD_image u, gD_s u)) (wD cI cZ cO a u) := ⟨[3, 1], [0, 2, 4, 5, 6, 7, 8], [0, 8, 1, 7, 2, 3, 4, 5, 6], ([0, 2, 4, 5, 6, 7, 8].filterMap (fun i => (wD cI cZ cO a u)[i]?)), rfl, by decide, rfl, by decide, by decide, rfl, by decide⟩
def pm_D_ii4_1 (i : Nat) : Nat := [4, 1].getD i 0
set_option maxRecDepth 100000 in
theorem cut_D_ii4_1 (cI cZ cO : ClassId) (a : Nat → Nat) (u : DS) (t : (Nat → Int32) × (Nat → Int32)) : smCut (wD cI cZ cO a u) (wII cI cZ cO (fun i => a (pm_D_ii4_1 i)) (gD_was u, gD_s u)) (wII cI cZ cO (fun i => a (pm_D_ii4_1 i)) t) (wD cI cZ cO a (sD_s (sD_was u t.1) t.2)) := ⟨[4, 1], [0, 2, 3, 5, 6, 7, 8], [0, 8, 1, 2, 7, 3, 4, 5, 6], ([0, 2, 3, 5, 6, 7, 8].filterMap (fun i => (wD cI cZ cO a u)[i]?)), rfl, by decide, rfl, by decide, by decide, rfl, by decide⟩
set_option maxRecDepth 100000 in
theorem cut_D_ii4_1_ro (cI cZ cO : ClassId) (a : Nat → Nat) (u : DS) : smCut (wD cI cZ cO a u) (wII cI cZ cO (fun i => a (pm_D_ii4_1 i)) (gD_was u, gD_s u)) (wII cI cZ cO (fun i => a (pm_D_ii4_1 i)) (gD_was u, gD_s u)) (wD cI cZ cO a u) := ⟨[4, 1], [0, 2, 3, 5, 6, 7, 8], [0, 8, 1, 2, 7, 3, 4, 5, 6], ([0, 2, 3, 5, 6, 7, 8].filterMap (fun i => (wD cI cZ cO a u)[i]?)), rfl, by decide, rfl, by decide, by decide, rfl, by decide⟩
set_option maxRecDepth 100000 in
theorem cut_I_id (cI cZ cO : ClassId) (a : Nat → Nat) (u t : Nat → Int32) : smCut (wI cI cZ cO a u) (wI cI cZ cO a u) (wI cI cZ cO a t) (wI cI cZ cO a t) := ⟨[0], [], [0], [], rfl, by decide, rfl, rfl, fun _ h => (by cases h), rfl, by decide⟩
set_option maxRecDepth 100000 in
theorem cut_M_id (cI cZ cO : ClassId) (a : Nat → Nat) (u t : MS) : smCut (wM cI cZ cO a u) (wM cI cZ cO a u) (wM cI cZ cO a t) (wM cI cZ cO a t) := ⟨[0, 1, 2, 3, 4, 5, 6, 7, 8, 9, 10, 11, 12, 13, 14, 15, 16, 17, 18, 19, 20, 21, 22, 23, 24, 25, 26, 27, 28, 29, 30], [], [0, 1, 2, 3, 4, 5, 6, 7, 8, 9, 10, 11, 12, 13, 14, 15, 16, 17, 18, 19, 20, 21, 22, 23, 24, 25, 26, 27, 28, 29, 30], [], rfl, by decide, rfl, rfl, fun _ h => (by cases h), rfl, by decide⟩
def pm_M_v12 (i : Nat) : Nat := [12, 13, 14, 15, 16, 17, 24, 25, 26, 27, 28, 29, 30].getD i 0
set_option maxRecDepth 100000 in
theorem cut_M_v12 (cI cZ cO : ClassId) (a : Nat → Nat) (u : MS) (t : VS) : smCut (wM cI cZ cO a u) (wV cI cZ cO (fun i => a (pm_M_v12 i)) (gM_then u)) (wV cI cZ cO (fun i => a (pm_M_v12 i)) t) (wM cI cZ cO a (sM_then u t)) := ⟨[12, 13, 14, 15, 16, 17, 24, 25, 26, 27, 28, 29, 30], [0, 1, 2, 3, 4, 5, 6, 7, 8, 9, 10, 11, 18, 19, 20, 21, 22, 23], [0, 1, 2, 3, 4, 5, 6, 7, 8, 9, 10, 11, 18, 19, 20, 21, 22, 23, 12, 13, 14, 15, 16, 17, 24, 25, 26, 27, 28, 29, 30], ([0, 1, 2, 3, 4, 5, 6, 7, 8, 9, 10, 11, 18, 19, 20, 21, 22, 23].filterMap (fun i => (wM cI cZ cO a u)[i]?)), rfl, by decide, rfl, by decide, by decide, rfl, by decide⟩
set_option maxRecDepth 100000 in
theorem cut_M_v12_ro (cI cZ cO : ClassId) (a : Nat → Nat) (u : MS) : smCut (wM cI cZ cO a u) (wV cI cZ cO (fun i => a (pm_M_v12 i)) (gM_then u)) (wV cI cZ cO (fun i => a (pm_M_v12 i)) (gM_then u)) (wM cI cZ cO a u) := ⟨[12, 13, 14, 15, 16, 17, 24, 25, 26, 27, 28, 29, 30], [0, 1, 2, 3, 4, 5, 6, 7, 8, 9, 10, 11, 18, 19, 20, 21, 22, 23], [0, 1, 2, 3, 4, 5, 6, 7, 8, 9, 10, 11, 18, 19, 20, 21, 22, 23, 12, 13, 14, 15, 16, 17, 24, 25, 26, 27, 28, 29, 30], ([0, 1, 2, 3, 4, 5, 6, 7, 8, 9, 10, 11, 18, 19, 20, 21, 22, 23].filterMap (fun i => (wM cI cZ cO a u)[i]?)), rfl, by decide, rfl, by decide, by decide, rfl, by decide⟩
def pm_M_v18 (i : Nat) : Nat := [18, 19, 20, 21, 22, 23, 24, 25, 26, 27, 28, 29, 30].getD i 0
set_option maxRecDepth 100000 in
theorem cut_M_v18 (cI cZ cO : ClassId) (a : Nat → Nat) (u : MS) (t : VS) : smCut (wM cI cZ cO a u) (wV cI cZ cO (fun i => a (pm_M_v18 i)) (gM_oth u)) (wV cI cZ cO (fun i => a (pm_M_v18 i)) t) (wM cI cZ cO a (sM_oth u t)) := ⟨[18, 19, 20, 21, 22, 23, 24, 25, 26, 27, 28, 29, 30], [0, 1, 2, 3, 4, 5, 6, 7, 8, 9, 10, 11, 12, 13, 14, 15, 16, 17], [0, 1, 2, 3, 4, 5, 6, 7, 8, 9, 10, 11, 12, 13, 14, 15, 16, 17, 18, 19, 20, 21, 22, 23, 24, 25, 26, 27, 28, 29, 30], ([0, 1, 2, 3, 4, 5, 6, 7, 8, 9, 10, 11, 12, 13, 14, 15, 16, 17].filterMap (fun i => (wM cI cZ cO a u)[i]?)), rfl, by decide, rfl, by decide, by decide, rfl, by decide⟩
set_option maxRecDepth 100000 in
theorem cut_M_v18_ro (cI cZ cO : ClassId) (a : Nat → Nat) (u : MS) : smCut (wM cI cZ cO a u) (wV cI cZ cO (fun i => a (pm_M_v18 i)) (gM_oth u)) (wV cI cZ cO (fun i => a (pm_M_v18 i)) (gM_oth u)) (wM cI cZ cO a u) := ⟨[18, 19, 20, 21, 22, 23, 24, 25, 26, 27, 28, 29, 30], [0, 1, 2, 3, 4, 5, 6, 7, 8, 9, 10, 11, 12, 13, 14, 15, 16, 17], [0, 1, 2, 3, 4, 5, 6, 7, 8, 9, 10, 11, 12, 13, 14, 15, 16, 17, 18, 19, 20, 21, 22, 23, 24, 25, 26, 27, 28, 29, 30], ([0, 1, 2, 3, 4, 5, 6, 7, 8, 9, 10, 11, 12, 13, 14, 15, 16, 17].filterMap (fun i => (wM cI cZ cO a u)[i]?)), rfl, by decide, rfl, by decide, by decide, rfl, by decide⟩
def pm_M_v6 (i : Nat) : Nat := [6, 7, 8, 9, 10, 11, 24, 25, 26, 27, 28, 29, 30].getD i 0
set_option maxRecDepth 100000 in
theorem cut_M_v6 (cI cZ cO : ClassId) (a : Nat → Nat) (u : MS) (t : VS) : smCut (wM cI cZ cO a u) (wV cI cZ cO (fun i => a (pm_M_v6 i)) (gM_now u)) (wV cI cZ cO (fun i => a (pm_M_v6 i)) t) (wM cI cZ cO a (sM_now u t)) := ⟨[6, 7, 8, 9, 10, 11, 24, 25, 26, 27, 28, 29, 30], [0, 1, 2, 3, 4, 5, 12, 13, 14, 15, 16, 17, 18, 19, 20, 21, 22, 23], [0, 1, 2, 3, 4, 5, 18, 19, 20, 21, 22, 23, 6, 7, 8, 9, 10, 11, 12, 13, 14, 15, 16, 17, 24, 25, 26, 27, 28, 29, 30], ([0, 1, 2, 3, 4, 5, 12, 13, 14, 15, 16, 17, 18, 19, 20, 21, 22, 23].filterMap (fun i => (wM cI cZ cO a u)[i]?)), rfl, by decide, rfl, by decide, by decide, rfl, by decide⟩
set_option maxRecDepth 100000 in
theorem cut_M_v6_ro (cI cZ cO : ClassId) (a : Nat → Nat) (u : MS) : smCut (wM cI cZ cO a u) (wV cI cZ cO (fun i => a (pm_M_v6 i)) (gM_now u)) (wV cI cZ cO (fun i => a (pm_M_v6 i)) (gM_now u)) (wM cI cZ cO a u) := ⟨[6, 7, 8, 9, 10, 11, 24, 25, 26, 27, 28, 29, 30], [0, 1, 2, 3, 4, 5, 12, 13, 14, 15, 16, 17, 18, 19, 20, 21, 22, 23], [0, 1, 2, 3, 4, 5, 18, 19, 20, 21, 22, 23, 6, 7, 8, 9, 10, 11, 12, 13, 14, 15, 16, 17, 24, 25, 26, 27, 28, 29, 30], ([0, 1, 2, 3, 4, 5, 12, 13, 14, 15, 16, 17, 18, 19, 20, 21, 22, 23].filterMap (fun i => (wM cI cZ cO a u)[i]?)), rfl, by decide, rfl, by decide, by decide, rfl, by decide⟩
def pm_M_vv12_6 (i : Nat) : Nat := [12, 13, 14, 15, 16, 17, 6, 7, 8, 9, 10, 11, 24].getD i 0
set_option maxRecDepth 100000 in
theorem cut_M_vv12_6 (cI cZ cO : ClassId) (a : Nat → Nat) (u : MS) (t : VS × VS) : smCut (wM cI cZ cO a u) (wVV cI cZ cO (fun i => a (pm_M_vv12_6 i)) ((gM_then u), (gM_now u))) (wVV cI cZ cO (fun i => a (pm_M_vv12_6 i)) t) (wM cI cZ cO a (sM_now (sM_then u t.1) t.2)) := ⟨[12, 13, 14, 15, 16, 17, 6, 7, 8, 9, 10, 11], [0, 1, 2, 3, 4, 5, 18, 19, 20, 21, 22, 23, 24, 25, 26, 27, 28, 29, 30], [0, 1, 2, 3, 4, 5, 25, 26, 27, 28, 29, 30, 19, 20, 21, 22, 23, 24, 6, 7, 8, 9, 10, 11, 12, 13, 14, 15, 16, 17, 18], ([0, 1, 2, 3, 4, 5, 18, 19, 20, 21, 22, 23, 24, 25, 26, 27, 28, 29, 30].filterMap (fun i => (wM cI cZ cO a u)[i]?)), rfl, by decide, rfl, by decide, by decide, rfl, by decide⟩
set_option maxRecDepth 100000 in
theorem cut_M_vv12_6_ro (cI cZ cO : ClassId) (a : Nat → Nat) (u : MS) : smCut (wM cI cZ cO a u) (wVV cI cZ cO (fun i => a (pm_M_vv12_6 i)) ((gM_then u), (gM_now u))) (wVV cI cZ cO (fun i => a (pm_M_vv12_6 i)) ((gM_then u), (gM_now u))) (wM cI cZ cO a u) := ⟨[12, 13, 14, 15, 16, 17, 6, 7, 8, 9, 10, 11], [0, 1, 2, 3, 4, 5, 18, 19, 20, 21, 22, 23, 24, 25, 26, 27, 28, 29, 30], [0, 1, 2, 3, 4, 5, 25, 26, 27, 28, 29, 30, 19, 20, 21, 22, 23, 24, 6, 7, 8, 9, 10, 11, 12, 13, 14, 15, 16, 17, 18], ([0, 1, 2, 3, 4, 5, 18, 19, 20, 21, 22, 23, 24, 25, 26, 27, 28, 29, 30].filterMap (fun i => (wM cI cZ cO a u)[i]?)), rfl, by decide, rfl, by decide, by decide, rfl, by decide⟩
def pm_M_vv18_6 (i : Nat) : Nat := [18, 19, 20, 21, 22, 23, 6, 7, 8, 9, 10, 11, 24].getD i 0
set_option maxRecDepth 100000 in
theorem cut_M_vv18_6 (cI cZ cO : ClassId) (a : Nat → Nat) (u : MS) (t : VS × VS) : smCut (wM cI cZ cO a u) (wVV cI cZ cO (fun i => a (pm_M_vv18_6 i)) ((gM_oth u), (gM_now u))) (wVV cI cZ cO (fun i => a (pm_M_vv18_6 i)) t) (wM cI cZ cO a (sM_now (sM_oth u t.1) t.2)) := ⟨[18, 19, 20, 21, 22, 23, 6, 7, 8, 9, 10, 11], [0, 1, 2, 3, 4, 5, 12, 13, 14, 15, 16, 17, 24, 25, 26, 27, 28, 29, 30], [0, 1, 2, 3, 4, 5, 25, 26, 27, 28, 29, 30, 6, 7, 8, 9, 10, 11, 19, 20, 21, 22, 23, 24, 12, 13, 14, 15, 16, 17, 18], ([0, 1, 2, 3, 4, 5, 12, 13, 14, 15, 16, 17, 24, 25, 26, 27, 28, 29, 30].filterMap (fun i => (wM cI cZ cO a u)[i]?)), rfl, by decide, rfl, by decide, by decide, rfl, by decide⟩
set_option maxRecDepth 100000 in
theorem cut_M_vv18_6_ro (cI cZ cO : ClassId) (a : Nat → Nat) (u : MS) : smCut (wM cI cZ cO a u) (wVV cI cZ cO (fun i => a (pm_M_vv18_6 i)) ((gM_oth u), (gM_now u))) (wVV cI cZ cO (fun i => a (pm_M_vv18_6 i)) ((gM_oth u), (gM_now u))) (wM cI cZ cO a u) := ⟨[18, 19, 20, 21, 22, 23, 6, 7, 8, 9, 10, 11], [0, 1, 2, 3, 4, 5, 12, 13, 14, 15, 16, 17, 24, 25, 26, 27, 28, 29, 30], [0, 1, 2, 3, 4, 5, 25, 26, 27, 28, 29, 30, 6, 7, 8, 9, 10, 11, 19, 20, 21, 22, 23, 24, 12, 13, 14, 15, 16, 17, 18], ([0, 1, 2, 3, 4, 5, 12, 13, 14, 15, 16, 17, 24, 25, 26, 27, 28, 29, 30].filterMap (fun i => (wM cI cZ cO a u)[i]?)), rfl, by decide, rfl, by decide, by decide, rfl, by decide⟩
set_option maxRecDepth 100000 in
theorem cut_T_id (cI cZ cO : ClassId) (a : Nat → Nat) (u t : TS) : smCut (wT cI cZ cO a u) (wT cI cZ cO a u) (wT cI cZ cO a t) (wT cI cZ cO a t) := ⟨[0, 1], [], [0, 1], [], rfl, by decide, rfl, rfl, fun _ h => (by cases h), rfl, by decide⟩
def pm_TV_t (i : Nat) : Nat := [0, 1].getD i 0
set_option maxRecDepth 100000 in
theorem cut_TV_t (cI cZ cO : ClassId) (a : Nat → Nat) (u : TS × VS) (t : TS) : smCut (wTV cI cZ cO a u) (wT cI cZ cO (fun i => a (pm_TV_t i)) u.1) (wT cI cZ cO (fun i => a (pm_TV_t i)) t) (wTV cI cZ cO a (t, u.2)) := ⟨[0, 1], [2, 3, 4, 5, 6, 7, 8, 9, 10, 11, 12, 13, 14], [13, 14, 0, 1, 2, 3, 4, 5, 6, 7, 8, 9, 10, 11, 12], ([2, 3, 4, 5, 6, 7, 8, 9, 10, 11, 12, 13, 14].filterMap (fun i => (wTV cI cZ cO a u)[i]?)), rfl, by decide, rfl, by decide, by decide, rfl, by decide⟩
set_option maxRecDepth 100000 in
theorem cut_TV_t_ro (cI cZ cO : ClassId) (a : Nat → Nat) (u : TS × VS) : smCut (wTV cI cZ cO a u) (wT cI cZ cO (fun i => a (pm_TV_t i)) u.1) (wT cI cZ cO (fun i => a (pm_TV_t i)) u.1) (wTV cI cZ cO a u) := ⟨[0, 1], [2, 3, 4, 5, 6, 7, 8, 9, 10, 11, 12, 13, 14], [13, 14, 0, 1, 2, 3, 4, 5, 6, 7, 8, 9, 10, 11, 12], ([2, 3, 4, 5, 6, 7, 8, 9, 10, 11, 12, 13, 14].filterMap (fun i => (wTV cI cZ cO a u)[i]?)), rfl, by decide, rfl, by decide, by decide, rfl, by decide⟩
def pm_TV_v2 (i : Nat) : Nat := [2, 3, 4, 5, 6, 7, 8, 9, 10, 11, 12, 13, 14].getD i 0
set_option maxRecDepth 100000 in
theorem cut_TV_v2 (cI cZ cO : ClassId) (a : Nat → Nat) (u : TS × VS) (t : VS) : smCut (wTV cI cZ cO a u) (wV cI cZ cO (fun i => a (pm_TV_v2 i)) u.2) (wV cI cZ cO (fun i => a (pm_TV_v2 i)) t) (wTV cI cZ cO a (u.1, t)) := ⟨[2, 3, 4, 5, 6, 7, 8, 9, 10, 11, 12, 13, 14], [0, 1], [0, 1, 2, 3, 4, 5, 6, 7, 8, 9, 10, 11, 12, 13, 14], ([0, 1].filterMap (fun i => (wTV cI cZ cO a u)[i]?)), rfl, by decide, rfl, by decide, by decide, rfl, by decide⟩
set_option maxRecDepth 100000 in
theorem cut_TV_v2_ro (cI cZ cO : ClassId) (a : Nat → Nat) (u : TS × VS) : smCut (wTV cI cZ cO a u) (wV cI cZ cO (fun i => a (pm_TV_v2 i)) u.2) (wV cI cZ cO (fun i => a (pm_TV_v2 i)) u.2) (wTV cI cZ cO a u) := ⟨[2, 3, 4, 5, 6, 7, 8, 9, 10, 11, 12, 13, 14], [0, 1], [0, 1, 2, 3, 4, 5, 6, 7, 8, 9, 10, 11, 12, 13, 14], ([0, 1].filterMap (fun i => (wTV cI cZ cO a u)[i]?)), rfl, by decide, rfl, by decide, by decide, rfl, by decide⟩
set_option maxRecDepth 100000 in
theorem cut_V_id (cI cZ cO : ClassId) (a : Nat → Nat) (u t : VS) : smCut (wV cI cZ cO a u) (wV cI cZ cO a u) (wV cI cZ cO a t) (wV cI cZ cO a t) := ⟨[0, 1, 2, 3, 4, 5, 6, 7, 8, 9, 10, 11, 12], [], [0, 1, 2, 3, 4, 5, 6, 7, 8, 9, 10, 11, 12], [], rfl, by decide, rfl, rfl, fun _ h => (by cases h), rfl, by decide⟩
set_option maxRecDepth 100000 in
theorem cut_X_id (cI cZ cO : ClassId) (a : Nat → Nat) (u t : XS) : smCut (wX cI cZ cO a u) (wX cI cZ cO a u) (wX cI cZ cO a t) (wX cI cZ cO a t) := ⟨[0, 1, 2, 3, 4, 5, 6, 7, 8, 9, 10, 11, 12, 13, 14, 15, 16, 17, 18, 19, 20, 21, 22, 23, 24, 25, 26, 27, 28, 29, 30, 31, 32, 33, 34, 35, 36, 37, 38, 39, 40, 41, 42, 43, 44, 45, 46], [], [0, 1, 2, 3, 4, 5, 6, 7, 8, 9, 10, 11, 12, 13, 14, 15, 16, 17, 18, 19, 20, 21, 22, 23, 24, 25, 26, 27, 28, 29, 30, 31, 32, 33, 34, 35, 36, 37, 38, 39, 40, 41, 42, 43, 44, 45, 46], [], rfl, by decide, rfl, rfl, fun _ h => (by cases h), rfl, by decide⟩
def pm_X_m (i : Nat) : Nat := [16, 17, 18, 19, 20, 21, 22, 23, 24, 25, 26, 27, 28, 29, 30, 31, 32, 33, 34, 35, 36, 37, 38, 39, 40, 41, 42, 43, 44, 45, 46].getD i 0
set_option maxRecDepth 100000 in
theorem cut_X_m (cI cZ cO : ClassId) (a : Nat → Nat) (u : XS) (t : MS) : smCut (wX cI cZ cO a u) (wM cI cZ cO (fun i => a (pm_X_m i)) (gX_mind u)) (wM cI cZ cO (fun i => a (pm_X_m i)) t) (wX cI cZ cO a (sX_mind u t)) := ⟨[16, 17, 18, 19, 20, 21, 22, 23, 24, 25, 26, 27, 28, 29, 30, 31, 32, 33, 34, 35, 36, 37, 38, 39, 40, 41, 42, 43, 44, 45, 46], [0, 1, 2, 3, 4, 5, 6, 7, 8, 9, 10, 11, 12, 13, 14, 15], [0, 1, 2, 3, 4, 5, 6, 7, 8, 9, 10, 11, 12, 13, 14, 15, 16, 17, 18, 19, 20, 21, 22, 23, 24, 25, 26, 27, 28, 29, 30, 31, 32, 33, 34, 35, 36, 37, 38, 39, 40, 41, 42, 43, 44, 45, 46], ([0, 1, 2, 3, 4, 5, 6, 7, 8, 9, 10, 11, 12, 13, 14, 15].filterMap (fun i => (wX cI cZ cO a u)[i]?)), rfl, by decide, rfl, by decide, by decide, rfl, by decide⟩
set_option maxRecDepth 100000 in
theorem cut_X_m_ro (cI cZ cO : ClassId) (a : Nat → Nat) (u : XS) : smCut (wX cI cZ cO a u) (wM cI cZ cO (fun i => a (pm_X_m i)) (gX_mind u)) (wM cI cZ cO (fun i => a (pm_X_m i)) (gX_mind u)) (wX cI cZ cO a u) := ⟨[16, 17, 18, 19, 20, 21, 22, 23, 24, 25, 26, 27, 28, 29, 30, 31, 32, 33, 34, 35, 36, 37, 38, 39, 40, 41, 42, 43, 44, 45, 46], [0, 1, 2, 3, 4, 5, 6, 7, 8, 9, 10, 11, 12, 13, 14, 15], [0, 1, 2, 3, 4, 5, 6, 7, 8, 9, 10, 11, 12, 13, 14, 15, 16, 17, 18, 19, 20, 21, 22, 23, 24, 25, 26, 27, 28, 29, 30, 31, 32, 33, 34, 35, 36, 37, 38, 39, 40, 41, 42, 43, 44, 45, 46], ([0, 1, 2, 3, 4, 5, 6, 7, 8, 9, 10, 11, 12, 13, 14, 15].filterMap (fun i => (wX cI cZ cO a u)[i]?)), rfl, by decide, rfl, by decide, by decide, rfl, by decide⟩
def pm_X_r (i : Nat) : Nat := [20, 21].getD i 0
set_option maxRecDepth 100000 in
theorem cut_X_r (cI cZ cO : ClassId) (a : Nat → Nat) (u : XS) (t : RS) : smCut (wX cI cZ cO a u) (wR cI cZ cO (fun i => a (pm_X_r i)) (gM_row (gX_mind u))) (wR cI cZ cO (fun i => a (pm_X_r i)) t) (wX cI cZ cO a (sX_mind u (sM_row (gX_mind u) t))) := ⟨[20, 21], [0, 1, 2, 3, 4, 5, 6, 7, 8, 9, 10, 11, 12, 13, 14, 15, 16, 17, 18, 19, 22, 23, 24, 25, 26, 27, 28, 29, 30, 31, 32, 33, 34, 35, 36, 37, 38, 39, 40, 41, 42, 43, 44, 45, 46], [0, 1, 2, 3, 4, 5, 6, 7, 8, 9, 10, 11, 12, 13, 14, 15, 16, 17, 18, 19, 45, 46, 20, 21, 22, 23, 24, 25, 26, 27, 28, 29, 30, 31, 32, 33, 34, 35, 36, 37, 38, 39, 40, 41, 42, 43, 44], ([0, 1, 2, 3, 4, 5, 6, 7, 8, 9, 10, 11, 12, 13, 14, 15, 16, 17, 18, 19, 22, 23, 24, 25, 26, 27, 28, 29, 30, 31, 32, 33, 34, 35, 36, 37, 38, 39, 40, 41, 42, 43, 44, 45, 46].filterMap (fun i => (wX cI cZ cO a u)[i]?)), rfl, by decide, rfl, by decide, by decide, rfl, by decide⟩
set_option maxRecDepth 100000 in
theorem cut_X_r_ro (cI cZ cO : ClassId) (a : Nat → Nat) (u : XS) : smCut (wX cI cZ cO a u) (wR cI cZ cO (fun i => a (pm_X_r i)) (gM_row (gX_mind u))) (wR cI cZ cO (fun i => a (pm_X_r i)) (gM_row (gX_mind u))) (wX cI cZ cO a u) := ⟨[20, 21], [0, 1, 2, 3, 4, 5, 6, 7, 8, 9, 10, 11, 12, 13, 14, 15, 16, 17, 18, 19, 22, 23, 24, 25, 26, 27, 28, 29, 30, 31, 32, 33, 34, 35, 36, 37, 38, 39, 40, 41, 42, 43, 44, 45, 46], [0, 1, 2, 3, 4, 5, 6, 7, 8, 9, 10, 11, 12, 13, 14, 15, 16, 17, 18, 19, 45, 46, 20, 21, 22, 23, 24, 25, 26, 27, 28, 29, 30, 31, 32, 33, 34, 35, 36, 37, 38, 39, 40, 41, 42, 43, 44], ([0, 1, 2, 3, 4, 5, 6, 7, 8, 9, 10, 11, 12, 13, 14, 15, 16, 17, 18, 19, 22, 23, 24, 25, 26, 27, 28, 29, 30, 31, 32, 33, 34, 35, 36, 37, 38, 39, 40, 41, 42, 43, 44, 45, 46].filterMap (fun i => (wX cI cZ cO a u)[i]?)), rfl, by decide, rfl, by decide, by decide, rfl, by decide⟩
def pm_X_t (i : Nat) : Nat := [2, 3].getD i 0
set_option maxRecDepth 100000 in
theorem cut_X_t (cI cZ cO : ClassId) (a : Nat → Nat) (u : XS) (t : TS) : smCut (wX cI cZ cO a u) (wT cI cZ cO (fun i => a (pm_X_t i)) (gX_tell u)) (wT cI cZ cO (fun i => a (pm_X_t i)) t) (wX cI cZ cO a (sX_tell u t)) := ⟨[2, 3], [0, 1, 4, 5, 6, 7, 8, 9, 10, 11, 12, 13, 14, 15, 16, 17, 18, 19, 20, 21, 22, 23, 24, 25, 26, 27, 28, 29, 30, 31, 32, 33, 34, 35, 36, 37, 38, 39, 40, 41, 42, 43, 44, 45, 46], [0, 1, 45, 46, 2, 3, 4, 5, 6, 7, 8, 9, 10, 11, 12, 13, 14, 15, 16, 17, 18, 19, 20, 21, 22, 23, 24, 25, 26, 27, 28, 29, 30, 31, 32, 33, 34, 35, 36, 37, 38, 39, 40, 41, 42, 43, 44], ([0, 1, 4, 5, 6, 7, 8, 9, 10, 11, 12, 13, 14, 15, 16, 17, 18, 19, 20, 21, 22, 23, 24, 25, 26, 27, 28, 29, 30, 31, 32, 33, 34, 35, 36, 37, 38, 39, 40, 41, 42, 43, 44, 45, 46].filterMap (fun i => (wX cI cZ cO a u)[i]?)), rfl, by decide, rfl, by decide, by decide, rfl, by decide⟩
set_option maxRecDepth 100000 in
theorem cut_X_t_ro (cI cZ cO : ClassId) (a : Nat → Nat) (u : XS) : smCut (wX cI cZ cO a u) (wT cI cZ cO (fun i => a (pm_X_t i)) (gX_tell u)) (wT cI cZ cO (fun i => a (pm_X_t i)) (gX_tell u)) (wX cI cZ cO a u) := ⟨[2, 3], [0, 1, 4, 5, 6, 7, 8, 9, 10, 11, 12, 13, 14, 15, 16, 17, 18, 19, 20, 21, 22, 23, 24, 25, 26, 27, 28, 29, 30, 31, 32, 33, 34, 35, 36, 37, 38, 39, 40, 41, 42, 43, 44, 45, 46], [0, 1, 45, 46, 2, 3, 4, 5, 6, 7, 8, 9, 10, 11, 12, 13, 14, 15, 16, 17, 18, 19, 20, 21, 22, 23, 24, 25, 26, 27, 28, 29, 30, 31, 32, 33, 34, 35, 36, 37, 38, 39, 40, 41, 42, 43, 44], ([0, 1, 4, 5, 6, 7, 8, 9, 10, 11, 12, 13, 14, 15, 16, 17, 18, 19, 20, 21, 22, 23, 24, 25, 26, 27, 28, 29, 30, 31, 32, 33, 34, 35, 36, 37, 38, 39, 40, 41, 42, 43, 44, 45, 46].filterMap (fun i => (wX cI cZ cO a u)[i]?)), rfl, by decide, rfl, by decide, by decide, rfl, by decide⟩
def pm_X_v22 (i : Nat) : Nat := [22, 23, 24, 25, 26, 27, 40, 41, 42, 43, 44, 45, 46].getD i 0
set_option maxRecDepth 100000 in
theorem cut_X_v22 (cI cZ cO : ClassId) (a : Nat → Nat) (u : XS) (t : VS) : smCut (wX cI cZ cO a u) (wV cI cZ cO (fun i => a (pm_X_v22 i)) (gM_now (gX_mind u))) (wV cI cZ cO (fun i => a (pm_X_v22 i)) t) (wX cI cZ cO a (sX_mind u (sM_now (gX_mind u) t))) := ⟨[22, 23, 24, 25, 26, 27, 40, 41, 42, 43, 44, 45, 46], [0, 1, 2, 3, 4, 5, 6, 7, 8, 9, 10, 11, 12, 13, 14, 15, 16, 17, 18, 19, 20, 21, 28, 29, 30, 31, 32, 33, 34, 35, 36, 37, 38, 39], [0, 1, 2, 3, 4, 5, 6, 7, 8, 9, 10, 11, 12, 13, 14, 15, 16, 17, 18, 19, 20, 21, 34, 35, 36, 37, 38, 39, 22, 23, 24, 25, 26, 27, 28, 29, 30, 31, 32, 33, 40, 41, 42, 43, 44, 45, 46], ([0, 1, 2, 3, 4, 5, 6, 7, 8, 9, 10, 11, 12, 13, 14, 15, 16, 17, 18, 19, 20, 21, 28, 29, 30, 31, 32, 33, 34, 35, 36, 37, 38, 39].filterMap (fun i => (wX cI cZ cO a u)[i]?)), rfl, by decide, rfl, by decide, by decide, rfl, by decide⟩
set_option maxRecDepth 100000 in
theorem cut_X_v22_ro (cI cZ cO : ClassId) (a : Nat → Nat) (u : XS) : smCut (wX cI cZ cO a u) (wV cI cZ cO (fun i => a (pm_X_v22 i)) (gM_now (gX_mind u))) (wV cI cZ cO (fun i => a (pm_X_v22 i)) (gM_now (gX_mind u))) (wX cI cZ cO a u) := ⟨[22, 23, 24, 25, 26, 27, 40, 41, 42, 43, 44, 45, 46], [0, 1, 2, 3, 4, 5, 6, 7, 8, 9, 10, 11, 12, 13, 14, 15, 16, 17, 18, 19, 20, 21, 28, 29, 30, 31, 32, 33, 34, 35, 36, 37, 38, 39], [0, 1, 2, 3, 4, 5, 6, 7, 8, 9, 10, 11, 12, 13, 14, 15, 16, 17, 18, 19, 20, 21, 34, 35, 36, 37, 38, 39, 22, 23, 24, 25, 26, 27, 28, 29, 30, 31, 32, 33, 40, 41, 42, 43, 44, 45, 46], ([0, 1, 2, 3, 4, 5, 6, 7, 8, 9, 10, 11, 12, 13, 14, 15, 16, 17, 18, 19, 20, 21, 28, 29, 30, 31, 32, 33, 34, 35, 36, 37, 38, 39].filterMap (fun i => (wX cI cZ cO a u)[i]?)), rfl, by decide, rfl, by decide, by decide, rfl, by decide⟩
def pm_X_v28 (i : Nat) : Nat := [28, 29, 30, 31, 32, 33, 40, 41, 42, 43, 44, 45, 46].getD i 0
set_option maxRecDepth 100000 in
theorem cut_X_v28 (cI cZ cO : ClassId) (a : Nat → Nat) (u : XS) (t : VS) : smCut (wX cI cZ cO a u) (wV cI cZ cO (fun i => a (pm_X_v28 i)) (gM_then (gX_mind u))) (wV cI cZ cO (fun i => a (pm_X_v28 i)) t) (wX cI cZ cO a (sX_mind u (sM_then (gX_mind u) t))) := ⟨[28, 29, 30, 31, 32, 33, 40, 41, 42, 43, 44, 45, 46], [0, 1, 2, 3, 4, 5, 6, 7, 8, 9, 10, 11, 12, 13, 14, 15, 16, 17, 18, 19, 20, 21, 22, 23, 24, 25, 26, 27, 34, 35, 36, 37, 38, 39], [0, 1, 2, 3, 4, 5, 6, 7, 8, 9, 10, 11, 12, 13, 14, 15, 16, 17, 18, 19, 20, 21, 22, 23, 24, 25, 26, 27, 34, 35, 36, 37, 38, 39, 28, 29, 30, 31, 32, 33, 40, 41, 42, 43, 44, 45, 46], ([0, 1, 2, 3, 4, 5, 6, 7, 8, 9, 10, 11, 12, 13, 14, 15, 16, 17, 18, 19, 20, 21, 22, 23, 24, 25, 26, 27, 34, 35, 36, 37, 38, 39].filterMap (fun i => (wX cI cZ cO a u)[i]?)), rfl, by decide, rfl, by decide, by decide, rfl, by decide⟩
set_option maxRecDepth 100000 in
theorem cut_X_v28_ro (cI cZ cO : ClassId) (a : Nat → Nat) (u : XS) : smCut (wX cI cZ cO a u) (wV cI cZ cO (fun i => a (pm_X_v28 i)) (gM_then (gX_mind u))) (wV cI cZ cO (fun i => a (pm_X_v28 i)) (gM_then (gX_mind u))) (wX cI cZ cO a u) := ⟨[28, 29, 30, 31, 32, 33, 40, 41, 42, 43, 44, 45, 46], [0, 1, 2, 3, 4, 5, 6, 7, 8, 9, 10, 11, 12, 13, 14, 15, 16, 17, 18, 19, 20, 21, 22, 23, 24, 25, 26, 27, 34, 35, 36, 37, 38, 39], [0, 1, 2, 3, 4, 5, 6, 7, 8, 9, 10, 11, 12, 13, 14, 15, 16, 17, 18, 19, 20, 21, 22, 23, 24, 25, 26, 27, 34, 35, 36, 37, 38, 39, 28, 29, 30, 31, 32, 33, 40, 41, 42, 43, 44, 45, 46], ([0, 1, 2, 3, 4, 5, 6, 7, 8, 9, 10, 11, 12, 13, 14, 15, 16, 17, 18, 19, 20, 21, 22, 23, 24, 25, 26, 27, 34, 35, 36, 37, 38, 39].filterMap (fun i => (wX cI cZ cO a u)[i]?)), rfl, by decide, rfl, by decide, by decide, rfl, by decide⟩
def pm_X_vv10_22 (i : Nat) : Nat := [10, 11, 12, 13, 14, 15, 22, 23, 24, 25, 26, 27, 40].getD i 0
set_option maxRecDepth 100000 in
theorem cut_X_vv10_22 (cI cZ cO : ClassId) (a : Nat → Nat) (u : XS) (t : VS × VS) : smCut (wX cI cZ cO a u) (wVV cI cZ cO (fun i => a (pm_X_vv10_22 i)) ((gX_told u), (gM_now (gX_mind u)))) (wVV cI cZ cO (fun i => a (pm_X_vv10_22 i)) t) (wX cI cZ cO a (sX_mind (sX_told u t.1) (sM_now (gX_mind (sX_told u t.1)) t.2))) := ⟨[10, 11, 12, 13, 14, 15, 22, 23, 24, 25, 26, 27], [0, 1, 2, 3, 4, 5, 6, 7, 8, 9, 16, 17, 18, 19, 20, 21, 28, 29, 30, 31, 32, 33, 34, 35, 36, 37, 38, 39, 40, 41, 42, 43, 44, 45, 46], [0, 1, 2, 3, 4, 5, 6, 7, 8, 9, 35, 36, 37, 38, 39, 40, 10, 11, 12, 13, 14, 15, 41, 42, 43, 44, 45, 46, 16, 17, 18, 19, 20, 21, 22, 23, 24, 25, 26, 27, 28, 29, 30, 31, 32, 33, 34], ([0, 1, 2, 3, 4, 5, 6, 7, 8, 9, 16, 17, 18, 19, 20, 21, 28, 29, 30, 31, 32, 33, 34, 35, 36, 37, 38, 39, 40, 41, 42, 43, 44, 45, 46].filterMap (fun i => (wX cI cZ cO a u)[i]?)), rfl, by decide, rfl, by decide, by decide, rfl, by decide⟩
set_option maxRecDepth 100000 in
theorem cut_X_vv10_22_ro (cI cZ cO : ClassId) (a : Nat → Nat) (u : XS) : smCut (wX cI cZ cO a u) (wVV cI cZ cO (fun i => a (pm_X_vv10_22 i)) ((gX_told u), (gM_now (gX_mind u)))) (wVV cI cZ cO (fun i => a (pm_X_vv10_22 i)) ((gX_told u), (gM_now (gX_mind u)))) (wX cI cZ cO a u) := ⟨[10, 11, 12, 13, 14, 15, 22, 23, 24, 25, 26, 27], [0, 1, 2, 3, 4, 5, 6, 7, 8, 9, 16, 17, 18, 19, 20, 21, 28, 29, 30, 31, 32, 33, 34, 35, 36, 37, 38, 39, 40, 41, 42, 43, 44, 45, 46], [0, 1, 2, 3, 4, 5, 6, 7, 8, 9, 35, 36, 37, 38, 39, 40, 10, 11, 12, 13, 14, 15, 41, 42, 43, 44, 45, 46, 16, 17, 18, 19, 20, 21, 22, 23, 24, 25, 26, 27, 28, 29, 30, 31, 32, 33, 34], ([0, 1, 2, 3, 4, 5, 6, 7, 8, 9, 16, 17, 18, 19, 20, 21, 28, 29, 30, 31, 32, 33, 34, 35, 36, 37, 38, 39, 40, 41, 42, 43, 44, 45, 46].filterMap (fun i => (wX cI cZ cO a u)[i]?)), rfl, by decide, rfl, by decide, by decide, rfl, by decide⟩
def pm_X_vv22_4 (i : Nat) : Nat := [22, 23, 24, 25, 26, 27, 4, 5, 6, 7, 8, 9, 40].getD i 0
set_option maxRecDepth 100000 in
theorem cut_X_vv22_4 (cI cZ cO : ClassId) (a : Nat → Nat) (u : XS) (t : VS × VS) : smCut (wX cI cZ cO a u) (wVV cI cZ cO (fun i => a (pm_X_vv22_4 i)) ((gM_now (gX_mind u)), (gX_kept u))) (wVV cI cZ cO (fun i => a (pm_X_vv22_4 i)) t) (wX cI cZ cO a (sX_kept (sX_mind u (sM_now (gX_mind u) t.1)) t.2)) := ⟨[22, 23, 24, 25, 26, 27, 4, 5, 6, 7, 8, 9], [0, 1, 2, 3, 10, 11, 12, 13, 14, 15, 16, 17, 18, 19, 20, 21, 28, 29, 30, 31, 32, 33, 34, 35, 36, 37, 38, 39, 40, 41, 42, 43, 44, 45, 46], [0, 1, 2, 3, 41, 42, 43, 44, 45, 46, 4, 5, 6, 7, 8, 9, 10, 11, 12, 13, 14, 15, 35, 36, 37, 38, 39, 40, 16, 17, 18, 19, 20, 21, 22, 23, 24, 25, 26, 27, 28, 29, 30, 31, 32, 33, 34], ([0, 1, 2, 3, 10, 11, 12, 13, 14, 15, 16, 17, 18, 19, 20, 21, 28, 29, 30, 31, 32, 33, 34, 35, 36, 37, 38, 39, 40, 41, 42, 43, 44, 45, 46].filterMap (fun i => (wX cI cZ cO a u)[i]?)), rfl, by decide, rfl, by decide, by decide, rfl, by decide⟩
set_option maxRecDepth 100000 in
theorem cut_X_vv22_4_ro (cI cZ cO : ClassId) (a : Nat → Nat) (u : XS) : smCut (wX cI cZ cO a u) (wVV cI cZ cO (fun i => a (pm_X_vv22_4 i)) ((gM_now (gX_mind u)), (gX_kept u))) (wVV cI cZ cO (fun i => a (pm_X_vv22_4 i)) ((gM_now (gX_mind u)), (gX_kept u))) (wX cI cZ cO a u) := ⟨[22, 23, 24, 25, 26, 27, 4, 5, 6, 7, 8, 9], [0, 1, 2, 3, 10, 11, 12, 13, 14, 15, 16, 17, 18, 19, 20, 21, 28, 29, 30, 31, 32, 33, 34, 35, 36, 37, 38, 39, 40, 41, 42, 43, 44, 45, 46], [0, 1, 2, 3, 41, 42, 43, 44, 45, 46, 4, 5, 6, 7, 8, 9, 10, 11, 12, 13, 14, 15, 35, 36, 37, 38, 39, 40, 16, 17, 18, 19, 20, 21, 22, 23, 24, 25, 26, 27, 28, 29, 30, 31, 32, 33, 34], ([0, 1, 2, 3, 10, 11, 12, 13, 14, 15, 16, 17, 18, 19, 20, 21, 28, 29, 30, 31, 32, 33, 34, 35, 36, 37, 38, 39, 40, 41, 42, 43, 44, 45, 46].filterMap (fun i => (wX cI cZ cO a u)[i]?)), rfl, by decide, rfl, by decide, by decide, rfl, by decide⟩
def pm_X_vv4_22 (i : Nat) : Nat := [4, 5, 6, 7, 8, 9, 22, 23, 24, 25, 26, 27, 40].getD i 0
set_option maxRecDepth 100000 in
theorem cut_X_vv4_22 (cI cZ cO : ClassId) (a : Nat → Nat) (u : XS) (t : VS × VS) : smCut (wX cI cZ cO a u) (wVV cI cZ cO (fun i => a (pm_X_vv4_22 i)) ((gX_kept u), (gM_now (gX_mind u)))) (wVV cI cZ cO (fun i => a (pm_X_vv4_22 i)) t) (wX cI cZ cO a (sX_mind (sX_kept u t.1) (sM_now (gX_mind (sX_kept u t.1)) t.2))) := ⟨[4, 5, 6, 7, 8, 9, 22, 23, 24, 25, 26, 27], [0, 1, 2, 3, 10, 11, 12, 13, 14, 15, 16, 17, 18, 19, 20, 21, 28, 29, 30, 31, 32, 33, 34, 35, 36, 37, 38, 39, 40, 41, 42, 43, 44, 45, 46], [0, 1, 2, 3, 35, 36, 37, 38, 39, 40, 4, 5, 6, 7, 8, 9, 10, 11, 12, 13, 14, 15, 41, 42, 43, 44, 45, 46, 16, 17, 18, 19, 20, 21, 22, 23, 24, 25, 26, 27, 28, 29, 30, 31, 32, 33, 34], ([0, 1, 2, 3, 10, 11, 12, 13, 14, 15, 16, 17, 18, 19, 20, 21, 28, 29, 30, 31, 32, 33, 34, 35, 36, 37, 38, 39, 40, 41, 42, 43, 44, 45, 46].filterMap (fun i => (wX cI cZ cO a u)[i]?)), rfl, by decide, rfl, by decide, by decide, rfl, by decide⟩
set_option maxRecDepth 100000 in
theorem cut_X_vv4_22_ro (cI cZ cO : ClassId) (a : Nat → Nat) (u : XS) : smCut (wX cI cZ cO a u) (wVV cI cZ cO (fun i => a (pm_X_vv4_22 i)) ((gX_kept u), (gM_now (gX_mind u)))) (wVV cI cZ cO (fun i => a (pm_X_vv4_22 i)) ((gX_kept u), (gM_now (gX_mind u)))) (wX cI cZ cO a u) := ⟨[4, 5, 6, 7, 8, 9, 22, 23, 24, 25, 26, 27], [0, 1, 2, 3, 10, 11, 12, 13, 14, 15, 16, 17, 18, 19, 20, 21, 28, 29, 30, 31, 32, 33, 34, 35, 36, 37, 38, 39, 40, 41, 42, 43, 44, 45, 46], [0, 1, 2, 3, 35, 36, 37, 38, 39, 40, 4, 5, 6, 7, 8, 9, 10, 11, 12, 13, 14, 15, 41, 42, 43, 44, 45, 46, 16, 17, 18, 19, 20, 21, 22, 23, 24, 25, 26, 27, 28, 29, 30, 31, 32, 33, 34], ([0, 1, 2, 3, 10, 11, 12, 13, 14, 15, 16, 17, 18, 19, 20, 21, 28, 29, 30, 31, 32, 33, 34, 35, 36, 37, 38, 39, 40, 41, 42, 43, 44, 45, 46].filterMap (fun i => (wX cI cZ cO a u)[i]?)), rfl, by decide, rfl, by decide, by decide, rfl, by decide⟩
set_option maxRecDepth 100000 in
theorem cut_V_none (cI cZ cO : ClassId) (a : Nat → Nat) (u : VS) : smCut (wV cI cZ cO a u) [] [] (wV cI cZ cO a u) := sm_cutNil _ [0, 1, 2, 3, 4, 5, 6, 7, 8, 9, 10, 11, 12] rfl (by decide)
set_option maxRecDepth 100000 in
theorem cut_VV_none (cI cZ cO : ClassId) (a : Nat → Nat) (u : VS × VS) : smCut (wVV cI cZ cO a u) [] [] (wVV cI cZ cO a u) := sm_cutNil _ [0, 1, 2, 3, 4, 5, 6, 7, 8, 9, 10, 11] rfl (by decide)
set_option maxRecDepth 100000 in
theorem cut_T_none (cI cZ cO : ClassId) (a : Nat → Nat) (u : TS) : smCut (wT cI cZ cO a u) [] [] (wT cI cZ cO a u) := sm_cutNil _ [0, 1] rfl (by decide)
set_option maxRecDepth 100000 in
theorem cut_R_none (cI cZ cO : ClassId) (a : Nat → Nat) (u : RS) : smCut (wR cI cZ cO a u) [] [] (wR cI cZ cO a u) := sm_cutNil _ [0, 1] rfl (by decide)
set_option maxRecDepth 100000 in
theorem cut_TV_none (cI cZ cO : ClassId) (a : Nat → Nat) (u : TS × VS) : smCut (wTV cI cZ cO a u) [] [] (wTV cI cZ cO a u) := sm_cutNil _ [0, 1, 2, 3, 4, 5, 6, 7, 8, 9, 10, 11, 12, 13, 14] rfl (by decide)
set_option maxRecDepth 100000 in
theorem cut_M_none (cI cZ cO : ClassId) (a : Nat → Nat) (u : MS) : smCut (wM cI cZ cO a u) [] [] (wM cI cZ cO a u) := sm_cutNil _ [0, 1, 2, 3, 4, 5, 6, 7, 8, 9, 10, 11, 12, 13, 14, 15, 16, 17, 18, 19, 20, 21, 22, 23, 24, 25, 26, 27, 28, 29, 30] rfl (by decide)
set_option maxRecDepth 100000 in
theorem cut_X_none (cI cZ cO : ClassId) (a : Nat → Nat) (u : XS) : smCut (wX cI cZ cO a u) [] [] (wX cI cZ cO a u) := sm_cutNil _ [0, 1, 2, 3, 4, 5, 6, 7, 8, 9, 10, 11, 12, 13, 14, 15, 16, 17, 18, 19, 20, 21, 22, 23, 24, 25, 26, 27, 28, 29, 30, 31, 32, 33, 34, 35, 36, 37, 38, 39, 40, 41, 42, 43, 44, 45, 46] rfl (by decide)
set_option maxRecDepth 100000 in
theorem cut_D_none (cI cZ cO : ClassId) (a : Nat → Nat) (u : DS) : smCut (wD cI cZ cO a u) [] [] (wD cI cZ cO a u) := sm_cutNil _ [0, 1, 2, 3, 4, 5, 6, 7, 8] rfl (by decide)
set_option maxRecDepth 100000 in
theorem cut_I_none (cI cZ cO : ClassId) (a : Nat → Nat) (u : Nat → Int32) : smCut (wI cI cZ cO a u) [] [] (wI cI cZ cO a u) := sm_cutNil _ [0] rfl (by decide)
set_option maxRecDepth 100000 in
theorem cut_II_none (cI cZ cO : ClassId) (a : Nat → Nat) (u : (Nat → Int32) × (Nat → Int32)) : smCut (wII cI cZ cO a u) [] [] (wII cI cZ cO a u) := sm_cutNil _ [0, 1] rfl (by decide)
set_option maxRecDepth 100000 in
theorem cut_V_p0 (cI cZ cO : ClassId) (a : Nat → Nat) (u : VS) : smCut (wV cI cZ cO a u) (wP 4 (fun i => a (7 + i))) (wP 4 (fun i => a (7 + i))) (wV cI cZ cO a u) := ⟨[7], [0, 1, 2, 3, 4, 5, 6, 8, 9, 10, 11, 12], [0, 1, 2, 3, 4, 5, 6, 12, 7, 8, 9, 10, 11], ([0, 1, 2, 3, 4, 5, 6, 8, 9, 10, 11, 12].filterMap (fun i => (wV cI cZ cO a u)[i]?)), rfl, by decide, rfl, by decide, by decide, rfl, by decide⟩
set_option maxRecDepth 100000 in
theorem cut_V_p1 (cI cZ cO : ClassId) (a : Nat → Nat) (u : VS) : smCut (wV cI cZ cO a u) (wP 0 (fun i => a (8 + i))) (wP 0 (fun i => a (8 + i))) (wV cI cZ cO a u) := ⟨[8], [0, 1, 2, 3, 4, 5, 6, 7, 9, 10, 11, 12], [0, 1, 2, 3, 4, 5, 6, 7, 12, 8, 9, 10, 11], ([0, 1, 2, 3, 4, 5, 6, 7, 9, 10, 11, 12].filterMap (fun i => (wV cI cZ cO a u)[i]?)), rfl, by decide, rfl, by decide, by decide, rfl, by decide⟩
set_option maxRecDepth 100000 in
theorem cut_V_p2 (cI cZ cO : ClassId) (a : Nat → Nat) (u : VS) : smCut (wV cI cZ cO a u) (wP 2 (fun i => a (9 + i))) (wP 2 (fun i => a (9 + i))) (wV cI cZ cO a u) := ⟨[9], [0, 1, 2, 3, 4, 5, 6, 7, 8, 10, 11, 12], [0, 1, 2, 3, 4, 5, 6, 7, 8, 12, 9, 10, 11], ([0, 1, 2, 3, 4, 5, 6, 7, 8, 10, 11, 12].filterMap (fun i => (wV cI cZ cO a u)[i]?)), rfl, by decide, rfl, by decide, by decide, rfl, by decide⟩
set_option maxRecDepth 100000 in
theorem cut_V_p3 (cI cZ cO : ClassId) (a : Nat → Nat) (u : VS) : smCut (wV cI cZ cO a u) (wP 5 (fun i => a (10 + i))) (wP 5 (fun i => a (10 + i))) (wV cI cZ cO a u) := ⟨[10], [0, 1, 2, 3, 4, 5, 6, 7, 8, 9, 11, 12], [0, 1, 2, 3, 4, 5, 6, 7, 8, 9, 12, 10, 11], ([0, 1, 2, 3, 4, 5, 6, 7, 8, 9, 11, 12].filterMap (fun i => (wV cI cZ cO a u)[i]?)), rfl, by decide, rfl, by decide, by decide, rfl, by decide⟩
set_option maxRecDepth 100000 in
theorem cut_V_p4 (cI cZ cO : ClassId) (a : Nat → Nat) (u : VS) : smCut (wV cI cZ cO a u) (wP 1 (fun i => a (11 + i))) (wP 1 (fun i => a (11 + i))) (wV cI cZ cO a u) := ⟨[11], [0, 1, 2, 3, 4, 5, 6, 7, 8, 9, 10, 12], [0, 1, 2, 3, 4, 5, 6, 7, 8, 9, 10, 12, 11], ([0, 1, 2, 3, 4, 5, 6, 7, 8, 9, 10, 12].filterMap (fun i => (wV cI cZ cO a u)[i]?)), rfl, by decide, rfl, by decide, by decide, rfl, by decide⟩
set_option maxRecDepth 100000 in
theorem cut_V_p5 (cI cZ cO : ClassId) (a : Nat → Nat) (u : VS) : smCut (wV cI cZ cO a u) (wP 9 (fun i => a (12 + i))) (wP 9 (fun i => a (12 + i))) (wV cI cZ cO a u) := ⟨[12], [0, 1, 2, 3, 4, 5, 6, 7, 8, 9, 10, 11], [0, 1, 2, 3, 4, 5, 6, 7, 8, 9, 10, 11, 12], ([0, 1, 2, 3, 4, 5, 6, 7, 8, 9, 10, 11].filterMap (fun i => (wV cI cZ cO a u)[i]?)), rfl, by decide, rfl, by decide, by decide, rfl, by decide⟩
set_option maxRecDepth 100000 in
theorem cut_P_id (ci : Nat) (a : Nat → Nat) : smCut (wP ci a) (wP ci a) (wP ci a) (wP ci a) := ⟨[0], [], [0], [], rfl, by decide, rfl, rfl, fun _ h => (by cases h), rfl, by decide⟩
set_option maxRecDepth 100000 in
theorem cut_P_none (ci : Nat) (a : Nat → Nat) : smCut (wP ci a) [] [] (wP ci a) := sm_cutNil _ [0] rfl (by decide)
set_option maxRecDepth 100000 in
theorem cut_N_none : smCut [] [] [] [] := sm_cutNil _ [] rfl (by decide)
theorem kd_change {i w0 w1 w2 z : Int32} (h : f_K_change i w0 w1 w2 = some z) : (i = 0 ∧ f_X4_change w0 w1 w2 = some z) ∨ (i = 1 ∧ f_X0_change w0 w1 w2 = some z) ∨ (i = 2 ∧ f_X2_change w0 w1 w2 = some z) ∨ (i = 3 ∧ f_X5_change w0 w1 w2 = some z) ∨ (i = 4 ∧ f_X1_change w0 w1 w2 = some z) ∨ (i = 5 ∧ f_X9_change w0 w1 w2 = some z) := by
  unfold f_K_change at h
  by_cases h0 : i = 0
  · exact Or.inl ⟨h0, if_t h0 h⟩
  replace h := if_f h0 h
  by_cases h1 : i = 1
  · exact Or.inr (Or.inl ⟨h1, if_t h1 h⟩)
  replace h := if_f h1 h
  by_cases h2 : i = 2
  · exact Or.inr (Or.inr (Or.inl ⟨h2, if_t h2 h⟩))
  replace h := if_f h2 h
  by_cases h3 : i = 3
  · exact Or.inr (Or.inr (Or.inr (Or.inl ⟨h3, if_t h3 h⟩)))
  replace h := if_f h3 h
  by_cases h4 : i = 4
  · exact Or.inr (Or.inr (Or.inr (Or.inr (Or.inl ⟨h4, if_t h4 h⟩))))
  replace h := if_f h4 h
  by_cases h5 : i = 5
  · exact Or.inr (Or.inr (Or.inr (Or.inr (Or.inr (⟨h5, if_t h5 h⟩)))))
  replace h := if_f h5 h
  cases h
theorem hk_change : "SoManyForgotten$Person" ≠ "java/lang/invoke/MethodHandle" ∧ "SoManyForgotten$Person" ≠ "java/lang/invoke/VarHandle" ∧ (parseMethodDescriptor "(III)I").map (fun d => d.parameters.length) = some 3 := by decide +kernel
theorem kd_isNamed {i w0 z : Int32} (h : f_K_isNamed i w0 = some z) : (i = 0 ∧ f_X4_isNamed w0 = some z) ∨ (i = 1 ∧ f_X4_isNamed w0 = some z) ∨ (i = 2 ∧ f_X4_isNamed w0 = some z) ∨ (i = 3 ∧ f_X4_isNamed w0 = some z) ∨ (i = 4 ∧ f_X1_isNamed w0 = some z) ∨ (i = 5 ∧ f_X9_isNamed w0 = some z) := by
  unfold f_K_isNamed at h
  by_cases h0 : i = 0
  · exact Or.inl ⟨h0, if_t h0 h⟩
  replace h := if_f h0 h
  by_cases h1 : i = 1
  · exact Or.inr (Or.inl ⟨h1, if_t h1 h⟩)
  replace h := if_f h1 h
  by_cases h2 : i = 2
  · exact Or.inr (Or.inr (Or.inl ⟨h2, if_t h2 h⟩))
  replace h := if_f h2 h
  by_cases h3 : i = 3
  · exact Or.inr (Or.inr (Or.inr (Or.inl ⟨h3, if_t h3 h⟩)))
  replace h := if_f h3 h
  by_cases h4 : i = 4
  · exact Or.inr (Or.inr (Or.inr (Or.inr (Or.inl ⟨h4, if_t h4 h⟩))))
  replace h := if_f h4 h
  by_cases h5 : i = 5
  · exact Or.inr (Or.inr (Or.inr (Or.inr (Or.inr (⟨h5, if_t h5 h⟩)))))
  replace h := if_f h5 h
  cases h
theorem hk_isNamed : "SoManyForgotten$Person" ≠ "java/lang/invoke/MethodHandle" ∧ "SoManyForgotten$Person" ≠ "java/lang/invoke/VarHandle" ∧ (parseMethodDescriptor "(I)Z").map (fun d => d.parameters.length) = some 1 := by decide +kernel
