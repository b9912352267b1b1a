set_option maxRecDepth 100000 in
theorem qw0_0 : Cond.selects RX10 yX10_refused_ yX10_refused_ ∈ LW := lwm (tb0 (List.mem_of_getElem? (i := 0) (by decide +kernel))) rfl
set_option maxRecDepth 100000 in
theorem qw0_1 : Cond.selects RX10 yX10_counted yX10_counted ∈ LW := lwm (tb0 (List.mem_of_getElem? (i := 1) (by decide +kernel))) rfl
set_option maxRecDepth 100000 in
theorem qw0_10 : Cond.selects RX8 yX8_rememberMore yX8_rememberMore ∈ LW := lwm (tb0 (List.mem_of_getElem? (i := 10) (by decide +kernel))) rfl
set_option maxRecDepth 100000 in
theorem qw0_11 : Cond.selects RX8 yX8_passSpring yX8_passSpring ∈ LW := lwm (tb0 (List.mem_of_getElem? (i := 11) (by decide +kernel))) rfl
set_option maxRecDepth 100000 in
theorem qw0_12 : Cond.selects RX8 yX8_forget yX8_forget ∈ LW := lwm (tb0 (List.mem_of_getElem? (i := 12) (by decide +kernel))) rfl
set_option maxRecDepth 100000 in
theorem qw0_13 : Cond.selects RX10 yX10_nobody yX10_nobody ∈ LW := lwm (tb0 (List.mem_of_getElem? (i := 13) (by decide +kernel))) rfl
set_option maxRecDepth 100000 in
theorem qw0_14 : Cond.selects RX10 yX10_notTwo yX10_notTwo ∈ LW := lwm (tb0 (List.mem_of_getElem? (i := 14) (by decide +kernel))) rfl
set_option maxRecDepth 100000 in
theorem qw0_15 : Cond.selects RX10 yX10_refused yX10_refused ∈ LW := lwm (tb0 (List.mem_of_getElem? (i := 15) (by decide +kernel))) rfl
set_option maxRecDepth 100000 in
theorem qw0_16 : Cond.selects RX10 yX10_forgotten yX10_forgotten ∈ LW := lwm (tb0 (List.mem_of_getElem? (i := 16) (by decide +kernel))) rfl
set_option maxRecDepth 100000 in
theorem qw0_17 : Cond.selects RX10 yX10_refused__ yX10_refused__ ∈ LW := lwm (tb0 (List.mem_of_getElem? (i := 17) (by decide +kernel))) rfl
set_option maxRecDepth 100000 in
theorem qw0_18 : Cond.selects RX3 yX3_startAgain yX3_startAgain ∈ LW := lwm (tb0 (List.mem_of_getElem? (i := 18) (by decide +kernel))) rfl
set_option maxRecDepth 100000 in
theorem qw0_19 : Cond.selects RX3 yX3_areListeners yX3_areListeners ∈ LW := lwm (tb0 (List.mem_of_getElem? (i := 19) (by decide +kernel))) rfl
set_option maxRecDepth 100000 in
theorem qw0_20 : Cond.selects RX3 yX3_isKeptBy yX3_isKeptBy ∈ LW := lwm (tb0 (List.mem_of_getElem? (i := 20) (by decide +kernel))) rfl
set_option maxRecDepth 100000 in
theorem qw0_21 : Cond.selects RX3 yX3_isLeague yX3_isLeague ∈ LW := lwm (tb0 (List.mem_of_getElem? (i := 21) (by decide +kernel))) rfl
set_option maxRecDepth 100000 in
theorem qw0_22 : Cond.selects RX8 yX8_areCold yX8_areCold ∈ LW := lwm (tb0 (List.mem_of_getElem? (i := 22) (by decide +kernel))) rfl
set_option maxRecDepth 100000 in
theorem qw0_23 : Cond.selects RX10 yX10_refused___ yX10_refused___ ∈ LW := lwm (tb0 (List.mem_of_getElem? (i := 23) (by decide +kernel))) rfl
set_option maxRecDepth 100000 in
theorem qw0_24 : Cond.selects RX3 yX3_weighPair yX3_weighPair ∈ LW := lwm (tb0 (List.mem_of_getElem? (i := 24) (by decide +kernel))) rfl
set_option maxRecDepth 100000 in
theorem qw0_26 : Cond.selects RX3 yX3_isMemoryAsTold yX3_isMemoryAsTold ∈ LW := lwm (tb0 (List.mem_of_getElem? (i := 26) (by decide +kernel))) rfl
set_option maxRecDepth 100000 in
theorem qw0_27 : Cond.selects RX3 yX3_drawMemories yX3_drawMemories ∈ LW := lwm (tb0 (List.mem_of_getElem? (i := 27) (by decide +kernel))) rfl
set_option maxRecDepth 100000 in
theorem qw0_28 : Cond.selects RX3 yX3_drawBelowHundred yX3_drawBelowHundred ∈ LW := lwm (tb0 (List.mem_of_getElem? (i := 28) (by decide +kernel))) rfl
set_option maxRecDepth 100000 in
theorem qw0_29 : Cond.selects RX11 yX11_no yX11_no ∈ LW := lwm (tb0 (List.mem_of_getElem? (i := 29) (by decide +kernel))) rfl
set_option maxRecDepth 100000 in
theorem qw0_30 : Cond.selects RX11 yX11_readsStatement yX11_readsStatement ∈ LW := lwm (tb0 (List.mem_of_getElem? (i := 30) (by decide +kernel))) rfl
set_option maxRecDepth 100000 in
theorem qw0_31 : Cond.selects RX11 yX11_here yX11_here ∈ LW := lwm (tb0 (List.mem_of_getElem? (i := 31) (by decide +kernel))) rfl
set_option maxRecDepth 100000 in
theorem qw0_32 : Cond.selects RX11 yX11_readsKind yX11_readsKind ∈ LW := lwm (tb0 (List.mem_of_getElem? (i := 32) (by decide +kernel))) rfl
set_option maxRecDepth 100000 in
theorem qw0_33 : Cond.selects RX11 yX11_readsNumber yX11_readsNumber ∈ LW := lwm (tb0 (List.mem_of_getElem? (i := 33) (by decide +kernel))) rfl
set_option maxRecDepth 100000 in
theorem qw0_34 : Cond.selects RX11 yX11_isDone yX11_isDone ∈ LW := lwm (tb0 (List.mem_of_getElem? (i := 34) (by decide +kernel))) rfl
set_option maxRecDepth 100000 in
theorem qw0_35 : Cond.selects RX11 yX11_adds yX11_adds ∈ LW := lwm (tb0 (List.mem_of_getElem? (i := 35) (by decide +kernel))) rfl
set_option maxRecDepth 100000 in
theorem qw0_36 : Cond.selects RX11 yX11_areTwo yX11_areTwo ∈ LW := lwm (tb0 (List.mem_of_getElem? (i := 36) (by decide +kernel))) rfl
set_option maxRecDepth 100000 in
theorem qw0_37 : Cond.selects RX11 yX11_isOne yX11_isOne ∈ LW := lwm (tb0 (List.mem_of_getElem? (i := 37) (by decide +kernel))) rfl
set_option maxRecDepth 100000 in
theorem qw0_38 : Cond.selects RX11 yX11_takes yX11_takes ∈ LW := lwm (tb0 (List.mem_of_getElem? (i := 38) (by decide +kernel))) rfl
set_option maxRecDepth 100000 in
theorem qw0_39 : Cond.selects RX11 yX11_goesOf yX11_goesOf ∈ LW := lwm (tb0 (List.mem_of_getElem? (i := 39) (by decide +kernel))) rfl
set_option maxRecDepth 100000 in
theorem qw0_40 : Cond.selects RX11 yX11_goesIn yX11_goesIn ∈ LW := lwm (tb0 (List.mem_of_getElem? (i := 40) (by decide +kernel))) rfl
set_option maxRecDepth 100000 in
theorem qw0_41 : Cond.selects RX11 yX11_emptyBehind yX11_emptyBehind ∈ LW := lwm (tb0 (List.mem_of_getElem? (i := 41) (by decide +kernel))) rfl
set_option maxRecDepth 100000 in
theorem qw0_42 : Cond.selects RX11 yX11_wrongOne yX11_wrongOne ∈ LW := lwm (tb0 (List.mem_of_getElem? (i := 42) (by decide +kernel))) rfl
set_option maxRecDepth 100000 in
theorem qw0_43 : Cond.selects RX11 yX11_isHereBy yX11_isHereBy ∈ LW := lwm (tb0 (List.mem_of_getElem? (i := 43) (by decide +kernel))) rfl
set_option maxRecDepth 100000 in
theorem qw0_44 : Cond.selects RX11 yX11_areLeagued yX11_areLeagued ∈ LW := lwm (tb0 (List.mem_of_getElem? (i := 44) (by decide +kernel))) rfl
set_option maxRecDepth 100000 in
theorem qw0_45 : Cond.selects RX11 yX11_hasBy yX11_hasBy ∈ LW := lwm (tb0 (List.mem_of_getElem? (i := 45) (by decide +kernel))) rfl
set_option maxRecDepth 100000 in
theorem qw0_46 : Cond.selects RX11 yX11_speaksToAll yX11_speaksToAll ∈ LW := lwm (tb0 (List.mem_of_getElem? (i := 46) (by decide +kernel))) rfl
set_option maxRecDepth 100000 in
theorem qw0_47 : Cond.selects RX11 yX11_noWide yX11_noWide ∈ LW := lwm (tb0 (List.mem_of_getElem? (i := 47) (by decide +kernel))) rfl
set_option maxRecDepth 100000 in
theorem qw0_48 : Cond.selects RX11 yX11_drawn yX11_drawn ∈ LW := lwm (tb0 (List.mem_of_getElem? (i := 48) (by decide +kernel))) rfl
set_option maxRecDepth 100000 in
theorem qw0_6 : Cond.selects RX7 yX7_digit yX7_digit ∈ LW := lwm (tb0 (List.mem_of_getElem? (i := 6) (by decide +kernel))) rfl
set_option maxRecDepth 100000 in
theorem qw0_7 : Cond.selects RX7 yX7_number yX7_number ∈ LW := lwm (tb0 (List.mem_of_getElem? (i := 7) (by decide +kernel))) rfl
set_option maxRecDepth 100000 in
theorem qw0_8 : Cond.selects RX8 yX8_addMemory yX8_addMemory ∈ LW := lwm (tb0 (List.mem_of_getElem? (i := 8) (by decide +kernel))) rfl
set_option maxRecDepth 100000 in
theorem qw0_9 : Cond.selects RX8 yX8_rememberAs yX8_rememberAs ∈ LW := lwm (tb0 (List.mem_of_getElem? (i := 9) (by decide +kernel))) rfl
set_option maxRecDepth 100000 in
theorem qw1_1 : Cond.initialized RX10 ∈ LW := lwm (tb1 (List.mem_of_getElem? (i := 1) (by decide +kernel))) rfl
set_option maxRecDepth 100000 in
theorem qw1_10 : Cond.initialized RX7 ∈ LW := lwm (tb1 (List.mem_of_getElem? (i := 10) (by decide +kernel))) rfl
set_option maxRecDepth 100000 in
theorem qw1_100 : Cond.fieldLink RX7 140 "SoManyForgotten$Valley" "namesEachSpring" "I" ∈ LW := lwm (tb1 (List.mem_of_getElem? (i := 100) (by decide +kernel))) rfl
set_option maxRecDepth 100000 in
theorem qw1_101 : Cond.fieldLink RX8 35 "SoManyForgotten$Valley" "week" "I" ∈ LW := lwm (tb1 (List.mem_of_getElem? (i := 101) (by decide +kernel))) rfl
set_option maxRecDepth 100000 in
theorem qw1_102 : Cond.fieldLink RX10 162 "SoManyForgotten$Valley" "week" "I" ∈ LW := lwm (tb1 (List.mem_of_getElem? (i := 102) (by decide +kernel))) rfl
set_option maxRecDepth 100000 in
theorem qw1_103 : Cond.fieldLink RX7 143 "SoManyForgotten$Valley" "week" "I" ∈ LW := lwm (tb1 (List.mem_of_getElem? (i := 103) (by decide +kernel))) rfl
set_option maxRecDepth 100000 in
theorem qw1_104 : Cond.laysFinal "SoManyForgotten$Valley" "SoManyForgotten$Valley" "kinds" "[LSoManyForgotten$Person;" ∈ LW := lwm (tb1 (List.mem_of_getElem? (i := 104) (by decide +kernel))) rfl
set_option maxRecDepth 100000 in
theorem qw1_106 : Cond.laysFinal "SoManyForgotten$Valley" "SoManyForgotten$Valley" "kind" "[I" ∈ LW := lwm (tb1 (List.mem_of_getElem? (i := 106) (by decide +kernel))) rfl
set_option maxRecDepth 100000 in
theorem qw1_108 : Cond.laysFinal "SoManyForgotten$Valley" "SoManyForgotten$Valley" "figure" "[I" ∈ LW := lwm (tb1 (List.mem_of_getElem? (i := 108) (by decide +kernel))) rfl
set_option maxRecDepth 100000 in
theorem qw1_11 : Cond.initialized RX6 ∈ LW := lwm (tb1 (List.mem_of_getElem? (i := 11) (by decide +kernel))) rfl
set_option maxRecDepth 100000 in
theorem qw1_110 : Cond.laysFinal "SoManyForgotten$Valley" "SoManyForgotten$Valley" "owed" "[I" ∈ LW := lwm (tb1 (List.mem_of_getElem? (i := 110) (by decide +kernel))) rfl
set_option maxRecDepth 100000 in
theorem qw1_112 : Cond.laysFinal "SoManyForgotten$Valley" "SoManyForgotten$Valley" "here" "[Z" ∈ LW := lwm (tb1 (List.mem_of_getElem? (i := 112) (by decide +kernel))) rfl
set_option maxRecDepth 100000 in
theorem qw1_114 : Cond.laysFinal "SoManyForgotten$Valley" "SoManyForgotten$Valley" "memories" "[I" ∈ LW := lwm (tb1 (List.mem_of_getElem? (i := 114) (by decide +kernel))) rfl
set_option maxRecDepth 100000 in
theorem qw1_116 : Cond.lays "SoManyForgotten$Valley" "SoManyForgotten$Valley" "people" "I" ∈ LW := lwm (tb1 (List.mem_of_getElem? (i := 116) (by decide +kernel))) rfl
set_option maxRecDepth 100000 in
theorem qw1_118 : Cond.lays "SoManyForgotten$Valley" "SoManyForgotten$Valley" "namesEachSpring" "I" ∈ LW := lwm (tb1 (List.mem_of_getElem? (i := 118) (by decide +kernel))) rfl
set_option maxRecDepth 100000 in
theorem qw1_12 : Cond.initialized RX11 ∈ LW := lwm (tb1 (List.mem_of_getElem? (i := 12) (by decide +kernel))) rfl
set_option maxRecDepth 100000 in
theorem qw1_120 : Cond.lays "SoManyForgotten$Valley" "SoManyForgotten$Valley" "week" "I" ∈ LW := lwm (tb1 (List.mem_of_getElem? (i := 120) (by decide +kernel))) rfl
set_option maxRecDepth 100000 in
theorem qw1_13 : Cond.initialized "java/lang/System" ∈ LW := lwm (tb1 (List.mem_of_getElem? (i := 13) (by decide +kernel))) rfl
set_option maxRecDepth 100000 in
theorem qw1_133 : Cond.fieldLink RX3 25 "SoManyForgotten$Mind" "now" "LSoManyForgotten$Valley;" ∈ LW := lwm (tb1 (List.mem_of_getElem? (i := 133) (by decide +kernel))) rfl
set_option maxRecDepth 100000 in
theorem qw1_134 : Cond.fieldLink RX3 34 "SoManyForgotten$Mind" "then" "LSoManyForgotten$Valley;" ∈ LW := lwm (tb1 (List.mem_of_getElem? (i := 134) (by decide +kernel))) rfl
set_option maxRecDepth 100000 in
theorem qw1_135 : Cond.fieldLink RX3 37 "SoManyForgotten$Mind" "otherwise" "LSoManyForgotten$Valley;" ∈ LW := lwm (tb1 (List.mem_of_getElem? (i := 135) (by decide +kernel))) rfl
set_option maxRecDepth 100000 in
theorem qw1_136 : Cond.fieldLink RX3 9 "SoManyForgotten$Mind" "leagues" "[I" ∈ LW := lwm (tb1 (List.mem_of_getElem? (i := 136) (by decide +kernel))) rfl
set_option maxRecDepth 100000 in
theorem qw1_137 : Cond.fieldLink RX3 15 "SoManyForgotten$Mind" "firstGains" "[I" ∈ LW := lwm (tb1 (List.mem_of_getElem? (i := 137) (by decide +kernel))) rfl
set_option maxRecDepth 100000 in
theorem qw1_138 : Cond.fieldLink RX3 18 "SoManyForgotten$Mind" "otherGains" "[I" ∈ LW := lwm (tb1 (List.mem_of_getElem? (i := 138) (by decide +kernel))) rfl
set_option maxRecDepth 100000 in
theorem qw1_139 : Cond.fieldLink RX3 21 "SoManyForgotten$Mind" "z" "I" ∈ LW := lwm (tb1 (List.mem_of_getElem? (i := 139) (by decide +kernel))) rfl
set_option maxRecDepth 100000 in
theorem qw1_140 : Cond.laysFinal "SoManyForgotten$Mind" "SoManyForgotten$Mind" "now" "LSoManyForgotten$Valley;" ∈ LW := lwm (tb1 (List.mem_of_getElem? (i := 140) (by decide +kernel))) rfl
set_option maxRecDepth 100000 in
theorem qw1_142 : Cond.laysFinal "SoManyForgotten$Mind" "SoManyForgotten$Mind" "then" "LSoManyForgotten$Valley;" ∈ LW := lwm (tb1 (List.mem_of_getElem? (i := 142) (by decide +kernel))) rfl
set_option maxRecDepth 100000 in
theorem qw1_144 : Cond.laysFinal "SoManyForgotten$Mind" "SoManyForgotten$Mind" "otherwise" "LSoManyForgotten$Valley;" ∈ LW := lwm (tb1 (List.mem_of_getElem? (i := 144) (by decide +kernel))) rfl
set_option maxRecDepth 100000 in
theorem qw1_146 : Cond.laysFinal "SoManyForgotten$Mind" "SoManyForgotten$Mind" "leagues" "[I" ∈ LW := lwm (tb1 (List.mem_of_getElem? (i := 146) (by decide +kernel))) rfl
set_option maxRecDepth 100000 in
theorem qw1_148 : Cond.laysFinal "SoManyForgotten$Mind" "SoManyForgotten$Mind" "firstGains" "[I" ∈ LW := lwm (tb1 (List.mem_of_getElem? (i := 148) (by decide +kernel))) rfl
set_option maxRecDepth 100000 in
theorem qw1_150 : Cond.laysFinal "SoManyForgotten$Mind" "SoManyForgotten$Mind" "otherGains" "[I" ∈ LW := lwm (tb1 (List.mem_of_getElem? (i := 150) (by decide +kernel))) rfl
set_option maxRecDepth 100000 in
theorem qw1_152 : Cond.lays "SoManyForgotten$Mind" "SoManyForgotten$Mind" "z" "I" ∈ LW := lwm (tb1 (List.mem_of_getElem? (i := 152) (by decide +kernel))) rfl
set_option maxRecDepth 100000 in
theorem qw1_161 : Cond.fieldLink RX7 9 "SoManyForgotten$Telling" "letters" "[I" ∈ LW := lwm (tb1 (List.mem_of_getElem? (i := 161) (by decide +kernel))) rfl
set_option maxRecDepth 100000 in
theorem qw1_162 : Cond.fieldLink RX7 15 "SoManyForgotten$Telling" "size" "I" ∈ LW := lwm (tb1 (List.mem_of_getElem? (i := 162) (by decide +kernel))) rfl
set_option maxRecDepth 100000 in
theorem qw1_163 : Cond.fieldLink RX10 303 "SoManyForgotten$Telling" "size" "I" ∈ LW := lwm (tb1 (List.mem_of_getElem? (i := 163) (by decide +kernel))) rfl
set_option maxRecDepth 100000 in
theorem qw1_164 : Cond.laysFinal "SoManyForgotten$Telling" "SoManyForgotten$Telling" "letters" "[I" ∈ LW := lwm (tb1 (List.mem_of_getElem? (i := 164) (by decide +kernel))) rfl
set_option maxRecDepth 100000 in
theorem qw1_166 : Cond.lays "SoManyForgotten$Telling" "SoManyForgotten$Telling" "size" "I" ∈ LW := lwm (tb1 (List.mem_of_getElem? (i := 166) (by decide +kernel))) rfl
set_option maxRecDepth 100000 in
theorem qw1_175 : Cond.fieldLink RX6 9 "SoManyForgotten$Row" "numbers" "[I" ∈ LW := lwm (tb1 (List.mem_of_getElem? (i := 175) (by decide +kernel))) rfl
set_option maxRecDepth 100000 in
theorem qw1_176 : Cond.fieldLink RX3 175 "SoManyForgotten$Row" "numbers" "[I" ∈ LW := lwm (tb1 (List.mem_of_getElem? (i := 176) (by decide +kernel))) rfl
set_option maxRecDepth 100000 in
theorem qw1_177 : Cond.fieldLink RX6 15 "SoManyForgotten$Row" "size" "I" ∈ LW := lwm (tb1 (List.mem_of_getElem? (i := 177) (by decide +kernel))) rfl
set_option maxRecDepth 100000 in
theorem qw1_178 : Cond.fieldLink RX3 167 "SoManyForgotten$Row" "size" "I" ∈ LW := lwm (tb1 (List.mem_of_getElem? (i := 178) (by decide +kernel))) rfl
set_option maxRecDepth 100000 in
theorem qw1_179 : Cond.fieldLink RX10 300 "SoManyForgotten$Row" "size" "I" ∈ LW := lwm (tb1 (List.mem_of_getElem? (i := 179) (by decide +kernel))) rfl
set_option maxRecDepth 100000 in
theorem qw1_18 : Cond.initialized "java/lang/Math" ∈ LW := lwm (tb1 (List.mem_of_getElem? (i := 18) (by decide +kernel))) rfl
set_option maxRecDepth 100000 in
theorem qw1_180 : Cond.laysFinal "SoManyForgotten$Row" "SoManyForgotten$Row" "numbers" "[I" ∈ LW := lwm (tb1 (List.mem_of_getElem? (i := 180) (by decide +kernel))) rfl
set_option maxRecDepth 100000 in
theorem qw1_182 : Cond.lays "SoManyForgotten$Row" "SoManyForgotten$Row" "size" "I" ∈ LW := lwm (tb1 (List.mem_of_getElem? (i := 182) (by decide +kernel))) rfl
set_option maxRecDepth 100000 in
theorem qw1_185 : Cond.fieldLink RX10 32 "SoManyForgotten" "now" "LSoManyForgotten$Valley;" ∈ LW := lwm (tb1 (List.mem_of_getElem? (i := 185) (by decide +kernel))) rfl
set_option maxRecDepth 100000 in
theorem qw1_186 : Cond.fieldLink RX10 36 "SoManyForgotten" "kept" "LSoManyForgotten$Valley;" ∈ LW := lwm (tb1 (List.mem_of_getElem? (i := 186) (by decide +kernel))) rfl
set_option maxRecDepth 100000 in
theorem qw1_187 : Cond.fieldLink RX10 39 "SoManyForgotten" "told" "LSoManyForgotten$Valley;" ∈ LW := lwm (tb1 (List.mem_of_getElem? (i := 187) (by decide +kernel))) rfl
set_option maxRecDepth 100000 in
theorem qw1_188 : Cond.fieldLink RX10 47 "SoManyForgotten" "mind" "LSoManyForgotten$Mind;" ∈ LW := lwm (tb1 (List.mem_of_getElem? (i := 188) (by decide +kernel))) rfl
set_option maxRecDepth 100000 in
theorem qw1_189 : Cond.fieldLink RX10 54 "SoManyForgotten" "telling" "LSoManyForgotten$Telling;" ∈ LW := lwm (tb1 (List.mem_of_getElem? (i := 189) (by decide +kernel))) rfl
set_option maxRecDepth 100000 in
theorem qw1_190 : Cond.fieldLink RX10 61 "SoManyForgotten" "numbers" "LSoManyForgotten$Row;" ∈ LW := lwm (tb1 (List.mem_of_getElem? (i := 190) (by decide +kernel))) rfl
set_option maxRecDepth 100000 in
theorem qw1_191 : Cond.fieldLink RX10 65 "SoManyForgotten" "refusals" "[I" ∈ LW := lwm (tb1 (List.mem_of_getElem? (i := 191) (by decide +kernel))) rfl
set_option maxRecDepth 100000 in
theorem qw1_192 : Cond.fieldLink RX10 69 "SoManyForgotten" "imageTaken" "Z" ∈ LW := lwm (tb1 (List.mem_of_getElem? (i := 192) (by decide +kernel))) rfl
set_option maxRecDepth 100000 in
theorem qw1_193 : Cond.laysFinal "SoManyForgotten" "SoManyForgotten" "now" "LSoManyForgotten$Valley;" ∈ LW := lwm (tb1 (List.mem_of_getElem? (i := 193) (by decide +kernel))) rfl
set_option maxRecDepth 100000 in
theorem qw1_195 : Cond.laysFinal "SoManyForgotten" "SoManyForgotten" "kept" "LSoManyForgotten$Valley;" ∈ LW := lwm (tb1 (List.mem_of_getElem? (i := 195) (by decide +kernel))) rfl
set_option maxRecDepth 100000 in
theorem qw1_197 : Cond.laysFinal "SoManyForgotten" "SoManyForgotten" "told" "LSoManyForgotten$Valley;" ∈ LW := lwm (tb1 (List.mem_of_getElem? (i := 197) (by decide +kernel))) rfl
set_option maxRecDepth 100000 in
theorem qw1_199 : Cond.laysFinal "SoManyForgotten" "SoManyForgotten" "mind" "LSoManyForgotten$Mind;" ∈ LW := lwm (tb1 (List.mem_of_getElem? (i := 199) (by decide +kernel))) rfl
set_option maxRecDepth 100000 in
theorem qw1_2 : Cond.initialized RX4 ∈ LW := lwm (tb1 (List.mem_of_getElem? (i := 2) (by decide +kernel))) rfl
set_option maxRecDepth 100000 in
theorem qw1_20 : Cond.initialized RJ6 ∈ LW := lwm (tb1 (List.mem_of_getElem? (i := 20) (by decide +kernel))) rfl
set_option maxRecDepth 100000 in
theorem qw1_201 : Cond.laysFinal "SoManyForgotten" "SoManyForgotten" "telling" "LSoManyForgotten$Telling;" ∈ LW := lwm (tb1 (List.mem_of_getElem? (i := 201) (by decide +kernel))) rfl
set_option maxRecDepth 100000 in
theorem qw1_203 : Cond.laysFinal "SoManyForgotten" "SoManyForgotten" "numbers" "LSoManyForgotten$Row;" ∈ LW := lwm (tb1 (List.mem_of_getElem? (i := 203) (by decide +kernel))) rfl
set_option maxRecDepth 100000 in
theorem qw1_205 : Cond.laysFinal "SoManyForgotten" "SoManyForgotten" "refusals" "[I" ∈ LW := lwm (tb1 (List.mem_of_getElem? (i := 205) (by decide +kernel))) rfl
set_option maxRecDepth 100000 in
theorem qw1_207 : Cond.lays "SoManyForgotten" "SoManyForgotten" "imageTaken" "Z" ∈ LW := lwm (tb1 (List.mem_of_getElem? (i := 207) (by decide +kernel))) rfl
set_option maxRecDepth 100000 in
theorem qw1_214 : Cond.methodLink RX10 73 yX10_outside ∈ LW := lwm (tb1 (List.mem_of_getElem? (i := 214) (by decide +kernel))) rfl
set_option maxRecDepth 100000 in
theorem qw1_215 : Cond.static yX10_outside ∈ LW := lwm (tb1 (List.mem_of_getElem? (i := 215) (by decide +kernel))) rfl
set_option maxRecDepth 100000 in
theorem qw1_216 : Cond.code yX10_outside cX10_outside 3 (some .int) ∈ LW := lwm (tb1 (List.mem_of_getElem? (i := 216) (by decide +kernel))) rfl
set_option maxRecDepth 100000 in
theorem qw1_217 : Cond.methodLink RX10 77 yX7_isFull ∈ LW := lwm (tb1 (List.mem_of_getElem? (i := 217) (by decide +kernel))) rfl
set_option maxRecDepth 100000 in
theorem qw1_218 : Cond.instanceMethod yX7_isFull ∈ LW := lwm (tb1 (List.mem_of_getElem? (i := 218) (by decide +kernel))) rfl
set_option maxRecDepth 100000 in
theorem qw1_219 : Cond.selects RX7 yX7_isFull yX7_isFull ∈ LW := lwm (tb1 (List.mem_of_getElem? (i := 219) (by decide +kernel))) rfl
set_option maxRecDepth 100000 in
theorem qw1_220 : Cond.code yX7_isFull cX7_isFull 1 (some .boolean) ∈ LW := lwm (tb1 (List.mem_of_getElem? (i := 220) (by decide +kernel))) rfl
set_option maxRecDepth 100000 in
theorem qw1_221 : Cond.methodLink RX10 81 yX10_refused_ ∈ LW := lwm (tb1 (List.mem_of_getElem? (i := 221) (by decide +kernel))) rfl
set_option maxRecDepth 100000 in
theorem qw1_223 : Cond.instanceMethod yX10_refused_ ∈ LW := lwm (tb1 (List.mem_of_getElem? (i := 223) (by decide +kernel))) rfl
set_option maxRecDepth 100000 in
theorem qw1_224 : Cond.code yX10_refused_ cX10_refused_ 3 (some .int) ∈ LW := lwm (tb1 (List.mem_of_getElem? (i := 224) (by decide +kernel))) rfl
set_option maxRecDepth 100000 in
theorem qw1_225 : Cond.methodLink RX10 314 yX10_firstThatFits ∈ LW := lwm (tb1 (List.mem_of_getElem? (i := 225) (by decide +kernel))) rfl
set_option maxRecDepth 100000 in
theorem qw1_226 : Cond.static yX10_firstThatFits ∈ LW := lwm (tb1 (List.mem_of_getElem? (i := 226) (by decide +kernel))) rfl
set_option maxRecDepth 100000 in
theorem qw1_227 : Cond.code yX10_firstThatFits cX10_firstThatFits 2 (some .int) ∈ LW := lwm (tb1 (List.mem_of_getElem? (i := 227) (by decide +kernel))) rfl
set_option maxRecDepth 100000 in
theorem qw1_228 : Cond.methodLink RX10 311 yX10_counted ∈ LW := lwm (tb1 (List.mem_of_getElem? (i := 228) (by decide +kernel))) rfl
set_option maxRecDepth 100000 in
theorem qw1_230 : Cond.instanceMethod yX10_counted ∈ LW := lwm (tb1 (List.mem_of_getElem? (i := 230) (by decide +kernel))) rfl
set_option maxRecDepth 100000 in
theorem qw1_231 : Cond.code yX10_counted cX10_counted 2 (some .int) ∈ LW := lwm (tb1 (List.mem_of_getElem? (i := 231) (by decide +kernel))) rfl
set_option maxRecDepth 100000 in
theorem qw1_232 : Cond.methodLink RX10 85 yX7_add ∈ LW := lwm (tb1 (List.mem_of_getElem? (i := 232) (by decide +kernel))) rfl
set_option maxRecDepth 100000 in
theorem qw1_233 : Cond.instanceMethod yX7_add ∈ LW := lwm (tb1 (List.mem_of_getElem? (i := 233) (by decide +kernel))) rfl
set_option maxRecDepth 100000 in
theorem qw1_234 : Cond.selects RX7 yX7_add yX7_add ∈ LW := lwm (tb1 (List.mem_of_getElem? (i := 234) (by decide +kernel))) rfl
set_option maxRecDepth 100000 in
theorem qw1_235 : Cond.code yX7_add cX7_add 2 (some .int) ∈ LW := lwm (tb1 (List.mem_of_getElem? (i := 235) (by decide +kernel))) rfl
set_option maxRecDepth 100000 in
theorem qw1_3 : Cond.initialized RX0 ∈ LW := lwm (tb1 (List.mem_of_getElem? (i := 3) (by decide +kernel))) rfl
set_option maxRecDepth 100000 in
theorem qw1_4 : Cond.initialized RX2 ∈ LW := lwm (tb1 (List.mem_of_getElem? (i := 4) (by decide +kernel))) rfl
set_option maxRecDepth 100000 in
theorem qw1_5 : Cond.initialized RX5 ∈ LW := lwm (tb1 (List.mem_of_getElem? (i := 5) (by decide +kernel))) rfl
set_option maxRecDepth 100000 in
theorem qw1_50 : Cond.superclass RX2 RX4 ∈ LW := lwm (tb1 (List.mem_of_getElem? (i := 50) (by decide +kernel))) rfl
set_option maxRecDepth 100000 in
theorem qw1_57 : Cond.superclass RX5 RX0 ∈ LW := lwm (tb1 (List.mem_of_getElem? (i := 57) (by decide +kernel))) rfl
set_option maxRecDepth 100000 in
theorem qw1_6 : Cond.initialized RX1 ∈ LW := lwm (tb1 (List.mem_of_getElem? (i := 6) (by decide +kernel))) rfl
set_option maxRecDepth 100000 in
theorem qw1_7 : Cond.initialized RX9 ∈ LW := lwm (tb1 (List.mem_of_getElem? (i := 7) (by decide +kernel))) rfl
set_option maxRecDepth 100000 in
theorem qw1_71 : Cond.superclass RX9 RX2 ∈ LW := lwm (tb1 (List.mem_of_getElem? (i := 71) (by decide +kernel))) rfl
set_option maxRecDepth 100000 in
theorem qw1_78 : Cond.fieldLink RX8 38 "SoManyForgotten$Valley" "kinds" "[LSoManyForgotten$Person;" ∈ LW := lwm (tb1 (List.mem_of_getElem? (i := 78) (by decide +kernel))) rfl
set_option maxRecDepth 100000 in
theorem qw1_79 : Cond.fieldLink RX8 9 "SoManyForgotten$Valley" "kind" "[I" ∈ LW := lwm (tb1 (List.mem_of_getElem? (i := 79) (by decide +kernel))) rfl
set_option maxRecDepth 100000 in
theorem qw1_8 : Cond.initialized RX8 ∈ LW := lwm (tb1 (List.mem_of_getElem? (i := 8) (by decide +kernel))) rfl
set_option maxRecDepth 100000 in
theorem qw1_80 : Cond.fieldLink RX10 106 "SoManyForgotten$Valley" "kind" "[I" ∈ LW := lwm (tb1 (List.mem_of_getElem? (i := 80) (by decide +kernel))) rfl
set_option maxRecDepth 100000 in
theorem qw1_81 : Cond.fieldLink RX3 105 "SoManyForgotten$Valley" "kind" "[I" ∈ LW := lwm (tb1 (List.mem_of_getElem? (i := 81) (by decide +kernel))) rfl
set_option maxRecDepth 100000 in
theorem qw1_82 : Cond.fieldLink RX8 15 "SoManyForgotten$Valley" "figure" "[I" ∈ LW := lwm (tb1 (List.mem_of_getElem? (i := 82) (by decide +kernel))) rfl
set_option maxRecDepth 100000 in
theorem qw1_83 : Cond.fieldLink RX10 109 "SoManyForgotten$Valley" "figure" "[I" ∈ LW := lwm (tb1 (List.mem_of_getElem? (i := 83) (by decide +kernel))) rfl
set_option maxRecDepth 100000 in
theorem qw1_84 : Cond.fieldLink RX3 164 "SoManyForgotten$Valley" "figure" "[I" ∈ LW := lwm (tb1 (List.mem_of_getElem? (i := 84) (by decide +kernel))) rfl
set_option maxRecDepth 100000 in
theorem qw1_85 : Cond.fieldLink RX8 18 "SoManyForgotten$Valley" "owed" "[I" ∈ LW := lwm (tb1 (List.mem_of_getElem? (i := 85) (by decide +kernel))) rfl
set_option maxRecDepth 100000 in
theorem qw1_86 : Cond.fieldLink RX10 116 "SoManyForgotten$Valley" "owed" "[I" ∈ LW := lwm (tb1 (List.mem_of_getElem? (i := 86) (by decide +kernel))) rfl
set_option maxRecDepth 100000 in
theorem qw1_87 : Cond.fieldLink RX7 123 "SoManyForgotten$Valley" "owed" "[I" ∈ LW := lwm (tb1 (List.mem_of_getElem? (i := 87) (by decide +kernel))) rfl
set_option maxRecDepth 100000 in
theorem qw1_88 : Cond.fieldLink RX3 137 "SoManyForgotten$Valley" "owed" "[I" ∈ LW := lwm (tb1 (List.mem_of_getElem? (i := 88) (by decide +kernel))) rfl
set_option maxRecDepth 100000 in
theorem qw1_89 : Cond.fieldLink RX8 21 "SoManyForgotten$Valley" "here" "[Z" ∈ LW := lwm (tb1 (List.mem_of_getElem? (i := 89) (by decide +kernel))) rfl
set_option maxRecDepth 100000 in
theorem qw1_9 : Cond.initialized RX3 ∈ LW := lwm (tb1 (List.mem_of_getElem? (i := 9) (by decide +kernel))) rfl
set_option maxRecDepth 100000 in
theorem qw1_90 : Cond.fieldLink RX10 112 "SoManyForgotten$Valley" "here" "[Z" ∈ LW := lwm (tb1 (List.mem_of_getElem? (i := 90) (by decide +kernel))) rfl
set_option maxRecDepth 100000 in
theorem qw1_91 : Cond.fieldLink RX3 68 "SoManyForgotten$Valley" "here" "[Z" ∈ LW := lwm (tb1 (List.mem_of_getElem? (i := 91) (by decide +kernel))) rfl
set_option maxRecDepth 100000 in
theorem qw1_92 : Cond.fieldLink RX7 132 "SoManyForgotten$Valley" "here" "[Z" ∈ LW := lwm (tb1 (List.mem_of_getElem? (i := 92) (by decide +kernel))) rfl
set_option maxRecDepth 100000 in
theorem qw1_93 : Cond.fieldLink RX8 25 "SoManyForgotten$Valley" "memories" "[I" ∈ LW := lwm (tb1 (List.mem_of_getElem? (i := 93) (by decide +kernel))) rfl
set_option maxRecDepth 100000 in
theorem qw1_94 : Cond.fieldLink RX8 28 "SoManyForgotten$Valley" "people" "I" ∈ LW := lwm (tb1 (List.mem_of_getElem? (i := 94) (by decide +kernel))) rfl
set_option maxRecDepth 100000 in
theorem qw1_95 : Cond.fieldLink RX3 65 "SoManyForgotten$Valley" "people" "I" ∈ LW := lwm (tb1 (List.mem_of_getElem? (i := 95) (by decide +kernel))) rfl
set_option maxRecDepth 100000 in
theorem qw1_97 : Cond.fieldLink RX10 291 "SoManyForgotten$Valley" "people" "I" ∈ LW := lwm (tb1 (List.mem_of_getElem? (i := 97) (by decide +kernel))) rfl
set_option maxRecDepth 100000 in
theorem qw1_98 : Cond.fieldLink RX8 32 "SoManyForgotten$Valley" "namesEachSpring" "I" ∈ LW := lwm (tb1 (List.mem_of_getElem? (i := 98) (by decide +kernel))) rfl
set_option maxRecDepth 100000 in
theorem qw1_99 : Cond.fieldLink RX10 158 "SoManyForgotten$Valley" "namesEachSpring" "I" ∈ LW := lwm (tb1 (List.mem_of_getElem? (i := 99) (by decide +kernel))) rfl
set_option maxRecDepth 100000 in
theorem qw2_0 : Cond.methodLink RX10 89 yX8_copy ∈ LW := lwm (tb2 (List.mem_of_getElem? (i := 0) (by decide +kernel))) rfl
set_option maxRecDepth 100000 in
theorem qw2_1 : Cond.instanceMethod yX8_copy ∈ LW := lwm (tb2 (List.mem_of_getElem? (i := 1) (by decide +kernel))) rfl
set_option maxRecDepth 100000 in
theorem qw2_101 : Cond.static Lib.Math.min.name ∈ LW := lwm (tb2 (List.mem_of_getElem? (i := 101) (by decide +kernel))) rfl
set_option maxRecDepth 100000 in
theorem qw2_102 : Cond.code Lib.Math.min.name Lib.Math.min.code 2 (some .int) ∈ LW := lwm (tb2 (List.mem_of_getElem? (i := 102) (by decide +kernel))) rfl
set_option maxRecDepth 100000 in
theorem qw2_153 : Cond.methodLink RX7 74 yX7_digit ∈ LW := lwm (tb2 (List.mem_of_getElem? (i := 153) (by decide +kernel))) rfl
set_option maxRecDepth 100000 in
theorem qw2_155 : Cond.instanceMethod yX7_digit ∈ LW := lwm (tb2 (List.mem_of_getElem? (i := 155) (by decide +kernel))) rfl
set_option maxRecDepth 100000 in
theorem qw2_156 : Cond.code yX7_digit cX7_digit 2 (some .int) ∈ LW := lwm (tb2 (List.mem_of_getElem? (i := 156) (by decide +kernel))) rfl
set_option maxRecDepth 100000 in
theorem qw2_161 : Cond.methodLink RX8 66 yX8_setMemory ∈ LW := lwm (tb2 (List.mem_of_getElem? (i := 161) (by decide +kernel))) rfl
set_option maxRecDepth 100000 in
theorem qw2_162 : Cond.instanceMethod yX8_setMemory ∈ LW := lwm (tb2 (List.mem_of_getElem? (i := 162) (by decide +kernel))) rfl
set_option maxRecDepth 100000 in
theorem qw2_163 : Cond.selects RX8 yX8_setMemory yX8_setMemory ∈ LW := lwm (tb2 (List.mem_of_getElem? (i := 163) (by decide +kernel))) rfl
set_option maxRecDepth 100000 in
theorem qw2_164 : Cond.code yX8_setMemory cX8_setMemory 4 none ∈ LW := lwm (tb2 (List.mem_of_getElem? (i := 164) (by decide +kernel))) rfl
set_option maxRecDepth 100000 in
theorem qw2_165 : Cond.methodLink RX7 80 yX7_number ∈ LW := lwm (tb2 (List.mem_of_getElem? (i := 165) (by decide +kernel))) rfl
set_option maxRecDepth 100000 in
theorem qw2_167 : Cond.instanceMethod yX7_number ∈ LW := lwm (tb2 (List.mem_of_getElem? (i := 167) (by decide +kernel))) rfl
set_option maxRecDepth 100000 in
theorem qw2_168 : Cond.code yX7_number cX7_number 2 (some .int) ∈ LW := lwm (tb2 (List.mem_of_getElem? (i := 168) (by decide +kernel))) rfl
set_option maxRecDepth 100000 in
theorem qw2_172 : Cond.methodLink RX7 112 yX8_areTwo ∈ LW := lwm (tb2 (List.mem_of_getElem? (i := 172) (by decide +kernel))) rfl
set_option maxRecDepth 100000 in
theorem qw2_173 : Cond.instanceMethod yX8_areTwo ∈ LW := lwm (tb2 (List.mem_of_getElem? (i := 173) (by decide +kernel))) rfl
set_option maxRecDepth 100000 in
theorem qw2_174 : Cond.selects RX8 yX8_areTwo yX8_areTwo ∈ LW := lwm (tb2 (List.mem_of_getElem? (i := 174) (by decide +kernel))) rfl
set_option maxRecDepth 100000 in
theorem qw2_175 : Cond.code yX8_areTwo cX8_areTwo 3 (some .boolean) ∈ LW := lwm (tb2 (List.mem_of_getElem? (i := 175) (by decide +kernel))) rfl
set_option maxRecDepth 100000 in
theorem qw2_176 : Cond.methodLink RX8 48 yX8_has ∈ LW := lwm (tb2 (List.mem_of_getElem? (i := 176) (by decide +kernel))) rfl
set_option maxRecDepth 100000 in
theorem qw2_177 : Cond.instanceMethod yX8_has ∈ LW := lwm (tb2 (List.mem_of_getElem? (i := 177) (by decide +kernel))) rfl
set_option maxRecDepth 100000 in
theorem qw2_178 : Cond.selects RX8 yX8_has yX8_has ∈ LW := lwm (tb2 (List.mem_of_getElem? (i := 178) (by decide +kernel))) rfl
set_option maxRecDepth 100000 in
theorem qw2_179 : Cond.code yX8_has cX8_has 2 (some .boolean) ∈ LW := lwm (tb2 (List.mem_of_getElem? (i := 179) (by decide +kernel))) rfl
set_option maxRecDepth 100000 in
theorem qw2_180 : Cond.methodLink RX7 116 yX8_setMemory ∈ LW := lwm (tb2 (List.mem_of_getElem? (i := 180) (by decide +kernel))) rfl
set_option maxRecDepth 100000 in
theorem qw2_181 : Cond.methodLink RX7 87 yX7_carryOutOwes ∈ LW := lwm (tb2 (List.mem_of_getElem? (i := 181) (by decide +kernel))) rfl
set_option maxRecDepth 100000 in
theorem qw2_182 : Cond.static yX7_carryOutOwes ∈ LW := lwm (tb2 (List.mem_of_getElem? (i := 182) (by decide +kernel))) rfl
set_option maxRecDepth 100000 in
theorem qw2_183 : Cond.code yX7_carryOutOwes cX7_carryOutOwes 3 (some .boolean) ∈ LW := lwm (tb2 (List.mem_of_getElem? (i := 183) (by decide +kernel))) rfl
set_option maxRecDepth 100000 in
theorem qw2_184 : Cond.methodLink RX7 120 yX8_has ∈ LW := lwm (tb2 (List.mem_of_getElem? (i := 184) (by decide +kernel))) rfl
set_option maxRecDepth 100000 in
theorem qw2_188 : Cond.methodLink RX7 126 yX8_areTwoHere ∈ LW := lwm (tb2 (List.mem_of_getElem? (i := 188) (by decide +kernel))) rfl
set_option maxRecDepth 100000 in
theorem qw2_189 : Cond.instanceMethod yX8_areTwoHere ∈ LW := lwm (tb2 (List.mem_of_getElem? (i := 189) (by decide +kernel))) rfl
set_option maxRecDepth 100000 in
theorem qw2_190 : Cond.selects RX8 yX8_areTwoHere yX8_areTwoHere ∈ LW := lwm (tb2 (List.mem_of_getElem? (i := 190) (by decide +kernel))) rfl
set_option maxRecDepth 100000 in
theorem qw2_191 : Cond.code yX8_areTwoHere cX8_areTwoHere 3 (some .boolean) ∈ LW := lwm (tb2 (List.mem_of_getElem? (i := 191) (by decide +kernel))) rfl
set_option maxRecDepth 100000 in
theorem qw2_192 : Cond.methodLink RX8 52 yX8_isHere ∈ LW := lwm (tb2 (List.mem_of_getElem? (i := 192) (by decide +kernel))) rfl
set_option maxRecDepth 100000 in
theorem qw2_193 : Cond.instanceMethod yX8_isHere ∈ LW := lwm (tb2 (List.mem_of_getElem? (i := 193) (by decide +kernel))) rfl
set_option maxRecDepth 100000 in
theorem qw2_194 : Cond.selects RX8 yX8_isHere yX8_isHere ∈ LW := lwm (tb2 (List.mem_of_getElem? (i := 194) (by decide +kernel))) rfl
set_option maxRecDepth 100000 in
theorem qw2_195 : Cond.code yX8_isHere cX8_isHere 2 (some .boolean) ∈ LW := lwm (tb2 (List.mem_of_getElem? (i := 195) (by decide +kernel))) rfl
set_option maxRecDepth 100000 in
theorem qw2_196 : Cond.methodLink RX7 129 yX8_talk ∈ LW := lwm (tb2 (List.mem_of_getElem? (i := 196) (by decide +kernel))) rfl
set_option maxRecDepth 100000 in
theorem qw2_197 : Cond.instanceMethod yX8_talk ∈ LW := lwm (tb2 (List.mem_of_getElem? (i := 197) (by decide +kernel))) rfl
set_option maxRecDepth 100000 in
theorem qw2_198 : Cond.selects RX8 yX8_talk yX8_talk ∈ LW := lwm (tb2 (List.mem_of_getElem? (i := 198) (by decide +kernel))) rfl
set_option maxRecDepth 100000 in
theorem qw2_199 : Cond.code yX8_talk cX8_talk 3 none ∈ LW := lwm (tb2 (List.mem_of_getElem? (i := 199) (by decide +kernel))) rfl
set_option maxRecDepth 100000 in
theorem qw2_2 : Cond.selects RX8 yX8_copy yX8_copy ∈ LW := lwm (tb2 (List.mem_of_getElem? (i := 2) (by decide +kernel))) rfl
set_option maxRecDepth 100000 in
theorem qw2_200 : Cond.methodLink RX8 70 yX8_addMemory ∈ LW := lwm (tb2 (List.mem_of_getElem? (i := 200) (by decide +kernel))) rfl
set_option maxRecDepth 100000 in
theorem qw2_202 : Cond.instanceMethod yX8_addMemory ∈ LW := lwm (tb2 (List.mem_of_getElem? (i := 202) (by decide +kernel))) rfl
set_option maxRecDepth 100000 in
theorem qw2_203 : Cond.code yX8_addMemory cX8_addMemory 6 none ∈ LW := lwm (tb2 (List.mem_of_getElem? (i := 203) (by decide +kernel))) rfl
set_option maxRecDepth 100000 in
theorem qw2_204 : Cond.methodLink RX8 60 Lib.Math.min.name ∈ LW := lwm (tb2 (List.mem_of_getElem? (i := 204) (by decide +kernel))) rfl
set_option maxRecDepth 100000 in
theorem qw2_205 : Cond.methodLink RX7 94 yX7_carryOutBack ∈ LW := lwm (tb2 (List.mem_of_getElem? (i := 205) (by decide +kernel))) rfl
set_option maxRecDepth 100000 in
theorem qw2_206 : Cond.static yX7_carryOutBack ∈ LW := lwm (tb2 (List.mem_of_getElem? (i := 206) (by decide +kernel))) rfl
set_option maxRecDepth 100000 in
theorem qw2_207 : Cond.code yX7_carryOutBack cX7_carryOutBack 2 (some .boolean) ∈ LW := lwm (tb2 (List.mem_of_getElem? (i := 207) (by decide +kernel))) rfl
set_option maxRecDepth 100000 in
theorem qw2_208 : Cond.methodLink RX7 136 yX8_comeBack ∈ LW := lwm (tb2 (List.mem_of_getElem? (i := 208) (by decide +kernel))) rfl
set_option maxRecDepth 100000 in
theorem qw2_209 : Cond.instanceMethod yX8_comeBack ∈ LW := lwm (tb2 (List.mem_of_getElem? (i := 209) (by decide +kernel))) rfl
set_option maxRecDepth 100000 in
theorem qw2_210 : Cond.selects RX8 yX8_comeBack yX8_comeBack ∈ LW := lwm (tb2 (List.mem_of_getElem? (i := 210) (by decide +kernel))) rfl
set_option maxRecDepth 100000 in
theorem qw2_211 : Cond.code yX8_comeBack cX8_comeBack 2 none ∈ LW := lwm (tb2 (List.mem_of_getElem? (i := 211) (by decide +kernel))) rfl
set_option maxRecDepth 100000 in
theorem qw2_212 : Cond.methodLink RX8 81 yX8_rememberAs ∈ LW := lwm (tb2 (List.mem_of_getElem? (i := 212) (by decide +kernel))) rfl
set_option maxRecDepth 100000 in
theorem qw2_214 : Cond.instanceMethod yX8_rememberAs ∈ LW := lwm (tb2 (List.mem_of_getElem? (i := 214) (by decide +kernel))) rfl
set_option maxRecDepth 100000 in
theorem qw2_215 : Cond.code yX8_rememberAs cX8_rememberAs 4 none ∈ LW := lwm (tb2 (List.mem_of_getElem? (i := 215) (by decide +kernel))) rfl
set_option maxRecDepth 100000 in
theorem qw2_216 : Cond.methodLink RX7 97 yX7_carryOutNames ∈ LW := lwm (tb2 (List.mem_of_getElem? (i := 216) (by decide +kernel))) rfl
set_option maxRecDepth 100000 in
theorem qw2_217 : Cond.static yX7_carryOutNames ∈ LW := lwm (tb2 (List.mem_of_getElem? (i := 217) (by decide +kernel))) rfl
set_option maxRecDepth 100000 in
theorem qw2_218 : Cond.code yX7_carryOutNames cX7_carryOutNames 2 (some .boolean) ∈ LW := lwm (tb2 (List.mem_of_getElem? (i := 218) (by decide +kernel))) rfl
set_option maxRecDepth 100000 in
theorem qw2_222 : Cond.methodLink RX7 146 yX8_passWeek ∈ LW := lwm (tb2 (List.mem_of_getElem? (i := 222) (by decide +kernel))) rfl
set_option maxRecDepth 100000 in
theorem qw2_223 : Cond.instanceMethod yX8_passWeek ∈ LW := lwm (tb2 (List.mem_of_getElem? (i := 223) (by decide +kernel))) rfl
set_option maxRecDepth 100000 in
theorem qw2_224 : Cond.selects RX8 yX8_passWeek yX8_passWeek ∈ LW := lwm (tb2 (List.mem_of_getElem? (i := 224) (by decide +kernel))) rfl
set_option maxRecDepth 100000 in
theorem qw2_225 : Cond.code yX8_passWeek cX8_passWeek 3 none ∈ LW := lwm (tb2 (List.mem_of_getElem? (i := 225) (by decide +kernel))) rfl
set_option maxRecDepth 100000 in
theorem qw2_226 : Cond.methodLink RX8 90 yX4_change ∈ LW := lwm (tb2 (List.mem_of_getElem? (i := 226) (by decide +kernel))) rfl
set_option maxRecDepth 100000 in
theorem qw2_226p : Cond.methodLink RX8 90 ⟨"SoManyForgotten$Person", "change", "(III)I"⟩ ∈ LW := lwm (tb2 (List.mem_of_getElem? (i := 226) (by decide +kernel))) rfl
set_option maxRecDepth 100000 in
theorem qw2_227 : Cond.instanceMethod yX4_change ∈ LW := lwm (tb2 (List.mem_of_getElem? (i := 227) (by decide +kernel))) rfl
set_option maxRecDepth 100000 in
theorem qw2_227p : Cond.instanceMethod ⟨"SoManyForgotten$Person", "change", "(III)I"⟩ ∈ LW := lwm (tb2 (List.mem_of_getElem? (i := 227) (by decide +kernel))) rfl
set_option maxRecDepth 100000 in
theorem qw2_228 : Cond.selects RX4 yX4_change yX4_change ∈ LW := lwm (tb2 (List.mem_of_getElem? (i := 228) (by decide +kernel))) rfl
set_option maxRecDepth 100000 in
theorem qw2_229 : Cond.sameMethod RX4 RX4 "change" "(III)I" ∈ LW := lwm (tb2 (List.mem_of_getElem? (i := 229) (by decide +kernel))) rfl
set_option maxRecDepth 100000 in
theorem qw2_229p : Cond.sameMethod "SoManyForgotten$Person" "SoManyForgotten$Person" "change" "(III)I" ∈ LW := lwm (tb2 (List.mem_of_getElem? (i := 229) (by decide +kernel))) rfl
set_option maxRecDepth 100000 in
theorem qw2_230p : Cond.selects RX0 ⟨"SoManyForgotten$Person", "change", "(III)I"⟩ yX0_change ∈ LW := lwm (tb2 (List.mem_of_getElem? (i := 230) (by decide +kernel))) rfl
set_option maxRecDepth 100000 in
theorem qw2_231 : Cond.instanceMethod yX0_change ∈ LW := lwm (tb2 (List.mem_of_getElem? (i := 231) (by decide +kernel))) rfl
set_option maxRecDepth 100000 in
theorem qw2_232 : Cond.code yX0_change cX0_change 4 (some .int) ∈ LW := lwm (tb2 (List.mem_of_getElem? (i := 232) (by decide +kernel))) rfl
set_option maxRecDepth 100000 in
theorem qw2_233p : Cond.selects RX1 ⟨"SoManyForgotten$Person", "change", "(III)I"⟩ yX1_change ∈ LW := lwm (tb2 (List.mem_of_getElem? (i := 233) (by decide +kernel))) rfl
set_option maxRecDepth 100000 in
theorem qw2_234 : Cond.instanceMethod yX1_change ∈ LW := lwm (tb2 (List.mem_of_getElem? (i := 234) (by decide +kernel))) rfl
set_option maxRecDepth 100000 in
theorem qw2_235 : Cond.code yX1_change cX1_change 4 (some .int) ∈ LW := lwm (tb2 (List.mem_of_getElem? (i := 235) (by decide +kernel))) rfl
set_option maxRecDepth 100000 in
theorem qw2_236p : Cond.selects RX2 ⟨"SoManyForgotten$Person", "change", "(III)I"⟩ yX2_change ∈ LW := lwm (tb2 (List.mem_of_getElem? (i := 236) (by decide +kernel))) rfl
set_option maxRecDepth 100000 in
theorem qw2_237 : Cond.instanceMethod yX2_change ∈ LW := lwm (tb2 (List.mem_of_getElem? (i := 237) (by decide +kernel))) rfl
set_option maxRecDepth 100000 in
theorem qw2_238 : Cond.code yX2_change cX2_change 6 (some .int) ∈ LW := lwm (tb2 (List.mem_of_getElem? (i := 238) (by decide +kernel))) rfl
set_option maxRecDepth 100000 in
theorem qw2_239 : Cond.methodLink RX2 7 yX4_change ∈ LW := lwm (tb2 (List.mem_of_getElem? (i := 239) (by decide +kernel))) rfl
set_option maxRecDepth 100000 in
theorem qw2_3 : Cond.code yX8_copy cX8_copy 3 none ∈ LW := lwm (tb2 (List.mem_of_getElem? (i := 3) (by decide +kernel))) rfl
set_option maxRecDepth 100000 in
theorem qw2_4 : Cond.methodLink RX8 42 arraycopyName ∈ LW := lwm (tb2 (List.mem_of_getElem? (i := 4) (by decide +kernel))) rfl
set_option maxRecDepth 100000 in
theorem qw2_5 : Cond.static arraycopyName ∈ LW := lwm (tb2 (List.mem_of_getElem? (i := 5) (by decide +kernel))) rfl
set_option maxRecDepth 100000 in
theorem qw2_6 : Cond.native arraycopyName ∈ LW := lwm (tb2 (List.mem_of_getElem? (i := 6) (by decide +kernel))) rfl
set_option maxRecDepth 100000 in
theorem qw2_98 : Cond.static Lib.Math.max.name ∈ LW := lwm (tb2 (List.mem_of_getElem? (i := 98) (by decide +kernel))) rfl
set_option maxRecDepth 100000 in
theorem qw2_99 : Cond.code Lib.Math.max.name Lib.Math.max.code 2 (some .int) ∈ LW := lwm (tb2 (List.mem_of_getElem? (i := 99) (by decide +kernel))) rfl
set_option maxRecDepth 100000 in
theorem qw3_0p : Cond.selects RX5 ⟨"SoManyForgotten$Person", "change", "(III)I"⟩ yX5_change ∈ LW := lwm (tb3 (List.mem_of_getElem? (i := 0) (by decide +kernel))) rfl
set_option maxRecDepth 100000 in
theorem qw3_1 : Cond.instanceMethod yX5_change ∈ LW := lwm (tb3 (List.mem_of_getElem? (i := 1) (by decide +kernel))) rfl
set_option maxRecDepth 100000 in
theorem qw3_108 : Cond.methodLink RX10 147 yX8_isHere ∈ LW := lwm (tb3 (List.mem_of_getElem? (i := 108) (by decide +kernel))) rfl
set_option maxRecDepth 100000 in
theorem qw3_109 : Cond.methodLink RX10 150 yX8_comeBack ∈ LW := lwm (tb3 (List.mem_of_getElem? (i := 109) (by decide +kernel))) rfl
set_option maxRecDepth 100000 in
theorem qw3_11 : Cond.instanceMethod yX8_rememberMore ∈ LW := lwm (tb3 (List.mem_of_getElem? (i := 11) (by decide +kernel))) rfl
set_option maxRecDepth 100000 in
theorem qw3_110 : Cond.methodLink RX10 154 yX8_countHere ∈ LW := lwm (tb3 (List.mem_of_getElem? (i := 110) (by decide +kernel))) rfl
set_option maxRecDepth 100000 in
theorem qw3_111 : Cond.instanceMethod yX8_countHere ∈ LW := lwm (tb3 (List.mem_of_getElem? (i := 111) (by decide +kernel))) rfl
set_option maxRecDepth 100000 in
theorem qw3_112 : Cond.selects RX8 yX8_countHere yX8_countHere ∈ LW := lwm (tb3 (List.mem_of_getElem? (i := 112) (by decide +kernel))) rfl
set_option maxRecDepth 100000 in
theorem qw3_113 : Cond.code yX8_countHere cX8_countHere 1 (some .int) ∈ LW := lwm (tb3 (List.mem_of_getElem? (i := 113) (by decide +kernel))) rfl
set_option maxRecDepth 100000 in
theorem qw3_114 : Cond.methodLink RX8 109 yX8_hereBits ∈ LW := lwm (tb3 (List.mem_of_getElem? (i := 114) (by decide +kernel))) rfl
set_option maxRecDepth 100000 in
theorem qw3_115 : Cond.instanceMethod yX8_hereBits ∈ LW := lwm (tb3 (List.mem_of_getElem? (i := 115) (by decide +kernel))) rfl
set_option maxRecDepth 100000 in
theorem qw3_116 : Cond.selects RX8 yX8_hereBits yX8_hereBits ∈ LW := lwm (tb3 (List.mem_of_getElem? (i := 116) (by decide +kernel))) rfl
set_option maxRecDepth 100000 in
theorem qw3_117 : Cond.code yX8_hereBits cX8_hereBits 3 (some .int) ∈ LW := lwm (tb3 (List.mem_of_getElem? (i := 117) (by decide +kernel))) rfl
set_option maxRecDepth 100000 in
theorem qw3_118 : Cond.methodLink RX8 112 yJ6_bitCount_0f7a4 ∈ LW := lwm (tb3 (List.mem_of_getElem? (i := 118) (by decide +kernel))) rfl
set_option maxRecDepth 100000 in
theorem qw3_119 : Cond.static yJ6_bitCount_0f7a4 ∈ LW := lwm (tb3 (List.mem_of_getElem? (i := 119) (by decide +kernel))) rfl
set_option maxRecDepth 100000 in
theorem qw3_12 : Cond.code yX8_rememberMore cX8_rememberMore 4 none ∈ LW := lwm (tb3 (List.mem_of_getElem? (i := 12) (by decide +kernel))) rfl
set_option maxRecDepth 100000 in
theorem qw3_120 : Cond.code yJ6_bitCount_0f7a4 cJ6_bitCount_0f7a4 1 (some .int) ∈ LW := lwm (tb3 (List.mem_of_getElem? (i := 120) (by decide +kernel))) rfl
set_option maxRecDepth 100000 in
theorem qw3_121 : Cond.constant RJ6 265 (1431655765) ∈ LW := lwm (tb3 (List.mem_of_getElem? (i := 121) (by decide +kernel))) rfl
set_option maxRecDepth 100000 in
theorem qw3_122 : Cond.constant RJ6 266 (858993459) ∈ LW := lwm (tb3 (List.mem_of_getElem? (i := 122) (by decide +kernel))) rfl
set_option maxRecDepth 100000 in
theorem qw3_123 : Cond.constant RJ6 267 (252645135) ∈ LW := lwm (tb3 (List.mem_of_getElem? (i := 123) (by decide +kernel))) rfl
set_option maxRecDepth 100000 in
theorem qw3_13 : Cond.methodLink RX8 94 yX8_passSpring ∈ LW := lwm (tb3 (List.mem_of_getElem? (i := 13) (by decide +kernel))) rfl
set_option maxRecDepth 100000 in
theorem qw3_136 : Cond.methodLink RX10 165 Lib.Math.min.name ∈ LW := lwm (tb3 (List.mem_of_getElem? (i := 136) (by decide +kernel))) rfl
set_option maxRecDepth 100000 in
theorem qw3_137 : Cond.methodLink RX10 170 yX8_passWeeks ∈ LW := lwm (tb3 (List.mem_of_getElem? (i := 137) (by decide +kernel))) rfl
set_option maxRecDepth 100000 in
theorem qw3_138 : Cond.instanceMethod yX8_passWeeks ∈ LW := lwm (tb3 (List.mem_of_getElem? (i := 138) (by decide +kernel))) rfl
set_option maxRecDepth 100000 in
theorem qw3_139 : Cond.selects RX8 yX8_passWeeks yX8_passWeeks ∈ LW := lwm (tb3 (List.mem_of_getElem? (i := 139) (by decide +kernel))) rfl
set_option maxRecDepth 100000 in
theorem qw3_140 : Cond.code yX8_passWeeks cX8_passWeeks 3 none ∈ LW := lwm (tb3 (List.mem_of_getElem? (i := 140) (by decide +kernel))) rfl
set_option maxRecDepth 100000 in
theorem qw3_141 : Cond.methodLink RX8 87 yX8_passWeek ∈ LW := lwm (tb3 (List.mem_of_getElem? (i := 141) (by decide +kernel))) rfl
set_option maxRecDepth 100000 in
theorem qw3_146 : Cond.methodLink RX10 173 yX3_after ∈ LW := lwm (tb3 (List.mem_of_getElem? (i := 146) (by decide +kernel))) rfl
set_option maxRecDepth 100000 in
theorem qw3_147 : Cond.instanceMethod yX3_after ∈ LW := lwm (tb3 (List.mem_of_getElem? (i := 147) (by decide +kernel))) rfl
set_option maxRecDepth 100000 in
theorem qw3_148 : Cond.selects RX3 yX3_after yX3_after ∈ LW := lwm (tb3 (List.mem_of_getElem? (i := 148) (by decide +kernel))) rfl
set_option maxRecDepth 100000 in
theorem qw3_149 : Cond.code yX3_after cX3_after 2 (some (.object "SoManyForgotten$Valley")) ∈ LW := lwm (tb3 (List.mem_of_getElem? (i := 149) (by decide +kernel))) rfl
set_option maxRecDepth 100000 in
theorem qw3_15 : Cond.instanceMethod yX8_passSpring ∈ LW := lwm (tb3 (List.mem_of_getElem? (i := 15) (by decide +kernel))) rfl
set_option maxRecDepth 100000 in
theorem qw3_150 : Cond.methodLink RX3 44 yX3_startAgain ∈ LW := lwm (tb3 (List.mem_of_getElem? (i := 150) (by decide +kernel))) rfl
set_option maxRecDepth 100000 in
theorem qw3_152 : Cond.instanceMethod yX3_startAgain ∈ LW := lwm (tb3 (List.mem_of_getElem? (i := 152) (by decide +kernel))) rfl
set_option maxRecDepth 100000 in
theorem qw3_153 : Cond.code yX3_startAgain cX3_startAgain 1 none ∈ LW := lwm (tb3 (List.mem_of_getElem? (i := 153) (by decide +kernel))) rfl
set_option maxRecDepth 100000 in
theorem qw3_154 : Cond.methodLink RX3 40 yX8_copy ∈ LW := lwm (tb3 (List.mem_of_getElem? (i := 154) (by decide +kernel))) rfl
set_option maxRecDepth 100000 in
theorem qw3_155 : Cond.methodLink RX3 47 yX8_passWeeks ∈ LW := lwm (tb3 (List.mem_of_getElem? (i := 155) (by decide +kernel))) rfl
set_option maxRecDepth 100000 in
theorem qw3_16 : Cond.code yX8_passSpring cX8_passSpring 3 none ∈ LW := lwm (tb3 (List.mem_of_getElem? (i := 16) (by decide +kernel))) rfl
set_option maxRecDepth 100000 in
theorem qw3_164 : Cond.methodLink RX10 177 yX8_forgottenBits ∈ LW := lwm (tb3 (List.mem_of_getElem? (i := 164) (by decide +kernel))) rfl
set_option maxRecDepth 100000 in
theorem qw3_165 : Cond.instanceMethod yX8_forgottenBits ∈ LW := lwm (tb3 (List.mem_of_getElem? (i := 165) (by decide +kernel))) rfl
set_option maxRecDepth 100000 in
theorem qw3_166 : Cond.selects RX8 yX8_forgottenBits yX8_forgottenBits ∈ LW := lwm (tb3 (List.mem_of_getElem? (i := 166) (by decide +kernel))) rfl
set_option maxRecDepth 100000 in
theorem qw3_167 : Cond.code yX8_forgottenBits cX8_forgottenBits 1 (some .int) ∈ LW := lwm (tb3 (List.mem_of_getElem? (i := 167) (by decide +kernel))) rfl
set_option maxRecDepth 100000 in
theorem qw3_17 : Cond.methodLink RX8 97 yX8_leastKnown ∈ LW := lwm (tb3 (List.mem_of_getElem? (i := 17) (by decide +kernel))) rfl
set_option maxRecDepth 100000 in
theorem qw3_172 : Cond.methodLink RX10 180 yX3_untilForgotten ∈ LW := lwm (tb3 (List.mem_of_getElem? (i := 172) (by decide +kernel))) rfl
set_option maxRecDepth 100000 in
theorem qw3_173 : Cond.instanceMethod yX3_untilForgotten ∈ LW := lwm (tb3 (List.mem_of_getElem? (i := 173) (by decide +kernel))) rfl
set_option maxRecDepth 100000 in
theorem qw3_174 : Cond.selects RX3 yX3_untilForgotten yX3_untilForgotten ∈ LW := lwm (tb3 (List.mem_of_getElem? (i := 174) (by decide +kernel))) rfl
set_option maxRecDepth 100000 in
theorem qw3_175 : Cond.code yX3_untilForgotten cX3_untilForgotten 2 (some .int) ∈ LW := lwm (tb3 (List.mem_of_getElem? (i := 175) (by decide +kernel))) rfl
set_option maxRecDepth 100000 in
theorem qw3_176 : Cond.methodLink RX3 51 yX8_passUntilForgotten ∈ LW := lwm (tb3 (List.mem_of_getElem? (i := 176) (by decide +kernel))) rfl
set_option maxRecDepth 100000 in
theorem qw3_177 : Cond.instanceMethod yX8_passUntilForgotten ∈ LW := lwm (tb3 (List.mem_of_getElem? (i := 177) (by decide +kernel))) rfl
set_option maxRecDepth 100000 in
theorem qw3_178 : Cond.selects RX8 yX8_passUntilForgotten yX8_passUntilForgotten ∈ LW := lwm (tb3 (List.mem_of_getElem? (i := 178) (by decide +kernel))) rfl
set_option maxRecDepth 100000 in
theorem qw3_179 : Cond.code yX8_passUntilForgotten cX8_passUntilForgotten 3 (some .int) ∈ LW := lwm (tb3 (List.mem_of_getElem? (i := 179) (by decide +kernel))) rfl
set_option maxRecDepth 100000 in
theorem qw3_18 : Cond.instanceMethod yX8_leastKnown ∈ LW := lwm (tb3 (List.mem_of_getElem? (i := 18) (by decide +kernel))) rfl
set_option maxRecDepth 100000 in
theorem qw3_180 : Cond.methodLink RX10 183 yX10_noneIfNever ∈ LW := lwm (tb3 (List.mem_of_getElem? (i := 180) (by decide +kernel))) rfl
set_option maxRecDepth 100000 in
theorem qw3_181 : Cond.static yX10_noneIfNever ∈ LW := lwm (tb3 (List.mem_of_getElem? (i := 181) (by decide +kernel))) rfl
set_option maxRecDepth 100000 in
theorem qw3_182 : Cond.code yX10_noneIfNever cX10_noneIfNever 1 (some .int) ∈ LW := lwm (tb3 (List.mem_of_getElem? (i := 182) (by decide +kernel))) rfl
set_option maxRecDepth 100000 in
theorem qw3_187 : Cond.methodLink RX10 186 yX3_firstForgotten ∈ LW := lwm (tb3 (List.mem_of_getElem? (i := 187) (by decide +kernel))) rfl
set_option maxRecDepth 100000 in
theorem qw3_188 : Cond.instanceMethod yX3_firstForgotten ∈ LW := lwm (tb3 (List.mem_of_getElem? (i := 188) (by decide +kernel))) rfl
set_option maxRecDepth 100000 in
theorem qw3_189 : Cond.selects RX3 yX3_firstForgotten yX3_firstForgotten ∈ LW := lwm (tb3 (List.mem_of_getElem? (i := 189) (by decide +kernel))) rfl
set_option maxRecDepth 100000 in
theorem qw3_19 : Cond.selects RX8 yX8_leastKnown yX8_leastKnown ∈ LW := lwm (tb3 (List.mem_of_getElem? (i := 19) (by decide +kernel))) rfl
set_option maxRecDepth 100000 in
theorem qw3_190 : Cond.code yX3_firstForgotten cX3_firstForgotten 2 (some .int) ∈ LW := lwm (tb3 (List.mem_of_getElem? (i := 190) (by decide +kernel))) rfl
set_option maxRecDepth 100000 in
theorem qw3_191 : Cond.methodLink RX3 62 yX3_untilFirstForgotten ∈ LW := lwm (tb3 (List.mem_of_getElem? (i := 191) (by decide +kernel))) rfl
set_option maxRecDepth 100000 in
theorem qw3_192 : Cond.instanceMethod yX3_untilFirstForgotten ∈ LW := lwm (tb3 (List.mem_of_getElem? (i := 192) (by decide +kernel))) rfl
set_option maxRecDepth 100000 in
theorem qw3_193 : Cond.selects RX3 yX3_untilFirstForgotten yX3_untilFirstForgotten ∈ LW := lwm (tb3 (List.mem_of_getElem? (i := 193) (by decide +kernel))) rfl
set_option maxRecDepth 100000 in
theorem qw3_194 : Cond.code yX3_untilFirstForgotten cX3_untilFirstForgotten 3 (some .int) ∈ LW := lwm (tb3 (List.mem_of_getElem? (i := 194) (by decide +kernel))) rfl
set_option maxRecDepth 100000 in
theorem qw3_195 : Cond.methodLink RX3 55 yX8_hereBits ∈ LW := lwm (tb3 (List.mem_of_getElem? (i := 195) (by decide +kernel))) rfl
set_option maxRecDepth 100000 in
theorem qw3_196 : Cond.methodLink RX3 59 yX8_passWeek ∈ LW := lwm (tb3 (List.mem_of_getElem? (i := 196) (by decide +kernel))) rfl
set_option maxRecDepth 100000 in
theorem qw3_197 : Cond.methodLink RX10 189 yX3_untilFirstForgotten ∈ LW := lwm (tb3 (List.mem_of_getElem? (i := 197) (by decide +kernel))) rfl
set_option maxRecDepth 100000 in
theorem qw3_198 : Cond.methodLink RX10 192 yX3_untilEmpty ∈ LW := lwm (tb3 (List.mem_of_getElem? (i := 198) (by decide +kernel))) rfl
set_option maxRecDepth 100000 in
theorem qw3_199 : Cond.instanceMethod yX3_untilEmpty ∈ LW := lwm (tb3 (List.mem_of_getElem? (i := 199) (by decide +kernel))) rfl
set_option maxRecDepth 100000 in
theorem qw3_2 : Cond.code yX5_change cX5_change 4 (some .int) ∈ LW := lwm (tb3 (List.mem_of_getElem? (i := 2) (by decide +kernel))) rfl
set_option maxRecDepth 100000 in
theorem qw3_20 : Cond.code yX8_leastKnown cX8_leastKnown 5 (some .int) ∈ LW := lwm (tb3 (List.mem_of_getElem? (i := 20) (by decide +kernel))) rfl
set_option maxRecDepth 100000 in
theorem qw3_200 : Cond.selects RX3 yX3_untilEmpty yX3_untilEmpty ∈ LW := lwm (tb3 (List.mem_of_getElem? (i := 200) (by decide +kernel))) rfl
set_option maxRecDepth 100000 in
theorem qw3_201 : Cond.code yX3_untilEmpty cX3_untilEmpty 2 (some .int) ∈ LW := lwm (tb3 (List.mem_of_getElem? (i := 201) (by decide +kernel))) rfl
set_option maxRecDepth 100000 in
theorem qw3_206 : Cond.methodLink RX10 195 yX8_leastKnown ∈ LW := lwm (tb3 (List.mem_of_getElem? (i := 206) (by decide +kernel))) rfl
set_option maxRecDepth 100000 in
theorem qw3_207 : Cond.methodLink RX10 198 yX8_bestKnown ∈ LW := lwm (tb3 (List.mem_of_getElem? (i := 207) (by decide +kernel))) rfl
set_option maxRecDepth 100000 in
theorem qw3_208 : Cond.instanceMethod yX8_bestKnown ∈ LW := lwm (tb3 (List.mem_of_getElem? (i := 208) (by decide +kernel))) rfl
set_option maxRecDepth 100000 in
theorem qw3_209 : Cond.selects RX8 yX8_bestKnown yX8_bestKnown ∈ LW := lwm (tb3 (List.mem_of_getElem? (i := 209) (by decide +kernel))) rfl
set_option maxRecDepth 100000 in
theorem qw3_21 : Cond.methodLink RX8 55 yX4_isNamed ∈ LW := lwm (tb3 (List.mem_of_getElem? (i := 21) (by decide +kernel))) rfl
set_option maxRecDepth 100000 in
theorem qw3_210 : Cond.code yX8_bestKnown cX8_bestKnown 4 (some .int) ∈ LW := lwm (tb3 (List.mem_of_getElem? (i := 210) (by decide +kernel))) rfl
set_option maxRecDepth 100000 in
theorem qw3_215 : Cond.methodLink RX10 201 yX3_bestToSpeakTo ∈ LW := lwm (tb3 (List.mem_of_getElem? (i := 215) (by decide +kernel))) rfl
set_option maxRecDepth 100000 in
theorem qw3_216 : Cond.instanceMethod yX3_bestToSpeakTo ∈ LW := lwm (tb3 (List.mem_of_getElem? (i := 216) (by decide +kernel))) rfl
set_option maxRecDepth 100000 in
theorem qw3_217 : Cond.selects RX3 yX3_bestToSpeakTo yX3_bestToSpeakTo ∈ LW := lwm (tb3 (List.mem_of_getElem? (i := 217) (by decide +kernel))) rfl
set_option maxRecDepth 100000 in
theorem qw3_218 : Cond.code yX3_bestToSpeakTo cX3_bestToSpeakTo 6 (some .int) ∈ LW := lwm (tb3 (List.mem_of_getElem? (i := 218) (by decide +kernel))) rfl
set_option maxRecDepth 100000 in
theorem qw3_219 : Cond.methodLink RX3 72 yX3_untilForgotten ∈ LW := lwm (tb3 (List.mem_of_getElem? (i := 219) (by decide +kernel))) rfl
set_option maxRecDepth 100000 in
theorem qw3_21p : Cond.methodLink RX8 55 ⟨"SoManyForgotten$Person", "isNamed", "(I)Z"⟩ ∈ LW := lwm (tb3 (List.mem_of_getElem? (i := 21) (by decide +kernel))) rfl
set_option maxRecDepth 100000 in
theorem qw3_22 : Cond.instanceMethod yX4_isNamed ∈ LW := lwm (tb3 (List.mem_of_getElem? (i := 22) (by decide +kernel))) rfl
set_option maxRecDepth 100000 in
theorem qw3_220 : Cond.methodLink RX3 75 yX8_areTwoHere ∈ LW := lwm (tb3 (List.mem_of_getElem? (i := 220) (by decide +kernel))) rfl
set_option maxRecDepth 100000 in
theorem qw3_221 : Cond.methodLink RX3 79 yX8_talk ∈ LW := lwm (tb3 (List.mem_of_getElem? (i := 221) (by decide +kernel))) rfl
set_option maxRecDepth 100000 in
theorem qw3_226 : Cond.methodLink RX10 204 yX3_fewestTimes ∈ LW := lwm (tb3 (List.mem_of_getElem? (i := 226) (by decide +kernel))) rfl
set_option maxRecDepth 100000 in
theorem qw3_227 : Cond.instanceMethod yX3_fewestTimes ∈ LW := lwm (tb3 (List.mem_of_getElem? (i := 227) (by decide +kernel))) rfl
set_option maxRecDepth 100000 in
theorem qw3_228 : Cond.selects RX3 yX3_fewestTimes yX3_fewestTimes ∈ LW := lwm (tb3 (List.mem_of_getElem? (i := 228) (by decide +kernel))) rfl
set_option maxRecDepth 100000 in
theorem qw3_229 : Cond.code yX3_fewestTimes cX3_fewestTimes 5 (some .int) ∈ LW := lwm (tb3 (List.mem_of_getElem? (i := 229) (by decide +kernel))) rfl
set_option maxRecDepth 100000 in
theorem qw3_22p : Cond.instanceMethod ⟨"SoManyForgotten$Person", "isNamed", "(I)Z"⟩ ∈ LW := lwm (tb3 (List.mem_of_getElem? (i := 22) (by decide +kernel))) rfl
set_option maxRecDepth 100000 in
theorem qw3_23 : Cond.selects RX4 yX4_isNamed yX4_isNamed ∈ LW := lwm (tb3 (List.mem_of_getElem? (i := 23) (by decide +kernel))) rfl
set_option maxRecDepth 100000 in
theorem qw3_230 : Cond.methodLink RX3 83 yX3_areListeners ∈ LW := lwm (tb3 (List.mem_of_getElem? (i := 230) (by decide +kernel))) rfl
set_option maxRecDepth 100000 in
theorem qw3_232 : Cond.instanceMethod yX3_areListeners ∈ LW := lwm (tb3 (List.mem_of_getElem? (i := 232) (by decide +kernel))) rfl
set_option maxRecDepth 100000 in
theorem qw3_233 : Cond.code yX3_areListeners cX3_areListeners 7 (some .boolean) ∈ LW := lwm (tb3 (List.mem_of_getElem? (i := 233) (by decide +kernel))) rfl
set_option maxRecDepth 100000 in
theorem qw3_234 : Cond.methodLink RX3 91 yX3_listenerAt ∈ LW := lwm (tb3 (List.mem_of_getElem? (i := 234) (by decide +kernel))) rfl
set_option maxRecDepth 100000 in
theorem qw3_235 : Cond.static yX3_listenerAt ∈ LW := lwm (tb3 (List.mem_of_getElem? (i := 235) (by decide +kernel))) rfl
set_option maxRecDepth 100000 in
theorem qw3_236 : Cond.code yX3_listenerAt cX3_listenerAt 2 (some .int) ∈ LW := lwm (tb3 (List.mem_of_getElem? (i := 236) (by decide +kernel))) rfl
set_option maxRecDepth 100000 in
theorem qw3_237 : Cond.methodLink RX3 87 yX3_isKeptBy ∈ LW := lwm (tb3 (List.mem_of_getElem? (i := 237) (by decide +kernel))) rfl
set_option maxRecDepth 100000 in
theorem qw3_239 : Cond.instanceMethod yX3_isKeptBy ∈ LW := lwm (tb3 (List.mem_of_getElem? (i := 239) (by decide +kernel))) rfl
set_option maxRecDepth 100000 in
theorem qw3_24p : Cond.sameMethod "SoManyForgotten$Person" "SoManyForgotten$Person" "isNamed" "(I)Z" ∈ LW := lwm (tb3 (List.mem_of_getElem? (i := 24) (by decide +kernel))) rfl
set_option maxRecDepth 100000 in
theorem qw3_25p : Cond.selects RX0 ⟨"SoManyForgotten$Person", "isNamed", "(I)Z"⟩ yX4_isNamed ∈ LW := lwm (tb3 (List.mem_of_getElem? (i := 25) (by decide +kernel))) rfl
set_option maxRecDepth 100000 in
theorem qw3_26p : Cond.selects RX1 ⟨"SoManyForgotten$Person", "isNamed", "(I)Z"⟩ yX1_isNamed ∈ LW := lwm (tb3 (List.mem_of_getElem? (i := 26) (by decide +kernel))) rfl
set_option maxRecDepth 100000 in
theorem qw3_27 : Cond.instanceMethod yX1_isNamed ∈ LW := lwm (tb3 (List.mem_of_getElem? (i := 27) (by decide +kernel))) rfl
set_option maxRecDepth 100000 in
theorem qw3_28 : Cond.code yX1_isNamed cX1_isNamed 2 (some .boolean) ∈ LW := lwm (tb3 (List.mem_of_getElem? (i := 28) (by decide +kernel))) rfl
set_option maxRecDepth 100000 in
theorem qw3_29p : Cond.selects RX2 ⟨"SoManyForgotten$Person", "isNamed", "(I)Z"⟩ yX4_isNamed ∈ LW := lwm (tb3 (List.mem_of_getElem? (i := 29) (by decide +kernel))) rfl
set_option maxRecDepth 100000 in
theorem qw3_3 : Cond.methodLink RX5 7 yX0_change ∈ LW := lwm (tb3 (List.mem_of_getElem? (i := 3) (by decide +kernel))) rfl
set_option maxRecDepth 100000 in
theorem qw3_30p : Cond.selects RX5 ⟨"SoManyForgotten$Person", "isNamed", "(I)Z"⟩ yX4_isNamed ∈ LW := lwm (tb3 (List.mem_of_getElem? (i := 30) (by decide +kernel))) rfl
set_option maxRecDepth 100000 in
theorem qw3_31p : Cond.selects RX9 ⟨"SoManyForgotten$Person", "isNamed", "(I)Z"⟩ yX9_isNamed ∈ LW := lwm (tb3 (List.mem_of_getElem? (i := 31) (by decide +kernel))) rfl
set_option maxRecDepth 100000 in
theorem qw3_32 : Cond.instanceMethod yX9_isNamed ∈ LW := lwm (tb3 (List.mem_of_getElem? (i := 32) (by decide +kernel))) rfl
set_option maxRecDepth 100000 in
theorem qw3_33 : Cond.code yX9_isNamed cX9_isNamed 2 (some .boolean) ∈ LW := lwm (tb3 (List.mem_of_getElem? (i := 33) (by decide +kernel))) rfl
set_option maxRecDepth 100000 in
theorem qw3_34 : Cond.code yX4_isNamed cX4_isNamed 2 (some .boolean) ∈ LW := lwm (tb3 (List.mem_of_getElem? (i := 34) (by decide +kernel))) rfl
set_option maxRecDepth 100000 in
theorem qw3_35 : Cond.methodLink RX8 105 yX8_knownOf ∈ LW := lwm (tb3 (List.mem_of_getElem? (i := 35) (by decide +kernel))) rfl
set_option maxRecDepth 100000 in
theorem qw3_36 : Cond.instanceMethod yX8_knownOf ∈ LW := lwm (tb3 (List.mem_of_getElem? (i := 36) (by decide +kernel))) rfl
set_option maxRecDepth 100000 in
theorem qw3_37 : Cond.selects RX8 yX8_knownOf yX8_knownOf ∈ LW := lwm (tb3 (List.mem_of_getElem? (i := 37) (by decide +kernel))) rfl
set_option maxRecDepth 100000 in
theorem qw3_38 : Cond.code yX8_knownOf cX8_knownOf 4 (some .int) ∈ LW := lwm (tb3 (List.mem_of_getElem? (i := 38) (by decide +kernel))) rfl
set_option maxRecDepth 100000 in
theorem qw3_39 : Cond.methodLink RX8 101 yX8_forget ∈ LW := lwm (tb3 (List.mem_of_getElem? (i := 39) (by decide +kernel))) rfl
set_option maxRecDepth 100000 in
theorem qw3_41 : Cond.instanceMethod yX8_forget ∈ LW := lwm (tb3 (List.mem_of_getElem? (i := 41) (by decide +kernel))) rfl
set_option maxRecDepth 100000 in
theorem qw3_42 : Cond.code yX8_forget cX8_forget 2 none ∈ LW := lwm (tb3 (List.mem_of_getElem? (i := 42) (by decide +kernel))) rfl
set_option maxRecDepth 100000 in
theorem qw3_4p : Cond.selects RX9 ⟨"SoManyForgotten$Person", "change", "(III)I"⟩ yX9_change ∈ LW := lwm (tb3 (List.mem_of_getElem? (i := 4) (by decide +kernel))) rfl
set_option maxRecDepth 100000 in
theorem qw3_5 : Cond.instanceMethod yX9_change ∈ LW := lwm (tb3 (List.mem_of_getElem? (i := 5) (by decide +kernel))) rfl
set_option maxRecDepth 100000 in
theorem qw3_52 : Cond.methodLink RX10 100 yX10_nobody ∈ LW := lwm (tb3 (List.mem_of_getElem? (i := 52) (by decide +kernel))) rfl
set_option maxRecDepth 100000 in
theorem qw3_54 : Cond.instanceMethod yX10_nobody ∈ LW := lwm (tb3 (List.mem_of_getElem? (i := 54) (by decide +kernel))) rfl
set_option maxRecDepth 100000 in
theorem qw3_55 : Cond.code yX10_nobody cX10_nobody 2 (some .int) ∈ LW := lwm (tb3 (List.mem_of_getElem? (i := 55) (by decide +kernel))) rfl
set_option maxRecDepth 100000 in
theorem qw3_56 : Cond.methodLink RX10 304 yX8_has ∈ LW := lwm (tb3 (List.mem_of_getElem? (i := 56) (by decide +kernel))) rfl
set_option maxRecDepth 100000 in
theorem qw3_57 : Cond.methodLink RX10 103 yX10_wrongWhat ∈ LW := lwm (tb3 (List.mem_of_getElem? (i := 57) (by decide +kernel))) rfl
set_option maxRecDepth 100000 in
theorem qw3_58 : Cond.static yX10_wrongWhat ∈ LW := lwm (tb3 (List.mem_of_getElem? (i := 58) (by decide +kernel))) rfl
set_option maxRecDepth 100000 in
theorem qw3_59 : Cond.code yX10_wrongWhat cX10_wrongWhat 2 (some .int) ∈ LW := lwm (tb3 (List.mem_of_getElem? (i := 59) (by decide +kernel))) rfl
set_option maxRecDepth 100000 in
theorem qw3_6 : Cond.code yX9_change cX9_change 4 (some .int) ∈ LW := lwm (tb3 (List.mem_of_getElem? (i := 6) (by decide +kernel))) rfl
set_option maxRecDepth 100000 in
theorem qw3_60 : Cond.methodLink RX10 119 yX8_knownOf ∈ LW := lwm (tb3 (List.mem_of_getElem? (i := 60) (by decide +kernel))) rfl
set_option maxRecDepth 100000 in
theorem qw3_61 : Cond.methodLink RX10 122 yX8_mayBeNamed ∈ LW := lwm (tb3 (List.mem_of_getElem? (i := 61) (by decide +kernel))) rfl
set_option maxRecDepth 100000 in
theorem qw3_62 : Cond.instanceMethod yX8_mayBeNamed ∈ LW := lwm (tb3 (List.mem_of_getElem? (i := 62) (by decide +kernel))) rfl
set_option maxRecDepth 100000 in
theorem qw3_63 : Cond.selects RX8 yX8_mayBeNamed yX8_mayBeNamed ∈ LW := lwm (tb3 (List.mem_of_getElem? (i := 63) (by decide +kernel))) rfl
set_option maxRecDepth 100000 in
theorem qw3_64 : Cond.code yX8_mayBeNamed cX8_mayBeNamed 2 (some .boolean) ∈ LW := lwm (tb3 (List.mem_of_getElem? (i := 64) (by decide +kernel))) rfl
set_option maxRecDepth 100000 in
theorem qw3_69 : Cond.methodLink RX10 126 yX10_notTwo ∈ LW := lwm (tb3 (List.mem_of_getElem? (i := 69) (by decide +kernel))) rfl
set_option maxRecDepth 100000 in
theorem qw3_7 : Cond.methodLink RX9 7 yX2_change ∈ LW := lwm (tb3 (List.mem_of_getElem? (i := 7) (by decide +kernel))) rfl
set_option maxRecDepth 100000 in
theorem qw3_71 : Cond.instanceMethod yX10_notTwo ∈ LW := lwm (tb3 (List.mem_of_getElem? (i := 71) (by decide +kernel))) rfl
set_option maxRecDepth 100000 in
theorem qw3_72 : Cond.code yX10_notTwo cX10_notTwo 3 (some .int) ∈ LW := lwm (tb3 (List.mem_of_getElem? (i := 72) (by decide +kernel))) rfl
set_option maxRecDepth 100000 in
theorem qw3_73 : Cond.methodLink RX10 307 yX8_areTwo ∈ LW := lwm (tb3 (List.mem_of_getElem? (i := 73) (by decide +kernel))) rfl
set_option maxRecDepth 100000 in
theorem qw3_74 : Cond.methodLink RX10 129 yX10_refused ∈ LW := lwm (tb3 (List.mem_of_getElem? (i := 74) (by decide +kernel))) rfl
set_option maxRecDepth 100000 in
theorem qw3_76 : Cond.instanceMethod yX10_refused ∈ LW := lwm (tb3 (List.mem_of_getElem? (i := 76) (by decide +kernel))) rfl
set_option maxRecDepth 100000 in
theorem qw3_77 : Cond.code yX10_refused cX10_refused 2 (some .int) ∈ LW := lwm (tb3 (List.mem_of_getElem? (i := 77) (by decide +kernel))) rfl
set_option maxRecDepth 100000 in
theorem qw3_78 : Cond.methodLink RX10 131 yX8_memoryOf ∈ LW := lwm (tb3 (List.mem_of_getElem? (i := 78) (by decide +kernel))) rfl
set_option maxRecDepth 100000 in
theorem qw3_79 : Cond.instanceMethod yX8_memoryOf ∈ LW := lwm (tb3 (List.mem_of_getElem? (i := 79) (by decide +kernel))) rfl
set_option maxRecDepth 100000 in
theorem qw3_8 : Cond.code yX4_change cX4_change 4 (some .int) ∈ LW := lwm (tb3 (List.mem_of_getElem? (i := 8) (by decide +kernel))) rfl
set_option maxRecDepth 100000 in
theorem qw3_80 : Cond.selects RX8 yX8_memoryOf yX8_memoryOf ∈ LW := lwm (tb3 (List.mem_of_getElem? (i := 80) (by decide +kernel))) rfl
set_option maxRecDepth 100000 in
theorem qw3_81 : Cond.code yX8_memoryOf cX8_memoryOf 3 (some .int) ∈ LW := lwm (tb3 (List.mem_of_getElem? (i := 81) (by decide +kernel))) rfl
set_option maxRecDepth 100000 in
theorem qw3_86 : Cond.methodLink RX10 134 yX8_setMemory ∈ LW := lwm (tb3 (List.mem_of_getElem? (i := 86) (by decide +kernel))) rfl
set_option maxRecDepth 100000 in
theorem qw3_9 : Cond.methodLink RX8 84 yX8_rememberMore ∈ LW := lwm (tb3 (List.mem_of_getElem? (i := 9) (by decide +kernel))) rfl
set_option maxRecDepth 100000 in
theorem qw3_91 : Cond.methodLink RX10 138 yX10_forgotten ∈ LW := lwm (tb3 (List.mem_of_getElem? (i := 91) (by decide +kernel))) rfl
set_option maxRecDepth 100000 in
theorem qw3_93 : Cond.instanceMethod yX10_forgotten ∈ LW := lwm (tb3 (List.mem_of_getElem? (i := 93) (by decide +kernel))) rfl
set_option maxRecDepth 100000 in
theorem qw3_94 : Cond.code yX10_forgotten cX10_forgotten 2 (some .int) ∈ LW := lwm (tb3 (List.mem_of_getElem? (i := 94) (by decide +kernel))) rfl
set_option maxRecDepth 100000 in
theorem qw3_95 : Cond.methodLink RX10 141 yX10_refused__ ∈ LW := lwm (tb3 (List.mem_of_getElem? (i := 95) (by decide +kernel))) rfl
set_option maxRecDepth 100000 in
theorem qw3_97 : Cond.instanceMethod yX10_refused__ ∈ LW := lwm (tb3 (List.mem_of_getElem? (i := 97) (by decide +kernel))) rfl
set_option maxRecDepth 100000 in
theorem qw3_98 : Cond.code yX10_refused__ cX10_refused__ 4 (some .int) ∈ LW := lwm (tb3 (List.mem_of_getElem? (i := 98) (by decide +kernel))) rfl
set_option maxRecDepth 100000 in
theorem qw3_99 : Cond.methodLink RX10 143 yX8_talk ∈ LW := lwm (tb3 (List.mem_of_getElem? (i := 99) (by decide +kernel))) rfl
set_option maxRecDepth 100000 in
theorem qw4_0 : Cond.code yX3_isKeptBy cX3_isKeptBy 6 (some .boolean) ∈ LW := lwm (tb4 (List.mem_of_getElem? (i := 0) (by decide +kernel))) rfl
set_option maxRecDepth 100000 in
theorem qw4_1 : Cond.methodLink RX3 95 yX8_keeps ∈ LW := lwm (tb4 (List.mem_of_getElem? (i := 1) (by decide +kernel))) rfl
set_option maxRecDepth 100000 in
theorem qw4_10 : Cond.instanceMethod yX3_bestAsDog ∈ LW := lwm (tb4 (List.mem_of_getElem? (i := 10) (by decide +kernel))) rfl
set_option maxRecDepth 100000 in
theorem qw4_104 : Cond.methodLink RX10 242 yX8_memoryOverTheHill ∈ LW := lwm (tb4 (List.mem_of_getElem? (i := 104) (by decide +kernel))) rfl
set_option maxRecDepth 100000 in
theorem qw4_105 : Cond.instanceMethod yX8_memoryOverTheHill ∈ LW := lwm (tb4 (List.mem_of_getElem? (i := 105) (by decide +kernel))) rfl
set_option maxRecDepth 100000 in
theorem qw4_106 : Cond.selects RX8 yX8_memoryOverTheHill yX8_memoryOverTheHill ∈ LW := lwm (tb4 (List.mem_of_getElem? (i := 106) (by decide +kernel))) rfl
set_option maxRecDepth 100000 in
theorem qw4_107 : Cond.code yX8_memoryOverTheHill cX8_memoryOverTheHill 4 (some .int) ∈ LW := lwm (tb4 (List.mem_of_getElem? (i := 107) (by decide +kernel))) rfl
set_option maxRecDepth 100000 in
theorem qw4_11 : Cond.selects RX3 yX3_bestAsDog yX3_bestAsDog ∈ LW := lwm (tb4 (List.mem_of_getElem? (i := 11) (by decide +kernel))) rfl
set_option maxRecDepth 100000 in
theorem qw4_112 : Cond.methodLink RX10 245 yX10_refused___ ∈ LW := lwm (tb4 (List.mem_of_getElem? (i := 112) (by decide +kernel))) rfl
set_option maxRecDepth 100000 in
theorem qw4_114 : Cond.instanceMethod yX10_refused___ ∈ LW := lwm (tb4 (List.mem_of_getElem? (i := 114) (by decide +kernel))) rfl
set_option maxRecDepth 100000 in
theorem qw4_115 : Cond.code yX10_refused___ cX10_refused___ 5 (some .int) ∈ LW := lwm (tb4 (List.mem_of_getElem? (i := 115) (by decide +kernel))) rfl
set_option maxRecDepth 100000 in
theorem qw4_116 : Cond.methodLink RX10 248 yX3_settled ∈ LW := lwm (tb4 (List.mem_of_getElem? (i := 116) (by decide +kernel))) rfl
set_option maxRecDepth 100000 in
theorem qw4_117 : Cond.instanceMethod yX3_settled ∈ LW := lwm (tb4 (List.mem_of_getElem? (i := 117) (by decide +kernel))) rfl
set_option maxRecDepth 100000 in
theorem qw4_118 : Cond.selects RX3 yX3_settled yX3_settled ∈ LW := lwm (tb4 (List.mem_of_getElem? (i := 118) (by decide +kernel))) rfl
set_option maxRecDepth 100000 in
theorem qw4_119 : Cond.code yX3_settled cX3_settled 5 (some .int) ∈ LW := lwm (tb4 (List.mem_of_getElem? (i := 119) (by decide +kernel))) rfl
set_option maxRecDepth 100000 in
theorem qw4_12 : Cond.code yX3_bestAsDog cX3_bestAsDog 5 (some .int) ∈ LW := lwm (tb4 (List.mem_of_getElem? (i := 12) (by decide +kernel))) rfl
set_option maxRecDepth 100000 in
theorem qw4_120 : Cond.methodLink RX3 140 yX3_weighPair ∈ LW := lwm (tb4 (List.mem_of_getElem? (i := 120) (by decide +kernel))) rfl
set_option maxRecDepth 100000 in
theorem qw4_122 : Cond.instanceMethod yX3_weighPair ∈ LW := lwm (tb4 (List.mem_of_getElem? (i := 122) (by decide +kernel))) rfl
set_option maxRecDepth 100000 in
theorem qw4_123 : Cond.code yX3_weighPair cX3_weighPair 7 none ∈ LW := lwm (tb4 (List.mem_of_getElem? (i := 123) (by decide +kernel))) rfl
set_option maxRecDepth 100000 in
theorem qw4_124 : Cond.methodLink RX3 144 yX8_talkToAll ∈ LW := lwm (tb4 (List.mem_of_getElem? (i := 124) (by decide +kernel))) rfl
set_option maxRecDepth 100000 in
theorem qw4_125 : Cond.instanceMethod yX8_talkToAll ∈ LW := lwm (tb4 (List.mem_of_getElem? (i := 125) (by decide +kernel))) rfl
set_option maxRecDepth 100000 in
theorem qw4_126 : Cond.selects RX8 yX8_talkToAll yX8_talkToAll ∈ LW := lwm (tb4 (List.mem_of_getElem? (i := 126) (by decide +kernel))) rfl
set_option maxRecDepth 100000 in
theorem qw4_127 : Cond.code yX8_talkToAll cX8_talkToAll 3 none ∈ LW := lwm (tb4 (List.mem_of_getElem? (i := 127) (by decide +kernel))) rfl
set_option maxRecDepth 100000 in
theorem qw4_128 : Cond.methodLink RX8 77 yX8_talk ∈ LW := lwm (tb4 (List.mem_of_getElem? (i := 128) (by decide +kernel))) rfl
set_option maxRecDepth 100000 in
theorem qw4_129 : Cond.methodLink RX3 147 yX8_knownOf ∈ LW := lwm (tb4 (List.mem_of_getElem? (i := 129) (by decide +kernel))) rfl
set_option maxRecDepth 100000 in
theorem qw4_13 : Cond.methodLink RX3 98 yX3_after ∈ LW := lwm (tb4 (List.mem_of_getElem? (i := 13) (by decide +kernel))) rfl
set_option maxRecDepth 100000 in
theorem qw4_134 : Cond.constantLong RX10 251 (4000000000000000000) ∈ LW := lwm (tb4 (List.mem_of_getElem? (i := 134) (by decide +kernel))) rfl
set_option maxRecDepth 100000 in
theorem qw4_14 : Cond.methodLink RX3 102 yX8_countHere ∈ LW := lwm (tb4 (List.mem_of_getElem? (i := 14) (by decide +kernel))) rfl
set_option maxRecDepth 100000 in
theorem qw4_143 : Cond.methodLink RX3 157 yX8_holdFeast ∈ LW := lwm (tb4 (List.mem_of_getElem? (i := 143) (by decide +kernel))) rfl
set_option maxRecDepth 100000 in
theorem qw4_144 : Cond.instanceMethod yX8_holdFeast ∈ LW := lwm (tb4 (List.mem_of_getElem? (i := 144) (by decide +kernel))) rfl
set_option maxRecDepth 100000 in
theorem qw4_145 : Cond.selects RX8 yX8_holdFeast yX8_holdFeast ∈ LW := lwm (tb4 (List.mem_of_getElem? (i := 145) (by decide +kernel))) rfl
set_option maxRecDepth 100000 in
theorem qw4_146 : Cond.code yX8_holdFeast cX8_holdFeast 2 none ∈ LW := lwm (tb4 (List.mem_of_getElem? (i := 146) (by decide +kernel))) rfl
set_option maxRecDepth 100000 in
theorem qw4_151 : Cond.methodLink RX10 261 yX10_partOf ∈ LW := lwm (tb4 (List.mem_of_getElem? (i := 151) (by decide +kernel))) rfl
set_option maxRecDepth 100000 in
theorem qw4_152 : Cond.static yX10_partOf ∈ LW := lwm (tb4 (List.mem_of_getElem? (i := 152) (by decide +kernel))) rfl
set_option maxRecDepth 100000 in
theorem qw4_153 : Cond.code yX10_partOf cX10_partOf 7 (some .long) ∈ LW := lwm (tb4 (List.mem_of_getElem? (i := 153) (by decide +kernel))) rfl
set_option maxRecDepth 100000 in
theorem qw4_154 : Cond.methodLink RX10 317 yX10_greatestDivisor ∈ LW := lwm (tb4 (List.mem_of_getElem? (i := 154) (by decide +kernel))) rfl
set_option maxRecDepth 100000 in
theorem qw4_155 : Cond.static yX10_greatestDivisor ∈ LW := lwm (tb4 (List.mem_of_getElem? (i := 155) (by decide +kernel))) rfl
set_option maxRecDepth 100000 in
theorem qw4_156 : Cond.code yX10_greatestDivisor cX10_greatestDivisor 11 (some .long) ∈ LW := lwm (tb4 (List.mem_of_getElem? (i := 156) (by decide +kernel))) rfl
set_option maxRecDepth 100000 in
theorem qw4_161 : Cond.methodLink RX10 265 yX8_knownTogether ∈ LW := lwm (tb4 (List.mem_of_getElem? (i := 161) (by decide +kernel))) rfl
set_option maxRecDepth 100000 in
theorem qw4_162 : Cond.instanceMethod yX8_knownTogether ∈ LW := lwm (tb4 (List.mem_of_getElem? (i := 162) (by decide +kernel))) rfl
set_option maxRecDepth 100000 in
theorem qw4_163 : Cond.selects RX8 yX8_knownTogether yX8_knownTogether ∈ LW := lwm (tb4 (List.mem_of_getElem? (i := 163) (by decide +kernel))) rfl
set_option maxRecDepth 100000 in
theorem qw4_164 : Cond.code yX8_knownTogether cX8_knownTogether 3 (some .int) ∈ LW := lwm (tb4 (List.mem_of_getElem? (i := 164) (by decide +kernel))) rfl
set_option maxRecDepth 100000 in
theorem qw4_165 : Cond.methodLink RX10 268 Lib.Math.max.name ∈ LW := lwm (tb4 (List.mem_of_getElem? (i := 165) (by decide +kernel))) rfl
set_option maxRecDepth 100000 in
theorem qw4_170 : Cond.methodLink RX10 271 yX3_kindsThatFit ∈ LW := lwm (tb4 (List.mem_of_getElem? (i := 170) (by decide +kernel))) rfl
set_option maxRecDepth 100000 in
theorem qw4_171 : Cond.instanceMethod yX3_kindsThatFit ∈ LW := lwm (tb4 (List.mem_of_getElem? (i := 171) (by decide +kernel))) rfl
set_option maxRecDepth 100000 in
theorem qw4_172 : Cond.selects RX3 yX3_kindsThatFit yX3_kindsThatFit ∈ LW := lwm (tb4 (List.mem_of_getElem? (i := 172) (by decide +kernel))) rfl
set_option maxRecDepth 100000 in
theorem qw4_173 : Cond.code yX3_kindsThatFit cX3_kindsThatFit 6 (some .int) ∈ LW := lwm (tb4 (List.mem_of_getElem? (i := 173) (by decide +kernel))) rfl
set_option maxRecDepth 100000 in
theorem qw4_174 : Cond.methodLink RX3 160 yX3_isMemoryAsTold ∈ LW := lwm (tb4 (List.mem_of_getElem? (i := 174) (by decide +kernel))) rfl
set_option maxRecDepth 100000 in
theorem qw4_176 : Cond.instanceMethod yX3_isMemoryAsTold ∈ LW := lwm (tb4 (List.mem_of_getElem? (i := 176) (by decide +kernel))) rfl
set_option maxRecDepth 100000 in
theorem qw4_177 : Cond.code yX3_isMemoryAsTold cX3_isMemoryAsTold 5 (some .boolean) ∈ LW := lwm (tb4 (List.mem_of_getElem? (i := 177) (by decide +kernel))) rfl
set_option maxRecDepth 100000 in
theorem qw4_178 : Cond.methodLink RX3 172 yX8_memoryOf ∈ LW := lwm (tb4 (List.mem_of_getElem? (i := 178) (by decide +kernel))) rfl
set_option maxRecDepth 100000 in
theorem qw4_179 : Cond.methodLink RX10 275 yX3_figuresThatFit ∈ LW := lwm (tb4 (List.mem_of_getElem? (i := 179) (by decide +kernel))) rfl
set_option maxRecDepth 100000 in
theorem qw4_180 : Cond.instanceMethod yX3_figuresThatFit ∈ LW := lwm (tb4 (List.mem_of_getElem? (i := 180) (by decide +kernel))) rfl
set_option maxRecDepth 100000 in
theorem qw4_181 : Cond.selects RX3 yX3_figuresThatFit yX3_figuresThatFit ∈ LW := lwm (tb4 (List.mem_of_getElem? (i := 181) (by decide +kernel))) rfl
set_option maxRecDepth 100000 in
theorem qw4_182 : Cond.code yX3_figuresThatFit cX3_figuresThatFit 6 (some .int) ∈ LW := lwm (tb4 (List.mem_of_getElem? (i := 182) (by decide +kernel))) rfl
set_option maxRecDepth 100000 in
theorem qw4_187 : Cond.methodLink RX10 278 yX6_isFull ∈ LW := lwm (tb4 (List.mem_of_getElem? (i := 187) (by decide +kernel))) rfl
set_option maxRecDepth 100000 in
theorem qw4_188 : Cond.instanceMethod yX6_isFull ∈ LW := lwm (tb4 (List.mem_of_getElem? (i := 188) (by decide +kernel))) rfl
set_option maxRecDepth 100000 in
theorem qw4_189 : Cond.selects RX6 yX6_isFull yX6_isFull ∈ LW := lwm (tb4 (List.mem_of_getElem? (i := 189) (by decide +kernel))) rfl
set_option maxRecDepth 100000 in
theorem qw4_19 : Cond.methodLink RX10 210 yX3_bestToBring ∈ LW := lwm (tb4 (List.mem_of_getElem? (i := 19) (by decide +kernel))) rfl
set_option maxRecDepth 100000 in
theorem qw4_190 : Cond.code yX6_isFull cX6_isFull 1 (some .boolean) ∈ LW := lwm (tb4 (List.mem_of_getElem? (i := 190) (by decide +kernel))) rfl
set_option maxRecDepth 100000 in
theorem qw4_191 : Cond.methodLink RX10 279 yX6_add ∈ LW := lwm (tb4 (List.mem_of_getElem? (i := 191) (by decide +kernel))) rfl
set_option maxRecDepth 100000 in
theorem qw4_192 : Cond.instanceMethod yX6_add ∈ LW := lwm (tb4 (List.mem_of_getElem? (i := 192) (by decide +kernel))) rfl
set_option maxRecDepth 100000 in
theorem qw4_193 : Cond.selects RX6 yX6_add yX6_add ∈ LW := lwm (tb4 (List.mem_of_getElem? (i := 193) (by decide +kernel))) rfl
set_option maxRecDepth 100000 in
theorem qw4_194 : Cond.code yX6_add cX6_add 2 (some .int) ∈ LW := lwm (tb4 (List.mem_of_getElem? (i := 194) (by decide +kernel))) rfl
set_option maxRecDepth 100000 in
theorem qw4_199 : Cond.methodLink RX10 280 yX3_firstNotSo ∈ LW := lwm (tb4 (List.mem_of_getElem? (i := 199) (by decide +kernel))) rfl
set_option maxRecDepth 100000 in
theorem qw4_2 : Cond.instanceMethod yX8_keeps ∈ LW := lwm (tb4 (List.mem_of_getElem? (i := 2) (by decide +kernel))) rfl
set_option maxRecDepth 100000 in
theorem qw4_20 : Cond.instanceMethod yX3_bestToBring ∈ LW := lwm (tb4 (List.mem_of_getElem? (i := 20) (by decide +kernel))) rfl
set_option maxRecDepth 100000 in
theorem qw4_200 : Cond.instanceMethod yX3_firstNotSo ∈ LW := lwm (tb4 (List.mem_of_getElem? (i := 200) (by decide +kernel))) rfl
set_option maxRecDepth 100000 in
theorem qw4_201 : Cond.selects RX3 yX3_firstNotSo yX3_firstNotSo ∈ LW := lwm (tb4 (List.mem_of_getElem? (i := 201) (by decide +kernel))) rfl
set_option maxRecDepth 100000 in
theorem qw4_202 : Cond.code yX3_firstNotSo cX3_firstNotSo 3 (some .int) ∈ LW := lwm (tb4 (List.mem_of_getElem? (i := 202) (by decide +kernel))) rfl
set_option maxRecDepth 100000 in
theorem qw4_203 : Cond.methodLink RX10 284 yX6_empty ∈ LW := lwm (tb4 (List.mem_of_getElem? (i := 203) (by decide +kernel))) rfl
set_option maxRecDepth 100000 in
theorem qw4_204 : Cond.instanceMethod yX6_empty ∈ LW := lwm (tb4 (List.mem_of_getElem? (i := 204) (by decide +kernel))) rfl
set_option maxRecDepth 100000 in
theorem qw4_205 : Cond.selects RX6 yX6_empty yX6_empty ∈ LW := lwm (tb4 (List.mem_of_getElem? (i := 205) (by decide +kernel))) rfl
set_option maxRecDepth 100000 in
theorem qw4_206 : Cond.code yX6_empty cX6_empty 2 (some .int) ∈ LW := lwm (tb4 (List.mem_of_getElem? (i := 206) (by decide +kernel))) rfl
set_option maxRecDepth 100000 in
theorem qw4_21 : Cond.selects RX3 yX3_bestToBring yX3_bestToBring ∈ LW := lwm (tb4 (List.mem_of_getElem? (i := 21) (by decide +kernel))) rfl
set_option maxRecDepth 100000 in
theorem qw4_215 : Cond.methodLink RX10 287 yX3_byLot ∈ LW := lwm (tb4 (List.mem_of_getElem? (i := 215) (by decide +kernel))) rfl
set_option maxRecDepth 100000 in
theorem qw4_216 : Cond.instanceMethod yX3_byLot ∈ LW := lwm (tb4 (List.mem_of_getElem? (i := 216) (by decide +kernel))) rfl
set_option maxRecDepth 100000 in
theorem qw4_217 : Cond.selects RX3 yX3_byLot yX3_byLot ∈ LW := lwm (tb4 (List.mem_of_getElem? (i := 217) (by decide +kernel))) rfl
set_option maxRecDepth 100000 in
theorem qw4_218 : Cond.code yX3_byLot cX3_byLot 6 (some .int) ∈ LW := lwm (tb4 (List.mem_of_getElem? (i := 218) (by decide +kernel))) rfl
set_option maxRecDepth 100000 in
theorem qw4_219 : Cond.methodLink RX3 178 yX3_drawMemories ∈ LW := lwm (tb4 (List.mem_of_getElem? (i := 219) (by decide +kernel))) rfl
set_option maxRecDepth 100000 in
theorem qw4_22 : Cond.code yX3_bestToBring cX3_bestToBring 5 (some .int) ∈ LW := lwm (tb4 (List.mem_of_getElem? (i := 22) (by decide +kernel))) rfl
set_option maxRecDepth 100000 in
theorem qw4_221 : Cond.instanceMethod yX3_drawMemories ∈ LW := lwm (tb4 (List.mem_of_getElem? (i := 221) (by decide +kernel))) rfl
set_option maxRecDepth 100000 in
theorem qw4_222 : Cond.code yX3_drawMemories cX3_drawMemories 3 none ∈ LW := lwm (tb4 (List.mem_of_getElem? (i := 222) (by decide +kernel))) rfl
set_option maxRecDepth 100000 in
theorem qw4_223 : Cond.methodLink RX3 184 yX3_drawBelowHundred ∈ LW := lwm (tb4 (List.mem_of_getElem? (i := 223) (by decide +kernel))) rfl
set_option maxRecDepth 100000 in
theorem qw4_225 : Cond.instanceMethod yX3_drawBelowHundred ∈ LW := lwm (tb4 (List.mem_of_getElem? (i := 225) (by decide +kernel))) rfl
set_option maxRecDepth 100000 in
theorem qw4_226 : Cond.code yX3_drawBelowHundred cX3_drawBelowHundred 1 (some .int) ∈ LW := lwm (tb4 (List.mem_of_getElem? (i := 226) (by decide +kernel))) rfl
set_option maxRecDepth 100000 in
theorem qw4_227 : Cond.constant RX3 191 (1664525) ∈ LW := lwm (tb4 (List.mem_of_getElem? (i := 227) (by decide +kernel))) rfl
set_option maxRecDepth 100000 in
theorem qw4_228 : Cond.constant RX3 192 (1013904223) ∈ LW := lwm (tb4 (List.mem_of_getElem? (i := 228) (by decide +kernel))) rfl
set_option maxRecDepth 100000 in
theorem qw4_229 : Cond.constant RX3 193 (2147483647) ∈ LW := lwm (tb4 (List.mem_of_getElem? (i := 229) (by decide +kernel))) rfl
set_option maxRecDepth 100000 in
theorem qw4_23 : Cond.methodLink RX3 108 yX3_weeksIfBack ∈ LW := lwm (tb4 (List.mem_of_getElem? (i := 23) (by decide +kernel))) rfl
set_option maxRecDepth 100000 in
theorem qw4_230 : Cond.methodLink RX3 187 yX8_setMemory ∈ LW := lwm (tb4 (List.mem_of_getElem? (i := 230) (by decide +kernel))) rfl
set_option maxRecDepth 100000 in
theorem qw4_231 : Cond.methodLink RX3 181 yX8_knownTogether ∈ LW := lwm (tb4 (List.mem_of_getElem? (i := 231) (by decide +kernel))) rfl
set_option maxRecDepth 100000 in
theorem qw4_24 : Cond.instanceMethod yX3_weeksIfBack ∈ LW := lwm (tb4 (List.mem_of_getElem? (i := 24) (by decide +kernel))) rfl
set_option maxRecDepth 100000 in
theorem qw4_25 : Cond.selects RX3 yX3_weeksIfBack yX3_weeksIfBack ∈ LW := lwm (tb4 (List.mem_of_getElem? (i := 25) (by decide +kernel))) rfl
set_option maxRecDepth 100000 in
theorem qw4_26 : Cond.code yX3_weeksIfBack cX3_weeksIfBack 2 (some .int) ∈ LW := lwm (tb4 (List.mem_of_getElem? (i := 26) (by decide +kernel))) rfl
set_option maxRecDepth 100000 in
theorem qw4_27 : Cond.methodLink RX3 111 yX8_comeBack ∈ LW := lwm (tb4 (List.mem_of_getElem? (i := 27) (by decide +kernel))) rfl
set_option maxRecDepth 100000 in
theorem qw4_28 : Cond.methodLink RX3 114 Lib.Math.min.name ∈ LW := lwm (tb4 (List.mem_of_getElem? (i := 28) (by decide +kernel))) rfl
set_option maxRecDepth 100000 in
theorem qw4_29 : Cond.methodLink RX10 213 yX3_weeksIfBack ∈ LW := lwm (tb4 (List.mem_of_getElem? (i := 29) (by decide +kernel))) rfl
set_option maxRecDepth 100000 in
theorem qw4_3 : Cond.selects RX8 yX8_keeps yX8_keeps ∈ LW := lwm (tb4 (List.mem_of_getElem? (i := 3) (by decide +kernel))) rfl
set_option maxRecDepth 100000 in
theorem qw4_34 : Cond.methodLink RX10 216 yX8_leagueOf ∈ LW := lwm (tb4 (List.mem_of_getElem? (i := 34) (by decide +kernel))) rfl
set_option maxRecDepth 100000 in
theorem qw4_35 : Cond.instanceMethod yX8_leagueOf ∈ LW := lwm (tb4 (List.mem_of_getElem? (i := 35) (by decide +kernel))) rfl
set_option maxRecDepth 100000 in
theorem qw4_36 : Cond.selects RX8 yX8_leagueOf yX8_leagueOf ∈ LW := lwm (tb4 (List.mem_of_getElem? (i := 36) (by decide +kernel))) rfl
set_option maxRecDepth 100000 in
theorem qw4_37 : Cond.code yX8_leagueOf cX8_leagueOf 4 (some .int) ∈ LW := lwm (tb4 (List.mem_of_getElem? (i := 37) (by decide +kernel))) rfl
set_option maxRecDepth 100000 in
theorem qw4_38 : Cond.methodLink RX8 73 yX8_areTwoHere ∈ LW := lwm (tb4 (List.mem_of_getElem? (i := 38) (by decide +kernel))) rfl
set_option maxRecDepth 100000 in
theorem qw4_39 : Cond.methodLink RX8 117 yX8_memoryOf ∈ LW := lwm (tb4 (List.mem_of_getElem? (i := 39) (by decide +kernel))) rfl
set_option maxRecDepth 100000 in
theorem qw4_4 : Cond.code yX8_keeps cX8_keeps 4 (some .boolean) ∈ LW := lwm (tb4 (List.mem_of_getElem? (i := 4) (by decide +kernel))) rfl
set_option maxRecDepth 100000 in
theorem qw4_44 : Cond.methodLink RX10 219 yX3_largestLeague ∈ LW := lwm (tb4 (List.mem_of_getElem? (i := 44) (by decide +kernel))) rfl
set_option maxRecDepth 100000 in
theorem qw4_45 : Cond.instanceMethod yX3_largestLeague ∈ LW := lwm (tb4 (List.mem_of_getElem? (i := 45) (by decide +kernel))) rfl
set_option maxRecDepth 100000 in
theorem qw4_46 : Cond.selects RX3 yX3_largestLeague yX3_largestLeague ∈ LW := lwm (tb4 (List.mem_of_getElem? (i := 46) (by decide +kernel))) rfl
set_option maxRecDepth 100000 in
theorem qw4_47 : Cond.code yX3_largestLeague cX3_largestLeague 3 (some .int) ∈ LW := lwm (tb4 (List.mem_of_getElem? (i := 47) (by decide +kernel))) rfl
set_option maxRecDepth 100000 in
theorem qw4_48 : Cond.methodLink RX3 119 yX8_leagueOf ∈ LW := lwm (tb4 (List.mem_of_getElem? (i := 48) (by decide +kernel))) rfl
set_option maxRecDepth 100000 in
theorem qw4_49 : Cond.methodLink RX3 122 yJ6_bitCount_0f7a4 ∈ LW := lwm (tb4 (List.mem_of_getElem? (i := 49) (by decide +kernel))) rfl
set_option maxRecDepth 100000 in
theorem qw4_50 : Cond.methodLink RX3 127 yX3_isLeague ∈ LW := lwm (tb4 (List.mem_of_getElem? (i := 50) (by decide +kernel))) rfl
set_option maxRecDepth 100000 in
theorem qw4_52 : Cond.instanceMethod yX3_isLeague ∈ LW := lwm (tb4 (List.mem_of_getElem? (i := 52) (by decide +kernel))) rfl
set_option maxRecDepth 100000 in
theorem qw4_53 : Cond.code yX3_isLeague cX3_isLeague 5 (some .boolean) ∈ LW := lwm (tb4 (List.mem_of_getElem? (i := 53) (by decide +kernel))) rfl
set_option maxRecDepth 100000 in
theorem qw4_54 : Cond.methodLink RX10 222 yJ6_bitCount_0f7a4 ∈ LW := lwm (tb4 (List.mem_of_getElem? (i := 54) (by decide +kernel))) rfl
set_option maxRecDepth 100000 in
theorem qw4_59 : Cond.methodLink RX10 227 yX8_countCold ∈ LW := lwm (tb4 (List.mem_of_getElem? (i := 59) (by decide +kernel))) rfl
set_option maxRecDepth 100000 in
theorem qw4_60 : Cond.instanceMethod yX8_countCold ∈ LW := lwm (tb4 (List.mem_of_getElem? (i := 60) (by decide +kernel))) rfl
set_option maxRecDepth 100000 in
theorem qw4_61 : Cond.selects RX8 yX8_countCold yX8_countCold ∈ LW := lwm (tb4 (List.mem_of_getElem? (i := 61) (by decide +kernel))) rfl
set_option maxRecDepth 100000 in
theorem qw4_62 : Cond.code yX8_countCold cX8_countCold 4 (some .int) ∈ LW := lwm (tb4 (List.mem_of_getElem? (i := 62) (by decide +kernel))) rfl
set_option maxRecDepth 100000 in
theorem qw4_63 : Cond.methodLink RX8 120 yX8_areCold ∈ LW := lwm (tb4 (List.mem_of_getElem? (i := 63) (by decide +kernel))) rfl
set_option maxRecDepth 100000 in
theorem qw4_65 : Cond.instanceMethod yX8_areCold ∈ LW := lwm (tb4 (List.mem_of_getElem? (i := 65) (by decide +kernel))) rfl
set_option maxRecDepth 100000 in
theorem qw4_66 : Cond.code yX8_areCold cX8_areCold 3 (some .boolean) ∈ LW := lwm (tb4 (List.mem_of_getElem? (i := 66) (by decide +kernel))) rfl
set_option maxRecDepth 100000 in
theorem qw4_67 : Cond.methodLink RX10 230 yX8_firstCold ∈ LW := lwm (tb4 (List.mem_of_getElem? (i := 67) (by decide +kernel))) rfl
set_option maxRecDepth 100000 in
theorem qw4_68 : Cond.instanceMethod yX8_firstCold ∈ LW := lwm (tb4 (List.mem_of_getElem? (i := 68) (by decide +kernel))) rfl
set_option maxRecDepth 100000 in
theorem qw4_69 : Cond.selects RX8 yX8_firstCold yX8_firstCold ∈ LW := lwm (tb4 (List.mem_of_getElem? (i := 69) (by decide +kernel))) rfl
set_option maxRecDepth 100000 in
theorem qw4_70 : Cond.code yX8_firstCold cX8_firstCold 3 (some .int) ∈ LW := lwm (tb4 (List.mem_of_getElem? (i := 70) (by decide +kernel))) rfl
set_option maxRecDepth 100000 in
theorem qw4_75 : Cond.methodLink RX10 233 yX8_leastRemembered ∈ LW := lwm (tb4 (List.mem_of_getElem? (i := 75) (by decide +kernel))) rfl
set_option maxRecDepth 100000 in
theorem qw4_76 : Cond.instanceMethod yX8_leastRemembered ∈ LW := lwm (tb4 (List.mem_of_getElem? (i := 76) (by decide +kernel))) rfl
set_option maxRecDepth 100000 in
theorem qw4_77 : Cond.selects RX8 yX8_leastRemembered yX8_leastRemembered ∈ LW := lwm (tb4 (List.mem_of_getElem? (i := 77) (by decide +kernel))) rfl
set_option maxRecDepth 100000 in
theorem qw4_78 : Cond.code yX8_leastRemembered cX8_leastRemembered 4 (some .int) ∈ LW := lwm (tb4 (List.mem_of_getElem? (i := 78) (by decide +kernel))) rfl
set_option maxRecDepth 100000 in
theorem qw4_83 : Cond.methodLink RX10 236 yX3_powerOf ∈ LW := lwm (tb4 (List.mem_of_getElem? (i := 83) (by decide +kernel))) rfl
set_option maxRecDepth 100000 in
theorem qw4_84 : Cond.instanceMethod yX3_powerOf ∈ LW := lwm (tb4 (List.mem_of_getElem? (i := 84) (by decide +kernel))) rfl
set_option maxRecDepth 100000 in
theorem qw4_85 : Cond.selects RX3 yX3_powerOf yX3_powerOf ∈ LW := lwm (tb4 (List.mem_of_getElem? (i := 85) (by decide +kernel))) rfl
set_option maxRecDepth 100000 in
theorem qw4_86 : Cond.code yX3_powerOf cX3_powerOf 5 (some .int) ∈ LW := lwm (tb4 (List.mem_of_getElem? (i := 86) (by decide +kernel))) rfl
set_option maxRecDepth 100000 in
theorem qw4_87 : Cond.methodLink RX3 131 yX8_forgetOthers ∈ LW := lwm (tb4 (List.mem_of_getElem? (i := 87) (by decide +kernel))) rfl
set_option maxRecDepth 100000 in
theorem qw4_88 : Cond.instanceMethod yX8_forgetOthers ∈ LW := lwm (tb4 (List.mem_of_getElem? (i := 88) (by decide +kernel))) rfl
set_option maxRecDepth 100000 in
theorem qw4_89 : Cond.selects RX8 yX8_forgetOthers yX8_forgetOthers ∈ LW := lwm (tb4 (List.mem_of_getElem? (i := 89) (by decide +kernel))) rfl
set_option maxRecDepth 100000 in
theorem qw4_9 : Cond.methodLink RX10 207 yX3_bestAsDog ∈ LW := lwm (tb4 (List.mem_of_getElem? (i := 9) (by decide +kernel))) rfl
set_option maxRecDepth 100000 in
theorem qw4_90 : Cond.code yX8_forgetOthers cX8_forgetOthers 3 none ∈ LW := lwm (tb4 (List.mem_of_getElem? (i := 90) (by decide +kernel))) rfl
set_option maxRecDepth 100000 in
theorem qw4_91 : Cond.methodLink RX3 134 yX8_leastKnown ∈ LW := lwm (tb4 (List.mem_of_getElem? (i := 91) (by decide +kernel))) rfl
set_option maxRecDepth 100000 in
theorem qw4_96 : Cond.methodLink RX10 239 yX3_debtsVoid ∈ LW := lwm (tb4 (List.mem_of_getElem? (i := 96) (by decide +kernel))) rfl
set_option maxRecDepth 100000 in
theorem qw4_97 : Cond.instanceMethod yX3_debtsVoid ∈ LW := lwm (tb4 (List.mem_of_getElem? (i := 97) (by decide +kernel))) rfl
set_option maxRecDepth 100000 in
theorem qw4_98 : Cond.selects RX3 yX3_debtsVoid yX3_debtsVoid ∈ LW := lwm (tb4 (List.mem_of_getElem? (i := 98) (by decide +kernel))) rfl
set_option maxRecDepth 100000 in
theorem qw4_99 : Cond.code yX3_debtsVoid cX3_debtsVoid 5 (some .int) ∈ LW := lwm (tb4 (List.mem_of_getElem? (i := 99) (by decide +kernel))) rfl
set_option maxRecDepth 100000 in
theorem qw5_100 : Cond.methodLink RX11 48 yX11_of ∈ LW := lwm (tb5 (List.mem_of_getElem? (i := 100) (by decide +kernel))) rfl
set_option maxRecDepth 100000 in
theorem qw5_101 : Cond.static yX11_of ∈ LW := lwm (tb5 (List.mem_of_getElem? (i := 101) (by decide +kernel))) rfl
set_option maxRecDepth 100000 in
theorem qw5_102 : Cond.code yX11_of cX11_of 2 (some .int) ∈ LW := lwm (tb5 (List.mem_of_getElem? (i := 102) (by decide +kernel))) rfl
set_option maxRecDepth 100000 in
theorem qw5_103 : Cond.methodLink RX11 56 yX11_by ∈ LW := lwm (tb5 (List.mem_of_getElem? (i := 103) (by decide +kernel))) rfl
set_option maxRecDepth 100000 in
theorem qw5_104 : Cond.static yX11_by ∈ LW := lwm (tb5 (List.mem_of_getElem? (i := 104) (by decide +kernel))) rfl
set_option maxRecDepth 100000 in
theorem qw5_105 : Cond.code yX11_by cX11_by 2 (some .int) ∈ LW := lwm (tb5 (List.mem_of_getElem? (i := 105) (by decide +kernel))) rfl
set_option maxRecDepth 100000 in
theorem qw5_106 : Cond.methodLink RX11 109 yX11_areTwo ∈ LW := lwm (tb5 (List.mem_of_getElem? (i := 106) (by decide +kernel))) rfl
set_option maxRecDepth 100000 in
theorem qw5_108 : Cond.instanceMethod yX11_areTwo ∈ LW := lwm (tb5 (List.mem_of_getElem? (i := 108) (by decide +kernel))) rfl
set_option maxRecDepth 100000 in
theorem qw5_109 : Cond.code yX11_areTwo cX11_areTwo 3 (some .boolean) ∈ LW := lwm (tb5 (List.mem_of_getElem? (i := 109) (by decide +kernel))) rfl
set_option maxRecDepth 100000 in
theorem qw5_110 : Cond.methodLink RX11 44 yX11_isOne ∈ LW := lwm (tb5 (List.mem_of_getElem? (i := 110) (by decide +kernel))) rfl
set_option maxRecDepth 100000 in
theorem qw5_112 : Cond.instanceMethod yX11_isOne ∈ LW := lwm (tb5 (List.mem_of_getElem? (i := 112) (by decide +kernel))) rfl
set_option maxRecDepth 100000 in
theorem qw5_113 : Cond.code yX11_isOne cX11_isOne 2 (some .boolean) ∈ LW := lwm (tb5 (List.mem_of_getElem? (i := 113) (by decide +kernel))) rfl
set_option maxRecDepth 100000 in
theorem qw5_114 : Cond.methodLink RX11 52 yX11_isHere ∈ LW := lwm (tb5 (List.mem_of_getElem? (i := 114) (by decide +kernel))) rfl
set_option maxRecDepth 100000 in
theorem qw5_115 : Cond.static yX11_isHere ∈ LW := lwm (tb5 (List.mem_of_getElem? (i := 115) (by decide +kernel))) rfl
set_option maxRecDepth 100000 in
theorem qw5_116 : Cond.code yX11_isHere cX11_isHere 2 (some .boolean) ∈ LW := lwm (tb5 (List.mem_of_getElem? (i := 116) (by decide +kernel))) rfl
set_option maxRecDepth 100000 in
theorem qw5_117 : Cond.methodLink RX11 112 yX11_speaksIn ∈ LW := lwm (tb5 (List.mem_of_getElem? (i := 117) (by decide +kernel))) rfl
set_option maxRecDepth 100000 in
theorem qw5_118 : Cond.static yX11_speaksIn ∈ LW := lwm (tb5 (List.mem_of_getElem? (i := 118) (by decide +kernel))) rfl
set_option maxRecDepth 100000 in
theorem qw5_119 : Cond.code yX11_speaksIn cX11_speaksIn 3 none ∈ LW := lwm (tb5 (List.mem_of_getElem? (i := 119) (by decide +kernel))) rfl
set_option maxRecDepth 100000 in
theorem qw5_120 : Cond.methodLink RX11 69 yX11_held ∈ LW := lwm (tb5 (List.mem_of_getElem? (i := 120) (by decide +kernel))) rfl
set_option maxRecDepth 100000 in
theorem qw5_121 : Cond.static yX11_held ∈ LW := lwm (tb5 (List.mem_of_getElem? (i := 121) (by decide +kernel))) rfl
set_option maxRecDepth 100000 in
theorem qw5_122 : Cond.code yX11_held cX11_held 1 (some .int) ∈ LW := lwm (tb5 (List.mem_of_getElem? (i := 122) (by decide +kernel))) rfl
set_option maxRecDepth 100000 in
theorem qw5_123 : Cond.methodLink RX11 116 yX11_comesBack ∈ LW := lwm (tb5 (List.mem_of_getElem? (i := 123) (by decide +kernel))) rfl
set_option maxRecDepth 100000 in
theorem qw5_124 : Cond.static yX11_comesBack ∈ LW := lwm (tb5 (List.mem_of_getElem? (i := 124) (by decide +kernel))) rfl
set_option maxRecDepth 100000 in
theorem qw5_125 : Cond.code yX11_comesBack cX11_comesBack 3 none ∈ LW := lwm (tb5 (List.mem_of_getElem? (i := 125) (by decide +kernel))) rfl
set_option maxRecDepth 100000 in
theorem qw5_126 : Cond.methodLink RX11 119 yX11_weeksOn ∈ LW := lwm (tb5 (List.mem_of_getElem? (i := 126) (by decide +kernel))) rfl
set_option maxRecDepth 100000 in
theorem qw5_127 : Cond.static yX11_weeksOn ∈ LW := lwm (tb5 (List.mem_of_getElem? (i := 127) (by decide +kernel))) rfl
set_option maxRecDepth 100000 in
theorem qw5_128 : Cond.code yX11_weeksOn cX11_weeksOn 3 none ∈ LW := lwm (tb5 (List.mem_of_getElem? (i := 128) (by decide +kernel))) rfl
set_option maxRecDepth 100000 in
theorem qw5_129 : Cond.methodLink RX11 80 yX11_week ∈ LW := lwm (tb5 (List.mem_of_getElem? (i := 129) (by decide +kernel))) rfl
set_option maxRecDepth 100000 in
theorem qw5_130 : Cond.static yX11_week ∈ LW := lwm (tb5 (List.mem_of_getElem? (i := 130) (by decide +kernel))) rfl
set_option maxRecDepth 100000 in
theorem qw5_131 : Cond.code yX11_week cX11_week 4 none ∈ LW := lwm (tb5 (List.mem_of_getElem? (i := 131) (by decide +kernel))) rfl
set_option maxRecDepth 100000 in
theorem qw5_132 : Cond.methodLink RX11 66 yX11_changeBy ∈ LW := lwm (tb5 (List.mem_of_getElem? (i := 132) (by decide +kernel))) rfl
set_option maxRecDepth 100000 in
theorem qw5_133 : Cond.static yX11_changeBy ∈ LW := lwm (tb5 (List.mem_of_getElem? (i := 133) (by decide +kernel))) rfl
set_option maxRecDepth 100000 in
theorem qw5_134 : Cond.code yX11_changeBy cX11_changeBy 6 (some .int) ∈ LW := lwm (tb5 (List.mem_of_getElem? (i := 134) (by decide +kernel))) rfl
set_option maxRecDepth 100000 in
theorem qw5_135 : Cond.methodLink RX11 72 yX11_leastIn ∈ LW := lwm (tb5 (List.mem_of_getElem? (i := 135) (by decide +kernel))) rfl
set_option maxRecDepth 100000 in
theorem qw5_136 : Cond.static yX11_leastIn ∈ LW := lwm (tb5 (List.mem_of_getElem? (i := 136) (by decide +kernel))) rfl
set_option maxRecDepth 100000 in
theorem qw5_137 : Cond.code yX11_leastIn cX11_leastIn 3 (some .int) ∈ LW := lwm (tb5 (List.mem_of_getElem? (i := 137) (by decide +kernel))) rfl
set_option maxRecDepth 100000 in
theorem qw5_138 : Cond.methodLink RX11 59 yX11_mayBeNamed ∈ LW := lwm (tb5 (List.mem_of_getElem? (i := 138) (by decide +kernel))) rfl
set_option maxRecDepth 100000 in
theorem qw5_139 : Cond.static yX11_mayBeNamed ∈ LW := lwm (tb5 (List.mem_of_getElem? (i := 139) (by decide +kernel))) rfl
set_option maxRecDepth 100000 in
theorem qw5_140 : Cond.code yX11_mayBeNamed cX11_mayBeNamed 3 (some .boolean) ∈ LW := lwm (tb5 (List.mem_of_getElem? (i := 140) (by decide +kernel))) rfl
set_option maxRecDepth 100000 in
theorem qw5_141 : Cond.methodLink RX11 62 yX11_knownIn ∈ LW := lwm (tb5 (List.mem_of_getElem? (i := 141) (by decide +kernel))) rfl
set_option maxRecDepth 100000 in
theorem qw5_142 : Cond.static yX11_knownIn ∈ LW := lwm (tb5 (List.mem_of_getElem? (i := 142) (by decide +kernel))) rfl
set_option maxRecDepth 100000 in
theorem qw5_143 : Cond.code yX11_knownIn cX11_knownIn 4 (some .int) ∈ LW := lwm (tb5 (List.mem_of_getElem? (i := 143) (by decide +kernel))) rfl
set_option maxRecDepth 100000 in
theorem qw5_144 : Cond.methodLink RX11 76 yX11_forgets ∈ LW := lwm (tb5 (List.mem_of_getElem? (i := 144) (by decide +kernel))) rfl
set_option maxRecDepth 100000 in
theorem qw5_145 : Cond.static yX11_forgets ∈ LW := lwm (tb5 (List.mem_of_getElem? (i := 145) (by decide +kernel))) rfl
set_option maxRecDepth 100000 in
theorem qw5_146 : Cond.code yX11_forgets cX11_forgets 3 none ∈ LW := lwm (tb5 (List.mem_of_getElem? (i := 146) (by decide +kernel))) rfl
set_option maxRecDepth 100000 in
theorem qw5_15 : Cond.fieldLink RX11 9 "SoManyForgottenModel" "s" "[I" ∈ LW := lwm (tb5 (List.mem_of_getElem? (i := 15) (by decide +kernel))) rfl
set_option maxRecDepth 100000 in
theorem qw5_159 : Cond.methodLink RX11 132 yX11_wrongBy ∈ LW := lwm (tb5 (List.mem_of_getElem? (i := 159) (by decide +kernel))) rfl
set_option maxRecDepth 100000 in
theorem qw5_16 : Cond.fieldLink RX11 13 "SoManyForgottenModel" "m" "[I" ∈ LW := lwm (tb5 (List.mem_of_getElem? (i := 16) (by decide +kernel))) rfl
set_option maxRecDepth 100000 in
theorem qw5_160 : Cond.static yX11_wrongBy ∈ LW := lwm (tb5 (List.mem_of_getElem? (i := 160) (by decide +kernel))) rfl
set_option maxRecDepth 100000 in
theorem qw5_161 : Cond.code yX11_wrongBy cX11_wrongBy 3 (some .int) ∈ LW := lwm (tb5 (List.mem_of_getElem? (i := 161) (by decide +kernel))) rfl
set_option maxRecDepth 100000 in
theorem qw5_17 : Cond.fieldLink RX11 16 "SoManyForgottenModel" "image" "[I" ∈ LW := lwm (tb5 (List.mem_of_getElem? (i := 17) (by decide +kernel))) rfl
set_option maxRecDepth 100000 in
theorem qw5_174 : Cond.methodLink RX11 136 yX11_hereIn ∈ LW := lwm (tb5 (List.mem_of_getElem? (i := 174) (by decide +kernel))) rfl
set_option maxRecDepth 100000 in
theorem qw5_175 : Cond.static yX11_hereIn ∈ LW := lwm (tb5 (List.mem_of_getElem? (i := 175) (by decide +kernel))) rfl
set_option maxRecDepth 100000 in
theorem qw5_176 : Cond.code yX11_hereIn cX11_hereIn 3 (some .int) ∈ LW := lwm (tb5 (List.mem_of_getElem? (i := 176) (by decide +kernel))) rfl
set_option maxRecDepth 100000 in
theorem qw5_177 : Cond.methodLink RX11 139 yX11_bits ∈ LW := lwm (tb5 (List.mem_of_getElem? (i := 177) (by decide +kernel))) rfl
set_option maxRecDepth 100000 in
theorem qw5_178 : Cond.static yX11_bits ∈ LW := lwm (tb5 (List.mem_of_getElem? (i := 178) (by decide +kernel))) rfl
set_option maxRecDepth 100000 in
theorem qw5_179 : Cond.code yX11_bits cX11_bits 3 (some .int) ∈ LW := lwm (tb5 (List.mem_of_getElem? (i := 179) (by decide +kernel))) rfl
set_option maxRecDepth 100000 in
theorem qw5_18 : Cond.fieldLink RX11 19 "SoManyForgottenModel" "was" "[I" ∈ LW := lwm (tb5 (List.mem_of_getElem? (i := 18) (by decide +kernel))) rfl
set_option maxRecDepth 100000 in
theorem qw5_19 : Cond.fieldLink RX11 209 "SoManyForgottenModel" "hasImage" "Z" ∈ LW := lwm (tb5 (List.mem_of_getElem? (i := 19) (by decide +kernel))) rfl
set_option maxRecDepth 100000 in
theorem qw5_196 : Cond.methodLink RX11 142 yX11_takes ∈ LW := lwm (tb5 (List.mem_of_getElem? (i := 196) (by decide +kernel))) rfl
set_option maxRecDepth 100000 in
theorem qw5_198 : Cond.instanceMethod yX11_takes ∈ LW := lwm (tb5 (List.mem_of_getElem? (i := 198) (by decide +kernel))) rfl
set_option maxRecDepth 100000 in
theorem qw5_199 : Cond.code yX11_takes cX11_takes 2 none ∈ LW := lwm (tb5 (List.mem_of_getElem? (i := 199) (by decide +kernel))) rfl
set_option maxRecDepth 100000 in
theorem qw5_20 : Cond.fieldLink RX11 22 "SoManyForgottenModel" "letters" "[I" ∈ LW := lwm (tb5 (List.mem_of_getElem? (i := 20) (by decide +kernel))) rfl
set_option maxRecDepth 100000 in
theorem qw5_21 : Cond.fieldLink RX11 25 "SoManyForgottenModel" "row" "[I" ∈ LW := lwm (tb5 (List.mem_of_getElem? (i := 21) (by decide +kernel))) rfl
set_option maxRecDepth 100000 in
theorem qw5_212 : Cond.methodLink RX11 149 yX11_goesOf ∈ LW := lwm (tb5 (List.mem_of_getElem? (i := 212) (by decide +kernel))) rfl
set_option maxRecDepth 100000 in
theorem qw5_214 : Cond.instanceMethod yX11_goesOf ∈ LW := lwm (tb5 (List.mem_of_getElem? (i := 214) (by decide +kernel))) rfl
set_option maxRecDepth 100000 in
theorem qw5_215 : Cond.code yX11_goesOf cX11_goesOf 2 (some .int) ∈ LW := lwm (tb5 (List.mem_of_getElem? (i := 215) (by decide +kernel))) rfl
set_option maxRecDepth 100000 in
theorem qw5_216 : Cond.methodLink RX11 146 yX11_goesIn ∈ LW := lwm (tb5 (List.mem_of_getElem? (i := 216) (by decide +kernel))) rfl
set_option maxRecDepth 100000 in
theorem qw5_218 : Cond.instanceMethod yX11_goesIn ∈ LW := lwm (tb5 (List.mem_of_getElem? (i := 218) (by decide +kernel))) rfl
set_option maxRecDepth 100000 in
theorem qw5_219 : Cond.code yX11_goesIn cX11_goesIn 3 (some .int) ∈ LW := lwm (tb5 (List.mem_of_getElem? (i := 219) (by decide +kernel))) rfl
set_option maxRecDepth 100000 in
theorem qw5_22 : Cond.fieldLink RX11 28 "SoManyForgottenModel" "refused" "[I" ∈ LW := lwm (tb5 (List.mem_of_getElem? (i := 22) (by decide +kernel))) rfl
set_option maxRecDepth 100000 in
theorem qw5_224 : Cond.methodLink RX11 152 yX11_emptyBehind ∈ LW := lwm (tb5 (List.mem_of_getElem? (i := 224) (by decide +kernel))) rfl
set_option maxRecDepth 100000 in
theorem qw5_226 : Cond.instanceMethod yX11_emptyBehind ∈ LW := lwm (tb5 (List.mem_of_getElem? (i := 226) (by decide +kernel))) rfl
set_option maxRecDepth 100000 in
theorem qw5_227 : Cond.code yX11_emptyBehind cX11_emptyBehind 2 (some .int) ∈ LW := lwm (tb5 (List.mem_of_getElem? (i := 227) (by decide +kernel))) rfl
set_option maxRecDepth 100000 in
theorem qw5_228 : Cond.constant RX11 155 (1000000000) ∈ LW := lwm (tb5 (List.mem_of_getElem? (i := 228) (by decide +kernel))) rfl
set_option maxRecDepth 100000 in
theorem qw5_23 : Cond.fieldLink RX11 84 "SoManyForgottenModel" "letterMany" "I" ∈ LW := lwm (tb5 (List.mem_of_getElem? (i := 23) (by decide +kernel))) rfl
set_option maxRecDepth 100000 in
theorem qw5_237 : Cond.methodLink RX11 156 yX11_wrongOne ∈ LW := lwm (tb5 (List.mem_of_getElem? (i := 237) (by decide +kernel))) rfl
set_option maxRecDepth 100000 in
theorem qw5_239 : Cond.instanceMethod yX11_wrongOne ∈ LW := lwm (tb5 (List.mem_of_getElem? (i := 239) (by decide +kernel))) rfl
set_option maxRecDepth 100000 in
theorem qw5_24 : Cond.fieldLink RX11 197 "SoManyForgottenModel" "rowMany" "I" ∈ LW := lwm (tb5 (List.mem_of_getElem? (i := 24) (by decide +kernel))) rfl
set_option maxRecDepth 100000 in
theorem qw5_25 : Cond.fieldLink RX11 88 "SoManyForgottenModel" "place" "I" ∈ LW := lwm (tb5 (List.mem_of_getElem? (i := 25) (by decide +kernel))) rfl
set_option maxRecDepth 100000 in
theorem qw5_26 : Cond.fieldLink RX11 31 "SoManyForgottenModel" "numbers" "[I" ∈ LW := lwm (tb5 (List.mem_of_getElem? (i := 26) (by decide +kernel))) rfl
set_option maxRecDepth 100000 in
theorem qw5_27 : Cond.fieldLink RX11 200 "SoManyForgottenModel" "seed" "I" ∈ LW := lwm (tb5 (List.mem_of_getElem? (i := 27) (by decide +kernel))) rfl
set_option maxRecDepth 100000 in
theorem qw5_28 : Cond.laysFinal "SoManyForgottenModel" "SoManyForgottenModel" "s" "[I" ∈ LW := lwm (tb5 (List.mem_of_getElem? (i := 28) (by decide +kernel))) rfl
set_option maxRecDepth 100000 in
theorem qw5_30 : Cond.laysFinal "SoManyForgottenModel" "SoManyForgottenModel" "m" "[I" ∈ LW := lwm (tb5 (List.mem_of_getElem? (i := 30) (by decide +kernel))) rfl
set_option maxRecDepth 100000 in
theorem qw5_32 : Cond.laysFinal "SoManyForgottenModel" "SoManyForgottenModel" "image" "[I" ∈ LW := lwm (tb5 (List.mem_of_getElem? (i := 32) (by decide +kernel))) rfl
set_option maxRecDepth 100000 in
theorem qw5_34 : Cond.laysFinal "SoManyForgottenModel" "SoManyForgottenModel" "was" "[I" ∈ LW := lwm (tb5 (List.mem_of_getElem? (i := 34) (by decide +kernel))) rfl
set_option maxRecDepth 100000 in
theorem qw5_36 : Cond.lays "SoManyForgottenModel" "SoManyForgottenModel" "hasImage" "Z" ∈ LW := lwm (tb5 (List.mem_of_getElem? (i := 36) (by decide +kernel))) rfl
set_option maxRecDepth 100000 in
theorem qw5_38 : Cond.laysFinal "SoManyForgottenModel" "SoManyForgottenModel" "letters" "[I" ∈ LW := lwm (tb5 (List.mem_of_getElem? (i := 38) (by decide +kernel))) rfl
set_option maxRecDepth 100000 in
theorem qw5_4 : Cond.methodLink RX10 294 yX8_hereBits ∈ LW := lwm (tb5 (List.mem_of_getElem? (i := 4) (by decide +kernel))) rfl
set_option maxRecDepth 100000 in
theorem qw5_40 : Cond.laysFinal "SoManyForgottenModel" "SoManyForgottenModel" "row" "[I" ∈ LW := lwm (tb5 (List.mem_of_getElem? (i := 40) (by decide +kernel))) rfl
set_option maxRecDepth 100000 in
theorem qw5_42 : Cond.laysFinal "SoManyForgottenModel" "SoManyForgottenModel" "refused" "[I" ∈ LW := lwm (tb5 (List.mem_of_getElem? (i := 42) (by decide +kernel))) rfl
set_option maxRecDepth 100000 in
theorem qw5_44 : Cond.lays "SoManyForgottenModel" "SoManyForgottenModel" "letterMany" "I" ∈ LW := lwm (tb5 (List.mem_of_getElem? (i := 44) (by decide +kernel))) rfl
set_option maxRecDepth 100000 in
theorem qw5_46 : Cond.lays "SoManyForgottenModel" "SoManyForgottenModel" "rowMany" "I" ∈ LW := lwm (tb5 (List.mem_of_getElem? (i := 46) (by decide +kernel))) rfl
set_option maxRecDepth 100000 in
theorem qw5_48 : Cond.lays "SoManyForgottenModel" "SoManyForgottenModel" "place" "I" ∈ LW := lwm (tb5 (List.mem_of_getElem? (i := 48) (by decide +kernel))) rfl
set_option maxRecDepth 100000 in
theorem qw5_5 : Cond.methodLink RX10 297 yX8_owedTogether ∈ LW := lwm (tb5 (List.mem_of_getElem? (i := 5) (by decide +kernel))) rfl
set_option maxRecDepth 100000 in
theorem qw5_50 : Cond.laysFinal "SoManyForgottenModel" "SoManyForgottenModel" "numbers" "[I" ∈ LW := lwm (tb5 (List.mem_of_getElem? (i := 50) (by decide +kernel))) rfl
set_option maxRecDepth 100000 in
theorem qw5_52 : Cond.lays "SoManyForgottenModel" "SoManyForgottenModel" "seed" "I" ∈ LW := lwm (tb5 (List.mem_of_getElem? (i := 52) (by decide +kernel))) rfl
set_option maxRecDepth 100000 in
theorem qw5_59 : Cond.methodLink RX11 36 yX11_no ∈ LW := lwm (tb5 (List.mem_of_getElem? (i := 59) (by decide +kernel))) rfl
set_option maxRecDepth 100000 in
theorem qw5_6 : Cond.instanceMethod yX8_owedTogether ∈ LW := lwm (tb5 (List.mem_of_getElem? (i := 6) (by decide +kernel))) rfl
set_option maxRecDepth 100000 in
theorem qw5_61 : Cond.instanceMethod yX11_no ∈ LW := lwm (tb5 (List.mem_of_getElem? (i := 61) (by decide +kernel))) rfl
set_option maxRecDepth 100000 in
theorem qw5_62 : Cond.code yX11_no cX11_no 2 (some .int) ∈ LW := lwm (tb5 (List.mem_of_getElem? (i := 62) (by decide +kernel))) rfl
set_option maxRecDepth 100000 in
theorem qw5_67 : Cond.methodLink RX11 122 yX11_readsStatement ∈ LW := lwm (tb5 (List.mem_of_getElem? (i := 67) (by decide +kernel))) rfl
set_option maxRecDepth 100000 in
theorem qw5_69 : Cond.instanceMethod yX11_readsStatement ∈ LW := lwm (tb5 (List.mem_of_getElem? (i := 69) (by decide +kernel))) rfl
set_option maxRecDepth 100000 in
theorem qw5_7 : Cond.selects RX8 yX8_owedTogether yX8_owedTogether ∈ LW := lwm (tb5 (List.mem_of_getElem? (i := 7) (by decide +kernel))) rfl
set_option maxRecDepth 100000 in
theorem qw5_70 : Cond.code yX11_readsStatement cX11_readsStatement 3 (some .boolean) ∈ LW := lwm (tb5 (List.mem_of_getElem? (i := 70) (by decide +kernel))) rfl
set_option maxRecDepth 100000 in
theorem qw5_71 : Cond.methodLink RX11 91 yX11_here ∈ LW := lwm (tb5 (List.mem_of_getElem? (i := 71) (by decide +kernel))) rfl
set_option maxRecDepth 100000 in
theorem qw5_73 : Cond.instanceMethod yX11_here ∈ LW := lwm (tb5 (List.mem_of_getElem? (i := 73) (by decide +kernel))) rfl
set_option maxRecDepth 100000 in
theorem qw5_74 : Cond.code yX11_here cX11_here 1 (some .int) ∈ LW := lwm (tb5 (List.mem_of_getElem? (i := 74) (by decide +kernel))) rfl
set_option maxRecDepth 100000 in
theorem qw5_75 : Cond.methodLink RX11 98 yX11_readsKind ∈ LW := lwm (tb5 (List.mem_of_getElem? (i := 75) (by decide +kernel))) rfl
set_option maxRecDepth 100000 in
theorem qw5_77 : Cond.instanceMethod yX11_readsKind ∈ LW := lwm (tb5 (List.mem_of_getElem? (i := 77) (by decide +kernel))) rfl
set_option maxRecDepth 100000 in
theorem qw5_78 : Cond.code yX11_readsKind cX11_readsKind 1 (some .boolean) ∈ LW := lwm (tb5 (List.mem_of_getElem? (i := 78) (by decide +kernel))) rfl
set_option maxRecDepth 100000 in
theorem qw5_79 : Cond.methodLink RX11 95 yX11_kindBy ∈ LW := lwm (tb5 (List.mem_of_getElem? (i := 79) (by decide +kernel))) rfl
set_option maxRecDepth 100000 in
theorem qw5_8 : Cond.code yX8_owedTogether cX8_owedTogether 3 (some .int) ∈ LW := lwm (tb5 (List.mem_of_getElem? (i := 8) (by decide +kernel))) rfl
set_option maxRecDepth 100000 in
theorem qw5_80 : Cond.static yX11_kindBy ∈ LW := lwm (tb5 (List.mem_of_getElem? (i := 80) (by decide +kernel))) rfl
set_option maxRecDepth 100000 in
theorem qw5_81 : Cond.code yX11_kindBy cX11_kindBy 1 (some .int) ∈ LW := lwm (tb5 (List.mem_of_getElem? (i := 81) (by decide +kernel))) rfl
set_option maxRecDepth 100000 in
theorem qw5_82 : Cond.methodLink RX11 102 yX11_readsNumber ∈ LW := lwm (tb5 (List.mem_of_getElem? (i := 82) (by decide +kernel))) rfl
set_option maxRecDepth 100000 in
theorem qw5_84 : Cond.instanceMethod yX11_readsNumber ∈ LW := lwm (tb5 (List.mem_of_getElem? (i := 84) (by decide +kernel))) rfl
set_option maxRecDepth 100000 in
theorem qw5_85 : Cond.code yX11_readsNumber cX11_readsNumber 4 (some .boolean) ∈ LW := lwm (tb5 (List.mem_of_getElem? (i := 85) (by decide +kernel))) rfl
set_option maxRecDepth 100000 in
theorem qw5_86 : Cond.methodLink RX11 40 yX11_isIn ∈ LW := lwm (tb5 (List.mem_of_getElem? (i := 86) (by decide +kernel))) rfl
set_option maxRecDepth 100000 in
theorem qw5_87 : Cond.static yX11_isIn ∈ LW := lwm (tb5 (List.mem_of_getElem? (i := 87) (by decide +kernel))) rfl
set_option maxRecDepth 100000 in
theorem qw5_88 : Cond.code yX11_isIn cX11_isIn 3 (some .boolean) ∈ LW := lwm (tb5 (List.mem_of_getElem? (i := 88) (by decide +kernel))) rfl
set_option maxRecDepth 100000 in
theorem qw5_89 : Cond.methodLink RX11 125 yX11_copies ∈ LW := lwm (tb5 (List.mem_of_getElem? (i := 89) (by decide +kernel))) rfl
set_option maxRecDepth 100000 in
theorem qw5_90 : Cond.static yX11_copies ∈ LW := lwm (tb5 (List.mem_of_getElem? (i := 90) (by decide +kernel))) rfl
set_option maxRecDepth 100000 in
theorem qw5_91 : Cond.code yX11_copies cX11_copies 3 none ∈ LW := lwm (tb5 (List.mem_of_getElem? (i := 91) (by decide +kernel))) rfl
set_option maxRecDepth 100000 in
theorem qw5_92 : Cond.methodLink RX11 129 yX11_isDone ∈ LW := lwm (tb5 (List.mem_of_getElem? (i := 92) (by decide +kernel))) rfl
set_option maxRecDepth 100000 in
theorem qw5_94 : Cond.instanceMethod yX11_isDone ∈ LW := lwm (tb5 (List.mem_of_getElem? (i := 94) (by decide +kernel))) rfl
set_option maxRecDepth 100000 in
theorem qw5_95 : Cond.code yX11_isDone cX11_isDone 4 (some .boolean) ∈ LW := lwm (tb5 (List.mem_of_getElem? (i := 95) (by decide +kernel))) rfl
set_option maxRecDepth 100000 in
theorem qw5_96 : Cond.methodLink RX11 106 yX11_adds ∈ LW := lwm (tb5 (List.mem_of_getElem? (i := 96) (by decide +kernel))) rfl
set_option maxRecDepth 100000 in
theorem qw5_98 : Cond.instanceMethod yX11_adds ∈ LW := lwm (tb5 (List.mem_of_getElem? (i := 98) (by decide +kernel))) rfl
set_option maxRecDepth 100000 in
theorem qw5_99 : Cond.code yX11_adds cX11_adds 5 (some .boolean) ∈ LW := lwm (tb5 (List.mem_of_getElem? (i := 99) (by decide +kernel))) rfl
set_option maxRecDepth 100000 in
theorem qw6_0 : Cond.code yX11_wrongOne cX11_wrongOne 2 (some .int) ∈ LW := lwm (tb6 (List.mem_of_getElem? (i := 0) (by decide +kernel))) rfl
set_option maxRecDepth 100000 in
theorem qw6_1 : Cond.methodLink RX11 159 yX11_orNever ∈ LW := lwm (tb6 (List.mem_of_getElem? (i := 1) (by decide +kernel))) rfl
set_option maxRecDepth 100000 in
theorem qw6_10 : Cond.instanceMethod yX11_isHereBy ∈ LW := lwm (tb6 (List.mem_of_getElem? (i := 10) (by decide +kernel))) rfl
set_option maxRecDepth 100000 in
theorem qw6_11 : Cond.code yX11_isHereBy cX11_isHereBy 8 (some .boolean) ∈ LW := lwm (tb6 (List.mem_of_getElem? (i := 11) (by decide +kernel))) rfl
set_option maxRecDepth 100000 in
theorem qw6_112 : Cond.methodLink RX11 206 yX11_drawn ∈ LW := lwm (tb6 (List.mem_of_getElem? (i := 112) (by decide +kernel))) rfl
set_option maxRecDepth 100000 in
theorem qw6_114 : Cond.instanceMethod yX11_drawn ∈ LW := lwm (tb6 (List.mem_of_getElem? (i := 114) (by decide +kernel))) rfl
set_option maxRecDepth 100000 in
theorem qw6_115 : Cond.code yX11_drawn cX11_drawn 2 (some .int) ∈ LW := lwm (tb6 (List.mem_of_getElem? (i := 115) (by decide +kernel))) rfl
set_option maxRecDepth 100000 in
theorem qw6_116 : Cond.constant RX11 203 (1664525) ∈ LW := lwm (tb6 (List.mem_of_getElem? (i := 116) (by decide +kernel))) rfl
set_option maxRecDepth 100000 in
theorem qw6_117 : Cond.constant RX11 204 (1013904223) ∈ LW := lwm (tb6 (List.mem_of_getElem? (i := 117) (by decide +kernel))) rfl
set_option maxRecDepth 100000 in
theorem qw6_118 : Cond.constant RX11 205 (2147483647) ∈ LW := lwm (tb6 (List.mem_of_getElem? (i := 118) (by decide +kernel))) rfl
set_option maxRecDepth 100000 in
theorem qw6_131 : Cond.sameMethod RX0 RX0 "change" "(III)I" ∈ LW := lwm (tb6 (List.mem_of_getElem? (i := 131) (by decide +kernel))) rfl
set_option maxRecDepth 100000 in
theorem qw6_132 : Cond.sameMethod RX2 RX2 "change" "(III)I" ∈ LW := lwm (tb6 (List.mem_of_getElem? (i := 132) (by decide +kernel))) rfl
set_option maxRecDepth 100000 in
theorem qw6_2 : Cond.static yX11_orNever ∈ LW := lwm (tb6 (List.mem_of_getElem? (i := 2) (by decide +kernel))) rfl
set_option maxRecDepth 100000 in
theorem qw6_24 : Cond.methodLink RX11 166 yX11_areLeagued ∈ LW := lwm (tb6 (List.mem_of_getElem? (i := 24) (by decide +kernel))) rfl
set_option maxRecDepth 100000 in
theorem qw6_26 : Cond.instanceMethod yX11_areLeagued ∈ LW := lwm (tb6 (List.mem_of_getElem? (i := 26) (by decide +kernel))) rfl
set_option maxRecDepth 100000 in
theorem qw6_27 : Cond.code yX11_areLeagued cX11_areLeagued 3 (some .boolean) ∈ LW := lwm (tb6 (List.mem_of_getElem? (i := 27) (by decide +kernel))) rfl
set_option maxRecDepth 100000 in
theorem qw6_3 : Cond.code yX11_orNever cX11_orNever 1 (some .int) ∈ LW := lwm (tb6 (List.mem_of_getElem? (i := 3) (by decide +kernel))) rfl
set_option maxRecDepth 100000 in
theorem qw6_32 : Cond.methodLink RX11 169 yX11_has ∈ LW := lwm (tb6 (List.mem_of_getElem? (i := 32) (by decide +kernel))) rfl
set_option maxRecDepth 100000 in
theorem qw6_33 : Cond.static yX11_has ∈ LW := lwm (tb6 (List.mem_of_getElem? (i := 33) (by decide +kernel))) rfl
set_option maxRecDepth 100000 in
theorem qw6_34 : Cond.code yX11_has cX11_has 2 (some .boolean) ∈ LW := lwm (tb6 (List.mem_of_getElem? (i := 34) (by decide +kernel))) rfl
set_option maxRecDepth 100000 in
theorem qw6_59 : Cond.methodLink RX11 175 yX11_hasBy ∈ LW := lwm (tb6 (List.mem_of_getElem? (i := 59) (by decide +kernel))) rfl
set_option maxRecDepth 100000 in
theorem qw6_61 : Cond.instanceMethod yX11_hasBy ∈ LW := lwm (tb6 (List.mem_of_getElem? (i := 61) (by decide +kernel))) rfl
set_option maxRecDepth 100000 in
theorem qw6_62 : Cond.code yX11_hasBy cX11_hasBy 7 (some .int) ∈ LW := lwm (tb6 (List.mem_of_getElem? (i := 62) (by decide +kernel))) rfl
set_option maxRecDepth 100000 in
theorem qw6_63 : Cond.methodLink RX11 172 yX11_speaksToAll ∈ LW := lwm (tb6 (List.mem_of_getElem? (i := 63) (by decide +kernel))) rfl
set_option maxRecDepth 100000 in
theorem qw6_65 : Cond.instanceMethod yX11_speaksToAll ∈ LW := lwm (tb6 (List.mem_of_getElem? (i := 65) (by decide +kernel))) rfl
set_option maxRecDepth 100000 in
theorem qw6_66 : Cond.code yX11_speaksToAll cX11_speaksToAll 3 none ∈ LW := lwm (tb6 (List.mem_of_getElem? (i := 66) (by decide +kernel))) rfl
set_option maxRecDepth 100000 in
theorem qw6_71 : Cond.methodLink RX11 183 yX11_noWide ∈ LW := lwm (tb6 (List.mem_of_getElem? (i := 71) (by decide +kernel))) rfl
set_option maxRecDepth 100000 in
theorem qw6_73 : Cond.instanceMethod yX11_noWide ∈ LW := lwm (tb6 (List.mem_of_getElem? (i := 73) (by decide +kernel))) rfl
set_option maxRecDepth 100000 in
theorem qw6_74 : Cond.code yX11_noWide cX11_noWide 2 (some .long) ∈ LW := lwm (tb6 (List.mem_of_getElem? (i := 74) (by decide +kernel))) rfl
set_option maxRecDepth 100000 in
theorem qw6_75 : Cond.constantLong RX11 34 (4000000000000000000) ∈ LW := lwm (tb6 (List.mem_of_getElem? (i := 75) (by decide +kernel))) rfl
set_option maxRecDepth 100000 in
theorem qw6_76 : Cond.methodLink RX11 187 yX11_feasts ∈ LW := lwm (tb6 (List.mem_of_getElem? (i := 76) (by decide +kernel))) rfl
set_option maxRecDepth 100000 in
theorem qw6_77 : Cond.static yX11_feasts ∈ LW := lwm (tb6 (List.mem_of_getElem? (i := 77) (by decide +kernel))) rfl
set_option maxRecDepth 100000 in
theorem qw6_78 : Cond.code yX11_feasts cX11_feasts 3 none ∈ LW := lwm (tb6 (List.mem_of_getElem? (i := 78) (by decide +kernel))) rfl
set_option maxRecDepth 100000 in
theorem qw6_79 : Cond.methodLink RX11 190 yX11_partOf ∈ LW := lwm (tb6 (List.mem_of_getElem? (i := 79) (by decide +kernel))) rfl
set_option maxRecDepth 100000 in
theorem qw6_8 : Cond.methodLink RX11 162 yX11_isHereBy ∈ LW := lwm (tb6 (List.mem_of_getElem? (i := 8) (by decide +kernel))) rfl
set_option maxRecDepth 100000 in
theorem qw6_80 : Cond.static yX11_partOf ∈ LW := lwm (tb6 (List.mem_of_getElem? (i := 80) (by decide +kernel))) rfl
set_option maxRecDepth 100000 in
theorem qw6_81 : Cond.code yX11_partOf cX11_partOf 5 (some .long) ∈ LW := lwm (tb6 (List.mem_of_getElem? (i := 81) (by decide +kernel))) rfl
set_option maxRecDepth 100000 in
theorem qw6_82 : Cond.methodLink RX11 179 yX11_gcd ∈ LW := lwm (tb6 (List.mem_of_getElem? (i := 82) (by decide +kernel))) rfl
set_option maxRecDepth 100000 in
theorem qw6_83 : Cond.static yX11_gcd ∈ LW := lwm (tb6 (List.mem_of_getElem? (i := 83) (by decide +kernel))) rfl
set_option maxRecDepth 100000 in
theorem qw6_84 : Cond.code yX11_gcd cX11_gcd 10 (some .long) ∈ LW := lwm (tb6 (List.mem_of_getElem? (i := 84) (by decide +kernel))) rfl
set_option maxRecDepth 100000 in
theorem qw6_89 : Cond.methodLink RX11 194 yX11_knownAll ∈ LW := lwm (tb6 (List.mem_of_getElem? (i := 89) (by decide +kernel))) rfl
set_option maxRecDepth 100000 in
theorem qw6_90 : Cond.static yX11_knownAll ∈ LW := lwm (tb6 (List.mem_of_getElem? (i := 90) (by decide +kernel))) rfl
set_option maxRecDepth 100000 in
theorem qw6_91 : Cond.code yX11_knownAll cX11_knownAll 3 (some .int) ∈ LW := lwm (tb6 (List.mem_of_getElem? (i := 91) (by decide +kernel))) rfl
