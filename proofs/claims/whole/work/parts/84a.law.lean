set_option maxRecDepth 100000 in
theorem qw1_210 : Cond.methodLink RL 13 yX10_letter ∈ LW := lwm (tb1 (List.mem_of_getElem? (i := 210) (by decide +kernel))) rfl
set_option maxRecDepth 100000 in
theorem qw1_211 : Cond.instanceMethod yX10_letter ∈ LW := lwm (tb1 (List.mem_of_getElem? (i := 211) (by decide +kernel))) rfl
set_option maxRecDepth 100000 in
theorem qw1_212 : Cond.selects RX10 yX10_letter yX10_letter ∈ LW := lwm (tb1 (List.mem_of_getElem? (i := 212) (by decide +kernel))) rfl
set_option maxRecDepth 100000 in
theorem qw1_213 : Cond.code yX10_letter cX10_letter 3 (some .int) ∈ LW := lwm (tb1 (List.mem_of_getElem? (i := 213) (by decide +kernel))) rfl
set_option maxRecDepth 100000 in
theorem qw1_236 : Cond.methodLink RL 18 yX10_valley ∈ LW := lwm (tb1 (List.mem_of_getElem? (i := 236) (by decide +kernel))) rfl
set_option maxRecDepth 100000 in
theorem qw1_237 : Cond.instanceMethod yX10_valley ∈ LW := lwm (tb1 (List.mem_of_getElem? (i := 237) (by decide +kernel))) rfl
set_option maxRecDepth 100000 in
theorem qw1_238 : Cond.selects RX10 yX10_valley yX10_valley ∈ LW := lwm (tb1 (List.mem_of_getElem? (i := 238) (by decide +kernel))) rfl
set_option maxRecDepth 100000 in
theorem qw1_239 : Cond.code yX10_valley cX10_valley 2 (some .int) ∈ LW := lwm (tb1 (List.mem_of_getElem? (i := 239) (by decide +kernel))) rfl
set_option maxRecDepth 100000 in
theorem qw3_100 : Cond.methodLink RL 41 yX10_owes ∈ LW := lwm (tb3 (List.mem_of_getElem? (i := 100) (by decide +kernel))) rfl
set_option maxRecDepth 100000 in
theorem qw3_101 : Cond.instanceMethod yX10_owes ∈ LW := lwm (tb3 (List.mem_of_getElem? (i := 101) (by decide +kernel))) rfl
set_option maxRecDepth 100000 in
theorem qw3_102 : Cond.selects RX10 yX10_owes yX10_owes ∈ LW := lwm (tb3 (List.mem_of_getElem? (i := 102) (by decide +kernel))) rfl
set_option maxRecDepth 100000 in
theorem qw3_103 : Cond.code yX10_owes cX10_owes 5 (some .int) ∈ LW := lwm (tb3 (List.mem_of_getElem? (i := 103) (by decide +kernel))) rfl
set_option maxRecDepth 100000 in
theorem qw3_104 : Cond.methodLink RL 45 yX10_back ∈ LW := lwm (tb3 (List.mem_of_getElem? (i := 104) (by decide +kernel))) rfl
set_option maxRecDepth 100000 in
theorem qw3_105 : Cond.instanceMethod yX10_back ∈ LW := lwm (tb3 (List.mem_of_getElem? (i := 105) (by decide +kernel))) rfl
set_option maxRecDepth 100000 in
theorem qw3_106 : Cond.selects RX10 yX10_back yX10_back ∈ LW := lwm (tb3 (List.mem_of_getElem? (i := 106) (by decide +kernel))) rfl
set_option maxRecDepth 100000 in
theorem qw3_107 : Cond.code yX10_back cX10_back 3 (some .int) ∈ LW := lwm (tb3 (List.mem_of_getElem? (i := 107) (by decide +kernel))) rfl
set_option maxRecDepth 100000 in
theorem qw3_124 : Cond.methodLink RL 49 yX10_names ∈ LW := lwm (tb3 (List.mem_of_getElem? (i := 124) (by decide +kernel))) rfl
set_option maxRecDepth 100000 in
theorem qw3_125 : Cond.instanceMethod yX10_names ∈ LW := lwm (tb3 (List.mem_of_getElem? (i := 125) (by decide +kernel))) rfl
set_option maxRecDepth 100000 in
theorem qw3_126 : Cond.selects RX10 yX10_names yX10_names ∈ LW := lwm (tb3 (List.mem_of_getElem? (i := 126) (by decide +kernel))) rfl
set_option maxRecDepth 100000 in
theorem qw3_127 : Cond.code yX10_names cX10_names 4 (some .int) ∈ LW := lwm (tb3 (List.mem_of_getElem? (i := 127) (by decide +kernel))) rfl
set_option maxRecDepth 100000 in
theorem qw3_128 : Cond.methodLink RL 53 yX10_turn ∈ LW := lwm (tb3 (List.mem_of_getElem? (i := 128) (by decide +kernel))) rfl
set_option maxRecDepth 100000 in
theorem qw3_129 : Cond.instanceMethod yX10_turn ∈ LW := lwm (tb3 (List.mem_of_getElem? (i := 129) (by decide +kernel))) rfl
set_option maxRecDepth 100000 in
theorem qw3_130 : Cond.selects RX10 yX10_turn yX10_turn ∈ LW := lwm (tb3 (List.mem_of_getElem? (i := 130) (by decide +kernel))) rfl
set_option maxRecDepth 100000 in
theorem qw3_131 : Cond.code yX10_turn cX10_turn 6 (some .int) ∈ LW := lwm (tb3 (List.mem_of_getElem? (i := 131) (by decide +kernel))) rfl
set_option maxRecDepth 100000 in
theorem qw3_132 : Cond.methodLink RL 57 yX10_weeks ∈ LW := lwm (tb3 (List.mem_of_getElem? (i := 132) (by decide +kernel))) rfl
set_option maxRecDepth 100000 in
theorem qw3_133 : Cond.instanceMethod yX10_weeks ∈ LW := lwm (tb3 (List.mem_of_getElem? (i := 133) (by decide +kernel))) rfl
set_option maxRecDepth 100000 in
theorem qw3_134 : Cond.selects RX10 yX10_weeks yX10_weeks ∈ LW := lwm (tb3 (List.mem_of_getElem? (i := 134) (by decide +kernel))) rfl
set_option maxRecDepth 100000 in
theorem qw3_135 : Cond.code yX10_weeks cX10_weeks 3 (some .int) ∈ LW := lwm (tb3 (List.mem_of_getElem? (i := 135) (by decide +kernel))) rfl
set_option maxRecDepth 100000 in
theorem qw3_142 : Cond.methodLink RL 61 yX10_memoryThen ∈ LW := lwm (tb3 (List.mem_of_getElem? (i := 142) (by decide +kernel))) rfl
set_option maxRecDepth 100000 in
theorem qw3_143 : Cond.instanceMethod yX10_memoryThen ∈ LW := lwm (tb3 (List.mem_of_getElem? (i := 143) (by decide +kernel))) rfl
set_option maxRecDepth 100000 in
theorem qw3_144 : Cond.selects RX10 yX10_memoryThen yX10_memoryThen ∈ LW := lwm (tb3 (List.mem_of_getElem? (i := 144) (by decide +kernel))) rfl
set_option maxRecDepth 100000 in
theorem qw3_145 : Cond.code yX10_memoryThen cX10_memoryThen 5 (some .int) ∈ LW := lwm (tb3 (List.mem_of_getElem? (i := 145) (by decide +kernel))) rfl
set_option maxRecDepth 100000 in
theorem qw3_156 : Cond.methodLink RL 65 yX10_knownThen ∈ LW := lwm (tb3 (List.mem_of_getElem? (i := 156) (by decide +kernel))) rfl
set_option maxRecDepth 100000 in
theorem qw3_157 : Cond.instanceMethod yX10_knownThen ∈ LW := lwm (tb3 (List.mem_of_getElem? (i := 157) (by decide +kernel))) rfl
set_option maxRecDepth 100000 in
theorem qw3_158 : Cond.selects RX10 yX10_knownThen yX10_knownThen ∈ LW := lwm (tb3 (List.mem_of_getElem? (i := 158) (by decide +kernel))) rfl
set_option maxRecDepth 100000 in
theorem qw3_159 : Cond.code yX10_knownThen cX10_knownThen 4 (some .int) ∈ LW := lwm (tb3 (List.mem_of_getElem? (i := 159) (by decide +kernel))) rfl
set_option maxRecDepth 100000 in
theorem qw3_160 : Cond.methodLink RL 69 yX10_gone ∈ LW := lwm (tb3 (List.mem_of_getElem? (i := 160) (by decide +kernel))) rfl
set_option maxRecDepth 100000 in
theorem qw3_161 : Cond.instanceMethod yX10_gone ∈ LW := lwm (tb3 (List.mem_of_getElem? (i := 161) (by decide +kernel))) rfl
set_option maxRecDepth 100000 in
theorem qw3_162 : Cond.selects RX10 yX10_gone yX10_gone ∈ LW := lwm (tb3 (List.mem_of_getElem? (i := 162) (by decide +kernel))) rfl
set_option maxRecDepth 100000 in
theorem qw3_163 : Cond.code yX10_gone cX10_gone 3 (some .int) ∈ LW := lwm (tb3 (List.mem_of_getElem? (i := 163) (by decide +kernel))) rfl
set_option maxRecDepth 100000 in
theorem qw3_168 : Cond.methodLink RL 73 yX10_goes ∈ LW := lwm (tb3 (List.mem_of_getElem? (i := 168) (by decide +kernel))) rfl
set_option maxRecDepth 100000 in
theorem qw3_169 : Cond.instanceMethod yX10_goes ∈ LW := lwm (tb3 (List.mem_of_getElem? (i := 169) (by decide +kernel))) rfl
set_option maxRecDepth 100000 in
theorem qw3_170 : Cond.selects RX10 yX10_goes yX10_goes ∈ LW := lwm (tb3 (List.mem_of_getElem? (i := 170) (by decide +kernel))) rfl
set_option maxRecDepth 100000 in
theorem qw3_171 : Cond.code yX10_goes cX10_goes 3 (some .int) ∈ LW := lwm (tb3 (List.mem_of_getElem? (i := 171) (by decide +kernel))) rfl
set_option maxRecDepth 100000 in
theorem qw3_183 : Cond.methodLink RL 77 yX10_next ∈ LW := lwm (tb3 (List.mem_of_getElem? (i := 183) (by decide +kernel))) rfl
set_option maxRecDepth 100000 in
theorem qw3_184 : Cond.instanceMethod yX10_next ∈ LW := lwm (tb3 (List.mem_of_getElem? (i := 184) (by decide +kernel))) rfl
set_option maxRecDepth 100000 in
theorem qw3_185 : Cond.selects RX10 yX10_next yX10_next ∈ LW := lwm (tb3 (List.mem_of_getElem? (i := 185) (by decide +kernel))) rfl
set_option maxRecDepth 100000 in
theorem qw3_186 : Cond.code yX10_next cX10_next 3 (some .int) ∈ LW := lwm (tb3 (List.mem_of_getElem? (i := 186) (by decide +kernel))) rfl
set_option maxRecDepth 100000 in
theorem qw3_202 : Cond.methodLink RL 81 yX10_least ∈ LW := lwm (tb3 (List.mem_of_getElem? (i := 202) (by decide +kernel))) rfl
set_option maxRecDepth 100000 in
theorem qw3_203 : Cond.instanceMethod yX10_least ∈ LW := lwm (tb3 (List.mem_of_getElem? (i := 203) (by decide +kernel))) rfl
set_option maxRecDepth 100000 in
theorem qw3_204 : Cond.selects RX10 yX10_least yX10_least ∈ LW := lwm (tb3 (List.mem_of_getElem? (i := 204) (by decide +kernel))) rfl
set_option maxRecDepth 100000 in
theorem qw3_205 : Cond.code yX10_least cX10_least 3 (some .int) ∈ LW := lwm (tb3 (List.mem_of_getElem? (i := 205) (by decide +kernel))) rfl
set_option maxRecDepth 100000 in
theorem qw3_211 : Cond.methodLink RL 85 yX10_speak ∈ LW := lwm (tb3 (List.mem_of_getElem? (i := 211) (by decide +kernel))) rfl
set_option maxRecDepth 100000 in
theorem qw3_212 : Cond.instanceMethod yX10_speak ∈ LW := lwm (tb3 (List.mem_of_getElem? (i := 212) (by decide +kernel))) rfl
set_option maxRecDepth 100000 in
theorem qw3_213 : Cond.selects RX10 yX10_speak yX10_speak ∈ LW := lwm (tb3 (List.mem_of_getElem? (i := 213) (by decide +kernel))) rfl
set_option maxRecDepth 100000 in
theorem qw3_214 : Cond.code yX10_speak cX10_speak 3 (some .int) ∈ LW := lwm (tb3 (List.mem_of_getElem? (i := 214) (by decide +kernel))) rfl
set_option maxRecDepth 100000 in
theorem qw3_222 : Cond.methodLink RL 89 yX10_fewest ∈ LW := lwm (tb3 (List.mem_of_getElem? (i := 222) (by decide +kernel))) rfl
set_option maxRecDepth 100000 in
theorem qw3_223 : Cond.instanceMethod yX10_fewest ∈ LW := lwm (tb3 (List.mem_of_getElem? (i := 223) (by decide +kernel))) rfl
set_option maxRecDepth 100000 in
theorem qw3_224 : Cond.selects RX10 yX10_fewest yX10_fewest ∈ LW := lwm (tb3 (List.mem_of_getElem? (i := 224) (by decide +kernel))) rfl
set_option maxRecDepth 100000 in
theorem qw3_225 : Cond.code yX10_fewest cX10_fewest 4 (some .int) ∈ LW := lwm (tb3 (List.mem_of_getElem? (i := 225) (by decide +kernel))) rfl
set_option maxRecDepth 100000 in
theorem qw3_48 : Cond.methodLink RL 23 yX10_person ∈ LW := lwm (tb3 (List.mem_of_getElem? (i := 48) (by decide +kernel))) rfl
set_option maxRecDepth 100000 in
theorem qw3_49 : Cond.instanceMethod yX10_person ∈ LW := lwm (tb3 (List.mem_of_getElem? (i := 49) (by decide +kernel))) rfl
set_option maxRecDepth 100000 in
theorem qw3_50 : Cond.selects RX10 yX10_person yX10_person ∈ LW := lwm (tb3 (List.mem_of_getElem? (i := 50) (by decide +kernel))) rfl
set_option maxRecDepth 100000 in
theorem qw3_51 : Cond.code yX10_person cX10_person 4 (some .int) ∈ LW := lwm (tb3 (List.mem_of_getElem? (i := 51) (by decide +kernel))) rfl
set_option maxRecDepth 100000 in
theorem qw3_65 : Cond.methodLink RL 28 yX10_memory ∈ LW := lwm (tb3 (List.mem_of_getElem? (i := 65) (by decide +kernel))) rfl
set_option maxRecDepth 100000 in
theorem qw3_66 : Cond.instanceMethod yX10_memory ∈ LW := lwm (tb3 (List.mem_of_getElem? (i := 66) (by decide +kernel))) rfl
set_option maxRecDepth 100000 in
theorem qw3_67 : Cond.selects RX10 yX10_memory yX10_memory ∈ LW := lwm (tb3 (List.mem_of_getElem? (i := 67) (by decide +kernel))) rfl
set_option maxRecDepth 100000 in
theorem qw3_68 : Cond.code yX10_memory cX10_memory 4 (some .int) ∈ LW := lwm (tb3 (List.mem_of_getElem? (i := 68) (by decide +kernel))) rfl
set_option maxRecDepth 100000 in
theorem qw3_82 : Cond.methodLink RL 32 yX10_recalls ∈ LW := lwm (tb3 (List.mem_of_getElem? (i := 82) (by decide +kernel))) rfl
set_option maxRecDepth 100000 in
theorem qw3_83 : Cond.instanceMethod yX10_recalls ∈ LW := lwm (tb3 (List.mem_of_getElem? (i := 83) (by decide +kernel))) rfl
set_option maxRecDepth 100000 in
theorem qw3_84 : Cond.selects RX10 yX10_recalls yX10_recalls ∈ LW := lwm (tb3 (List.mem_of_getElem? (i := 84) (by decide +kernel))) rfl
set_option maxRecDepth 100000 in
theorem qw3_85 : Cond.code yX10_recalls cX10_recalls 6 (some .int) ∈ LW := lwm (tb3 (List.mem_of_getElem? (i := 85) (by decide +kernel))) rfl
set_option maxRecDepth 100000 in
theorem qw3_87 : Cond.methodLink RL 37 yX10_speaks ∈ LW := lwm (tb3 (List.mem_of_getElem? (i := 87) (by decide +kernel))) rfl
set_option maxRecDepth 100000 in
theorem qw3_88 : Cond.instanceMethod yX10_speaks ∈ LW := lwm (tb3 (List.mem_of_getElem? (i := 88) (by decide +kernel))) rfl
set_option maxRecDepth 100000 in
theorem qw3_89 : Cond.selects RX10 yX10_speaks yX10_speaks ∈ LW := lwm (tb3 (List.mem_of_getElem? (i := 89) (by decide +kernel))) rfl
set_option maxRecDepth 100000 in
theorem qw3_90 : Cond.code yX10_speaks cX10_speaks 4 (some .int) ∈ LW := lwm (tb3 (List.mem_of_getElem? (i := 90) (by decide +kernel))) rfl
set_option maxRecDepth 100000 in
theorem qw4_100 : Cond.methodLink RL 125 yX10_hill ∈ LW := lwm (tb4 (List.mem_of_getElem? (i := 100) (by decide +kernel))) rfl
set_option maxRecDepth 100000 in
theorem qw4_101 : Cond.instanceMethod yX10_hill ∈ LW := lwm (tb4 (List.mem_of_getElem? (i := 101) (by decide +kernel))) rfl
set_option maxRecDepth 100000 in
theorem qw4_102 : Cond.selects RX10 yX10_hill yX10_hill ∈ LW := lwm (tb4 (List.mem_of_getElem? (i := 102) (by decide +kernel))) rfl
set_option maxRecDepth 100000 in
theorem qw4_103 : Cond.code yX10_hill cX10_hill 1 (some .int) ∈ LW := lwm (tb4 (List.mem_of_getElem? (i := 103) (by decide +kernel))) rfl
set_option maxRecDepth 100000 in
theorem qw4_108 : Cond.methodLink RL 129 yX10_two ∈ LW := lwm (tb4 (List.mem_of_getElem? (i := 108) (by decide +kernel))) rfl
set_option maxRecDepth 100000 in
theorem qw4_109 : Cond.instanceMethod yX10_two ∈ LW := lwm (tb4 (List.mem_of_getElem? (i := 109) (by decide +kernel))) rfl
set_option maxRecDepth 100000 in
theorem qw4_110 : Cond.selects RX10 yX10_two yX10_two ∈ LW := lwm (tb4 (List.mem_of_getElem? (i := 110) (by decide +kernel))) rfl
set_option maxRecDepth 100000 in
theorem qw4_111 : Cond.code yX10_two cX10_two 5 (some .int) ∈ LW := lwm (tb4 (List.mem_of_getElem? (i := 111) (by decide +kernel))) rfl
set_option maxRecDepth 100000 in
theorem qw4_130 : Cond.methodLink RL 133 yX10_feast ∈ LW := lwm (tb4 (List.mem_of_getElem? (i := 130) (by decide +kernel))) rfl
set_option maxRecDepth 100000 in
theorem qw4_131 : Cond.instanceMethod yX10_feast ∈ LW := lwm (tb4 (List.mem_of_getElem? (i := 131) (by decide +kernel))) rfl
set_option maxRecDepth 100000 in
theorem qw4_132 : Cond.selects RX10 yX10_feast yX10_feast ∈ LW := lwm (tb4 (List.mem_of_getElem? (i := 132) (by decide +kernel))) rfl
set_option maxRecDepth 100000 in
theorem qw4_133 : Cond.code yX10_feast cX10_feast 8 (some .long) ∈ LW := lwm (tb4 (List.mem_of_getElem? (i := 133) (by decide +kernel))) rfl
set_option maxRecDepth 100000 in
theorem qw4_15 : Cond.methodLink RL 97 yX10_bring ∈ LW := lwm (tb4 (List.mem_of_getElem? (i := 15) (by decide +kernel))) rfl
set_option maxRecDepth 100000 in
theorem qw4_157 : Cond.methodLink RL 138 yX10_mean ∈ LW := lwm (tb4 (List.mem_of_getElem? (i := 157) (by decide +kernel))) rfl
set_option maxRecDepth 100000 in
theorem qw4_158 : Cond.instanceMethod yX10_mean ∈ LW := lwm (tb4 (List.mem_of_getElem? (i := 158) (by decide +kernel))) rfl
set_option maxRecDepth 100000 in
theorem qw4_159 : Cond.selects RX10 yX10_mean yX10_mean ∈ LW := lwm (tb4 (List.mem_of_getElem? (i := 159) (by decide +kernel))) rfl
set_option maxRecDepth 100000 in
theorem qw4_16 : Cond.instanceMethod yX10_bring ∈ LW := lwm (tb4 (List.mem_of_getElem? (i := 16) (by decide +kernel))) rfl
set_option maxRecDepth 100000 in
theorem qw4_160 : Cond.code yX10_mean cX10_mean 3 (some .long) ∈ LW := lwm (tb4 (List.mem_of_getElem? (i := 160) (by decide +kernel))) rfl
set_option maxRecDepth 100000 in
theorem qw4_166 : Cond.methodLink RL 143 yX10_whatIs ∈ LW := lwm (tb4 (List.mem_of_getElem? (i := 166) (by decide +kernel))) rfl
set_option maxRecDepth 100000 in
theorem qw4_167 : Cond.instanceMethod yX10_whatIs ∈ LW := lwm (tb4 (List.mem_of_getElem? (i := 167) (by decide +kernel))) rfl
set_option maxRecDepth 100000 in
theorem qw4_168 : Cond.selects RX10 yX10_whatIs yX10_whatIs ∈ LW := lwm (tb4 (List.mem_of_getElem? (i := 168) (by decide +kernel))) rfl
set_option maxRecDepth 100000 in
theorem qw4_169 : Cond.code yX10_whatIs cX10_whatIs 5 (some .int) ∈ LW := lwm (tb4 (List.mem_of_getElem? (i := 169) (by decide +kernel))) rfl
set_option maxRecDepth 100000 in
theorem qw4_17 : Cond.selects RX10 yX10_bring yX10_bring ∈ LW := lwm (tb4 (List.mem_of_getElem? (i := 17) (by decide +kernel))) rfl
set_option maxRecDepth 100000 in
theorem qw4_18 : Cond.code yX10_bring cX10_bring 4 (some .int) ∈ LW := lwm (tb4 (List.mem_of_getElem? (i := 18) (by decide +kernel))) rfl
set_option maxRecDepth 100000 in
theorem qw4_183 : Cond.methodLink RL 147 yX10_row ∈ LW := lwm (tb4 (List.mem_of_getElem? (i := 183) (by decide +kernel))) rfl
set_option maxRecDepth 100000 in
theorem qw4_184 : Cond.instanceMethod yX10_row ∈ LW := lwm (tb4 (List.mem_of_getElem? (i := 184) (by decide +kernel))) rfl
set_option maxRecDepth 100000 in
theorem qw4_185 : Cond.selects RX10 yX10_row yX10_row ∈ LW := lwm (tb4 (List.mem_of_getElem? (i := 185) (by decide +kernel))) rfl
set_option maxRecDepth 100000 in
theorem qw4_186 : Cond.code yX10_row cX10_row 3 (some .int) ∈ LW := lwm (tb4 (List.mem_of_getElem? (i := 186) (by decide +kernel))) rfl
set_option maxRecDepth 100000 in
theorem qw4_195 : Cond.methodLink RL 151 yX10_judge ∈ LW := lwm (tb4 (List.mem_of_getElem? (i := 195) (by decide +kernel))) rfl
set_option maxRecDepth 100000 in
theorem qw4_196 : Cond.instanceMethod yX10_judge ∈ LW := lwm (tb4 (List.mem_of_getElem? (i := 196) (by decide +kernel))) rfl
set_option maxRecDepth 100000 in
theorem qw4_197 : Cond.selects RX10 yX10_judge yX10_judge ∈ LW := lwm (tb4 (List.mem_of_getElem? (i := 197) (by decide +kernel))) rfl
set_option maxRecDepth 100000 in
theorem qw4_198 : Cond.code yX10_judge cX10_judge 2 (some .int) ∈ LW := lwm (tb4 (List.mem_of_getElem? (i := 198) (by decide +kernel))) rfl
set_option maxRecDepth 100000 in
theorem qw4_207 : Cond.methodLink RL 155 yX10_clear ∈ LW := lwm (tb4 (List.mem_of_getElem? (i := 207) (by decide +kernel))) rfl
set_option maxRecDepth 100000 in
theorem qw4_208 : Cond.instanceMethod yX10_clear ∈ LW := lwm (tb4 (List.mem_of_getElem? (i := 208) (by decide +kernel))) rfl
set_option maxRecDepth 100000 in
theorem qw4_209 : Cond.selects RX10 yX10_clear yX10_clear ∈ LW := lwm (tb4 (List.mem_of_getElem? (i := 209) (by decide +kernel))) rfl
set_option maxRecDepth 100000 in
theorem qw4_210 : Cond.code yX10_clear cX10_clear 1 (some .int) ∈ LW := lwm (tb4 (List.mem_of_getElem? (i := 210) (by decide +kernel))) rfl
set_option maxRecDepth 100000 in
theorem qw4_211 : Cond.methodLink RL 159 yX10_lots ∈ LW := lwm (tb4 (List.mem_of_getElem? (i := 211) (by decide +kernel))) rfl
set_option maxRecDepth 100000 in
theorem qw4_212 : Cond.instanceMethod yX10_lots ∈ LW := lwm (tb4 (List.mem_of_getElem? (i := 212) (by decide +kernel))) rfl
set_option maxRecDepth 100000 in
theorem qw4_213 : Cond.selects RX10 yX10_lots yX10_lots ∈ LW := lwm (tb4 (List.mem_of_getElem? (i := 213) (by decide +kernel))) rfl
set_option maxRecDepth 100000 in
theorem qw4_214 : Cond.code yX10_lots cX10_lots 5 (some .int) ∈ LW := lwm (tb4 (List.mem_of_getElem? (i := 214) (by decide +kernel))) rfl
set_option maxRecDepth 100000 in
theorem qw4_232 : Cond.methodLink RL 163 yX10_image ∈ LW := lwm (tb4 (List.mem_of_getElem? (i := 232) (by decide +kernel))) rfl
set_option maxRecDepth 100000 in
theorem qw4_233 : Cond.instanceMethod yX10_image ∈ LW := lwm (tb4 (List.mem_of_getElem? (i := 233) (by decide +kernel))) rfl
set_option maxRecDepth 100000 in
theorem qw4_234 : Cond.selects RX10 yX10_image yX10_image ∈ LW := lwm (tb4 (List.mem_of_getElem? (i := 234) (by decide +kernel))) rfl
set_option maxRecDepth 100000 in
theorem qw4_235 : Cond.code yX10_image cX10_image 1 (some .int) ∈ LW := lwm (tb4 (List.mem_of_getElem? (i := 235) (by decide +kernel))) rfl
set_option maxRecDepth 100000 in
theorem qw4_236 : Cond.methodLink RL 167 yX10_on ∈ LW := lwm (tb4 (List.mem_of_getElem? (i := 236) (by decide +kernel))) rfl
set_option maxRecDepth 100000 in
theorem qw4_237 : Cond.instanceMethod yX10_on ∈ LW := lwm (tb4 (List.mem_of_getElem? (i := 237) (by decide +kernel))) rfl
set_option maxRecDepth 100000 in
theorem qw4_238 : Cond.selects RX10 yX10_on yX10_on ∈ LW := lwm (tb4 (List.mem_of_getElem? (i := 238) (by decide +kernel))) rfl
set_option maxRecDepth 100000 in
theorem qw4_239 : Cond.code yX10_on cX10_on 2 (some .int) ∈ LW := lwm (tb4 (List.mem_of_getElem? (i := 239) (by decide +kernel))) rfl
set_option maxRecDepth 100000 in
theorem qw4_30 : Cond.methodLink RL 101 yX10_league ∈ LW := lwm (tb4 (List.mem_of_getElem? (i := 30) (by decide +kernel))) rfl
set_option maxRecDepth 100000 in
theorem qw4_31 : Cond.instanceMethod yX10_league ∈ LW := lwm (tb4 (List.mem_of_getElem? (i := 31) (by decide +kernel))) rfl
set_option maxRecDepth 100000 in
theorem qw4_32 : Cond.selects RX10 yX10_league yX10_league ∈ LW := lwm (tb4 (List.mem_of_getElem? (i := 32) (by decide +kernel))) rfl
set_option maxRecDepth 100000 in
theorem qw4_33 : Cond.code yX10_league cX10_league 3 (some .int) ∈ LW := lwm (tb4 (List.mem_of_getElem? (i := 33) (by decide +kernel))) rfl
set_option maxRecDepth 100000 in
theorem qw4_40 : Cond.methodLink RL 105 yX10_largest ∈ LW := lwm (tb4 (List.mem_of_getElem? (i := 40) (by decide +kernel))) rfl
set_option maxRecDepth 100000 in
theorem qw4_41 : Cond.instanceMethod yX10_largest ∈ LW := lwm (tb4 (List.mem_of_getElem? (i := 41) (by decide +kernel))) rfl
set_option maxRecDepth 100000 in
theorem qw4_42 : Cond.selects RX10 yX10_largest yX10_largest ∈ LW := lwm (tb4 (List.mem_of_getElem? (i := 42) (by decide +kernel))) rfl
set_option maxRecDepth 100000 in
theorem qw4_43 : Cond.code yX10_largest cX10_largest 4 (some .int) ∈ LW := lwm (tb4 (List.mem_of_getElem? (i := 43) (by decide +kernel))) rfl
set_option maxRecDepth 100000 in
theorem qw4_5 : Cond.methodLink RL 93 yX10_save ∈ LW := lwm (tb4 (List.mem_of_getElem? (i := 5) (by decide +kernel))) rfl
set_option maxRecDepth 100000 in
theorem qw4_55 : Cond.methodLink RL 109 yX10_cold ∈ LW := lwm (tb4 (List.mem_of_getElem? (i := 55) (by decide +kernel))) rfl
set_option maxRecDepth 100000 in
theorem qw4_56 : Cond.instanceMethod yX10_cold ∈ LW := lwm (tb4 (List.mem_of_getElem? (i := 56) (by decide +kernel))) rfl
set_option maxRecDepth 100000 in
theorem qw4_57 : Cond.selects RX10 yX10_cold yX10_cold ∈ LW := lwm (tb4 (List.mem_of_getElem? (i := 57) (by decide +kernel))) rfl
set_option maxRecDepth 100000 in
theorem qw4_58 : Cond.code yX10_cold cX10_cold 3 (some .int) ∈ LW := lwm (tb4 (List.mem_of_getElem? (i := 58) (by decide +kernel))) rfl
set_option maxRecDepth 100000 in
theorem qw4_6 : Cond.instanceMethod yX10_save ∈ LW := lwm (tb4 (List.mem_of_getElem? (i := 6) (by decide +kernel))) rfl
set_option maxRecDepth 100000 in
theorem qw4_7 : Cond.selects RX10 yX10_save yX10_save ∈ LW := lwm (tb4 (List.mem_of_getElem? (i := 7) (by decide +kernel))) rfl
set_option maxRecDepth 100000 in
theorem qw4_71 : Cond.methodLink RL 113 yX10_envy ∈ LW := lwm (tb4 (List.mem_of_getElem? (i := 71) (by decide +kernel))) rfl
set_option maxRecDepth 100000 in
theorem qw4_72 : Cond.instanceMethod yX10_envy ∈ LW := lwm (tb4 (List.mem_of_getElem? (i := 72) (by decide +kernel))) rfl
set_option maxRecDepth 100000 in
theorem qw4_73 : Cond.selects RX10 yX10_envy yX10_envy ∈ LW := lwm (tb4 (List.mem_of_getElem? (i := 73) (by decide +kernel))) rfl
set_option maxRecDepth 100000 in
theorem qw4_74 : Cond.code yX10_envy cX10_envy 3 (some .int) ∈ LW := lwm (tb4 (List.mem_of_getElem? (i := 74) (by decide +kernel))) rfl
set_option maxRecDepth 100000 in
theorem qw4_79 : Cond.methodLink RL 117 yX10_power ∈ LW := lwm (tb4 (List.mem_of_getElem? (i := 79) (by decide +kernel))) rfl
set_option maxRecDepth 100000 in
theorem qw4_8 : Cond.code yX10_save cX10_save 3 (some .int) ∈ LW := lwm (tb4 (List.mem_of_getElem? (i := 8) (by decide +kernel))) rfl
set_option maxRecDepth 100000 in
theorem qw4_80 : Cond.instanceMethod yX10_power ∈ LW := lwm (tb4 (List.mem_of_getElem? (i := 80) (by decide +kernel))) rfl
set_option maxRecDepth 100000 in
theorem qw4_81 : Cond.selects RX10 yX10_power yX10_power ∈ LW := lwm (tb4 (List.mem_of_getElem? (i := 81) (by decide +kernel))) rfl
set_option maxRecDepth 100000 in
theorem qw4_82 : Cond.code yX10_power cX10_power 4 (some .int) ∈ LW := lwm (tb4 (List.mem_of_getElem? (i := 82) (by decide +kernel))) rfl
set_option maxRecDepth 100000 in
theorem qw4_92 : Cond.methodLink RL 121 yX10_voids ∈ LW := lwm (tb4 (List.mem_of_getElem? (i := 92) (by decide +kernel))) rfl
set_option maxRecDepth 100000 in
theorem qw4_93 : Cond.instanceMethod yX10_voids ∈ LW := lwm (tb4 (List.mem_of_getElem? (i := 93) (by decide +kernel))) rfl
set_option maxRecDepth 100000 in
theorem qw4_94 : Cond.selects RX10 yX10_voids yX10_voids ∈ LW := lwm (tb4 (List.mem_of_getElem? (i := 94) (by decide +kernel))) rfl
set_option maxRecDepth 100000 in
theorem qw4_95 : Cond.code yX10_voids cX10_voids 3 (some .int) ∈ LW := lwm (tb4 (List.mem_of_getElem? (i := 95) (by decide +kernel))) rfl
set_option maxRecDepth 100000 in
theorem qw5_0 : Cond.methodLink RL 171 yX10_count ∈ LW := lwm (tb5 (List.mem_of_getElem? (i := 0) (by decide +kernel))) rfl
set_option maxRecDepth 100000 in
theorem qw5_1 : Cond.instanceMethod yX10_count ∈ LW := lwm (tb5 (List.mem_of_getElem? (i := 1) (by decide +kernel))) rfl
set_option maxRecDepth 100000 in
theorem qw5_147 : Cond.methodLink RL 27 yX11_person ∈ LW := lwm (tb5 (List.mem_of_getElem? (i := 147) (by decide +kernel))) rfl
set_option maxRecDepth 100000 in
theorem qw5_148 : Cond.instanceMethod yX11_person ∈ LW := lwm (tb5 (List.mem_of_getElem? (i := 148) (by decide +kernel))) rfl
set_option maxRecDepth 100000 in
theorem qw5_149 : Cond.selects RX11 yX11_person yX11_person ∈ LW := lwm (tb5 (List.mem_of_getElem? (i := 149) (by decide +kernel))) rfl
set_option maxRecDepth 100000 in
theorem qw5_150 : Cond.code yX11_person cX11_person 3 (some .int) ∈ LW := lwm (tb5 (List.mem_of_getElem? (i := 150) (by decide +kernel))) rfl
set_option maxRecDepth 100000 in
theorem qw5_151 : Cond.methodLink RL 31 yX11_memory ∈ LW := lwm (tb5 (List.mem_of_getElem? (i := 151) (by decide +kernel))) rfl
set_option maxRecDepth 100000 in
theorem qw5_152 : Cond.instanceMethod yX11_memory ∈ LW := lwm (tb5 (List.mem_of_getElem? (i := 152) (by decide +kernel))) rfl
set_option maxRecDepth 100000 in
theorem qw5_153 : Cond.selects RX11 yX11_memory yX11_memory ∈ LW := lwm (tb5 (List.mem_of_getElem? (i := 153) (by decide +kernel))) rfl
set_option maxRecDepth 100000 in
theorem qw5_154 : Cond.code yX11_memory cX11_memory 3 (some .int) ∈ LW := lwm (tb5 (List.mem_of_getElem? (i := 154) (by decide +kernel))) rfl
set_option maxRecDepth 100000 in
theorem qw5_155 : Cond.methodLink RL 36 yX11_recalls ∈ LW := lwm (tb5 (List.mem_of_getElem? (i := 155) (by decide +kernel))) rfl
set_option maxRecDepth 100000 in
theorem qw5_156 : Cond.instanceMethod yX11_recalls ∈ LW := lwm (tb5 (List.mem_of_getElem? (i := 156) (by decide +kernel))) rfl
set_option maxRecDepth 100000 in
theorem qw5_157 : Cond.selects RX11 yX11_recalls yX11_recalls ∈ LW := lwm (tb5 (List.mem_of_getElem? (i := 157) (by decide +kernel))) rfl
set_option maxRecDepth 100000 in
theorem qw5_158 : Cond.code yX11_recalls cX11_recalls 6 (some .int) ∈ LW := lwm (tb5 (List.mem_of_getElem? (i := 158) (by decide +kernel))) rfl
set_option maxRecDepth 100000 in
theorem qw5_162 : Cond.methodLink RL 40 yX11_speaks ∈ LW := lwm (tb5 (List.mem_of_getElem? (i := 162) (by decide +kernel))) rfl
set_option maxRecDepth 100000 in
theorem qw5_163 : Cond.instanceMethod yX11_speaks ∈ LW := lwm (tb5 (List.mem_of_getElem? (i := 163) (by decide +kernel))) rfl
set_option maxRecDepth 100000 in
theorem qw5_164 : Cond.selects RX11 yX11_speaks yX11_speaks ∈ LW := lwm (tb5 (List.mem_of_getElem? (i := 164) (by decide +kernel))) rfl
set_option maxRecDepth 100000 in
theorem qw5_165 : Cond.code yX11_speaks cX11_speaks 3 (some .int) ∈ LW := lwm (tb5 (List.mem_of_getElem? (i := 165) (by decide +kernel))) rfl
set_option maxRecDepth 100000 in
theorem qw5_166 : Cond.methodLink RL 44 yX11_owes ∈ LW := lwm (tb5 (List.mem_of_getElem? (i := 166) (by decide +kernel))) rfl
set_option maxRecDepth 100000 in
theorem qw5_167 : Cond.instanceMethod yX11_owes ∈ LW := lwm (tb5 (List.mem_of_getElem? (i := 167) (by decide +kernel))) rfl
set_option maxRecDepth 100000 in
theorem qw5_168 : Cond.selects RX11 yX11_owes yX11_owes ∈ LW := lwm (tb5 (List.mem_of_getElem? (i := 168) (by decide +kernel))) rfl
set_option maxRecDepth 100000 in
theorem qw5_169 : Cond.code yX11_owes cX11_owes 5 (some .int) ∈ LW := lwm (tb5 (List.mem_of_getElem? (i := 169) (by decide +kernel))) rfl
set_option maxRecDepth 100000 in
theorem qw5_170 : Cond.methodLink RL 48 yX11_back ∈ LW := lwm (tb5 (List.mem_of_getElem? (i := 170) (by decide +kernel))) rfl
set_option maxRecDepth 100000 in
theorem qw5_171 : Cond.instanceMethod yX11_back ∈ LW := lwm (tb5 (List.mem_of_getElem? (i := 171) (by decide +kernel))) rfl
set_option maxRecDepth 100000 in
theorem qw5_172 : Cond.selects RX11 yX11_back yX11_back ∈ LW := lwm (tb5 (List.mem_of_getElem? (i := 172) (by decide +kernel))) rfl
set_option maxRecDepth 100000 in
theorem qw5_173 : Cond.code yX11_back cX11_back 2 (some .int) ∈ LW := lwm (tb5 (List.mem_of_getElem? (i := 173) (by decide +kernel))) rfl
set_option maxRecDepth 100000 in
theorem qw5_180 : Cond.methodLink RL 52 yX11_names ∈ LW := lwm (tb5 (List.mem_of_getElem? (i := 180) (by decide +kernel))) rfl
set_option maxRecDepth 100000 in
theorem qw5_181 : Cond.instanceMethod yX11_names ∈ LW := lwm (tb5 (List.mem_of_getElem? (i := 181) (by decide +kernel))) rfl
set_option maxRecDepth 100000 in
theorem qw5_182 : Cond.selects RX11 yX11_names yX11_names ∈ LW := lwm (tb5 (List.mem_of_getElem? (i := 182) (by decide +kernel))) rfl
set_option maxRecDepth 100000 in
theorem qw5_183 : Cond.code yX11_names cX11_names 4 (some .int) ∈ LW := lwm (tb5 (List.mem_of_getElem? (i := 183) (by decide +kernel))) rfl
set_option maxRecDepth 100000 in
theorem qw5_184 : Cond.methodLink RL 56 yX11_turn ∈ LW := lwm (tb5 (List.mem_of_getElem? (i := 184) (by decide +kernel))) rfl
set_option maxRecDepth 100000 in
theorem qw5_185 : Cond.instanceMethod yX11_turn ∈ LW := lwm (tb5 (List.mem_of_getElem? (i := 185) (by decide +kernel))) rfl
set_option maxRecDepth 100000 in
theorem qw5_186 : Cond.selects RX11 yX11_turn yX11_turn ∈ LW := lwm (tb5 (List.mem_of_getElem? (i := 186) (by decide +kernel))) rfl
set_option maxRecDepth 100000 in
theorem qw5_187 : Cond.code yX11_turn cX11_turn 6 (some .int) ∈ LW := lwm (tb5 (List.mem_of_getElem? (i := 187) (by decide +kernel))) rfl
set_option maxRecDepth 100000 in
theorem qw5_188 : Cond.methodLink RL 60 yX11_weeks ∈ LW := lwm (tb5 (List.mem_of_getElem? (i := 188) (by decide +kernel))) rfl
set_option maxRecDepth 100000 in
theorem qw5_189 : Cond.instanceMethod yX11_weeks ∈ LW := lwm (tb5 (List.mem_of_getElem? (i := 189) (by decide +kernel))) rfl
set_option maxRecDepth 100000 in
theorem qw5_190 : Cond.selects RX11 yX11_weeks yX11_weeks ∈ LW := lwm (tb5 (List.mem_of_getElem? (i := 190) (by decide +kernel))) rfl
set_option maxRecDepth 100000 in
theorem qw5_191 : Cond.code yX11_weeks cX11_weeks 2 (some .int) ∈ LW := lwm (tb5 (List.mem_of_getElem? (i := 191) (by decide +kernel))) rfl
set_option maxRecDepth 100000 in
theorem qw5_192 : Cond.methodLink RL 64 yX11_memoryThen ∈ LW := lwm (tb5 (List.mem_of_getElem? (i := 192) (by decide +kernel))) rfl
set_option maxRecDepth 100000 in
theorem qw5_193 : Cond.instanceMethod yX11_memoryThen ∈ LW := lwm (tb5 (List.mem_of_getElem? (i := 193) (by decide +kernel))) rfl
set_option maxRecDepth 100000 in
theorem qw5_194 : Cond.selects RX11 yX11_memoryThen yX11_memoryThen ∈ LW := lwm (tb5 (List.mem_of_getElem? (i := 194) (by decide +kernel))) rfl
set_option maxRecDepth 100000 in
theorem qw5_195 : Cond.code yX11_memoryThen cX11_memoryThen 5 (some .int) ∈ LW := lwm (tb5 (List.mem_of_getElem? (i := 195) (by decide +kernel))) rfl
set_option maxRecDepth 100000 in
theorem qw5_2 : Cond.selects RX10 yX10_count yX10_count ∈ LW := lwm (tb5 (List.mem_of_getElem? (i := 2) (by decide +kernel))) rfl
set_option maxRecDepth 100000 in
theorem qw5_200 : Cond.methodLink RL 68 yX11_knownThen ∈ LW := lwm (tb5 (List.mem_of_getElem? (i := 200) (by decide +kernel))) rfl
set_option maxRecDepth 100000 in
theorem qw5_201 : Cond.instanceMethod yX11_knownThen ∈ LW := lwm (tb5 (List.mem_of_getElem? (i := 201) (by decide +kernel))) rfl
set_option maxRecDepth 100000 in
theorem qw5_202 : Cond.selects RX11 yX11_knownThen yX11_knownThen ∈ LW := lwm (tb5 (List.mem_of_getElem? (i := 202) (by decide +kernel))) rfl
set_option maxRecDepth 100000 in
theorem qw5_203 : Cond.code yX11_knownThen cX11_knownThen 4 (some .int) ∈ LW := lwm (tb5 (List.mem_of_getElem? (i := 203) (by decide +kernel))) rfl
set_option maxRecDepth 100000 in
theorem qw5_204 : Cond.methodLink RL 72 yX11_gone ∈ LW := lwm (tb5 (List.mem_of_getElem? (i := 204) (by decide +kernel))) rfl
set_option maxRecDepth 100000 in
theorem qw5_205 : Cond.instanceMethod yX11_gone ∈ LW := lwm (tb5 (List.mem_of_getElem? (i := 205) (by decide +kernel))) rfl
set_option maxRecDepth 100000 in
theorem qw5_206 : Cond.selects RX11 yX11_gone yX11_gone ∈ LW := lwm (tb5 (List.mem_of_getElem? (i := 206) (by decide +kernel))) rfl
set_option maxRecDepth 100000 in
theorem qw5_207 : Cond.code yX11_gone cX11_gone 3 (some .int) ∈ LW := lwm (tb5 (List.mem_of_getElem? (i := 207) (by decide +kernel))) rfl
set_option maxRecDepth 100000 in
theorem qw5_208 : Cond.methodLink RL 76 yX11_goes ∈ LW := lwm (tb5 (List.mem_of_getElem? (i := 208) (by decide +kernel))) rfl
set_option maxRecDepth 100000 in
theorem qw5_209 : Cond.instanceMethod yX11_goes ∈ LW := lwm (tb5 (List.mem_of_getElem? (i := 209) (by decide +kernel))) rfl
set_option maxRecDepth 100000 in
theorem qw5_210 : Cond.selects RX11 yX11_goes yX11_goes ∈ LW := lwm (tb5 (List.mem_of_getElem? (i := 210) (by decide +kernel))) rfl
set_option maxRecDepth 100000 in
theorem qw5_211 : Cond.code yX11_goes cX11_goes 2 (some .int) ∈ LW := lwm (tb5 (List.mem_of_getElem? (i := 211) (by decide +kernel))) rfl
set_option maxRecDepth 100000 in
theorem qw5_220 : Cond.methodLink RL 80 yX11_next ∈ LW := lwm (tb5 (List.mem_of_getElem? (i := 220) (by decide +kernel))) rfl
set_option maxRecDepth 100000 in
theorem qw5_221 : Cond.instanceMethod yX11_next ∈ LW := lwm (tb5 (List.mem_of_getElem? (i := 221) (by decide +kernel))) rfl
set_option maxRecDepth 100000 in
theorem qw5_222 : Cond.selects RX11 yX11_next yX11_next ∈ LW := lwm (tb5 (List.mem_of_getElem? (i := 222) (by decide +kernel))) rfl
set_option maxRecDepth 100000 in
theorem qw5_223 : Cond.code yX11_next cX11_next 6 (some .int) ∈ LW := lwm (tb5 (List.mem_of_getElem? (i := 223) (by decide +kernel))) rfl
set_option maxRecDepth 100000 in
theorem qw5_229 : Cond.methodLink RL 84 yX11_least ∈ LW := lwm (tb5 (List.mem_of_getElem? (i := 229) (by decide +kernel))) rfl
set_option maxRecDepth 100000 in
theorem qw5_230 : Cond.instanceMethod yX11_least ∈ LW := lwm (tb5 (List.mem_of_getElem? (i := 230) (by decide +kernel))) rfl
set_option maxRecDepth 100000 in
theorem qw5_231 : Cond.selects RX11 yX11_least yX11_least ∈ LW := lwm (tb5 (List.mem_of_getElem? (i := 231) (by decide +kernel))) rfl
set_option maxRecDepth 100000 in
theorem qw5_232 : Cond.code yX11_least cX11_least 4 (some .int) ∈ LW := lwm (tb5 (List.mem_of_getElem? (i := 232) (by decide +kernel))) rfl
set_option maxRecDepth 100000 in
theorem qw5_233 : Cond.methodLink RL 88 yX11_speak ∈ LW := lwm (tb5 (List.mem_of_getElem? (i := 233) (by decide +kernel))) rfl
set_option maxRecDepth 100000 in
theorem qw5_234 : Cond.instanceMethod yX11_speak ∈ LW := lwm (tb5 (List.mem_of_getElem? (i := 234) (by decide +kernel))) rfl
set_option maxRecDepth 100000 in
theorem qw5_235 : Cond.selects RX11 yX11_speak yX11_speak ∈ LW := lwm (tb5 (List.mem_of_getElem? (i := 235) (by decide +kernel))) rfl
set_option maxRecDepth 100000 in
theorem qw5_236 : Cond.code yX11_speak cX11_speak 7 (some .int) ∈ LW := lwm (tb5 (List.mem_of_getElem? (i := 236) (by decide +kernel))) rfl
set_option maxRecDepth 100000 in
theorem qw5_3 : Cond.code yX10_count cX10_count 2 (some .int) ∈ LW := lwm (tb5 (List.mem_of_getElem? (i := 3) (by decide +kernel))) rfl
set_option maxRecDepth 100000 in
theorem qw5_55 : Cond.methodLink RL 17 yX11_letter ∈ LW := lwm (tb5 (List.mem_of_getElem? (i := 55) (by decide +kernel))) rfl
set_option maxRecDepth 100000 in
theorem qw5_56 : Cond.instanceMethod yX11_letter ∈ LW := lwm (tb5 (List.mem_of_getElem? (i := 56) (by decide +kernel))) rfl
set_option maxRecDepth 100000 in
theorem qw5_57 : Cond.selects RX11 yX11_letter yX11_letter ∈ LW := lwm (tb5 (List.mem_of_getElem? (i := 57) (by decide +kernel))) rfl
set_option maxRecDepth 100000 in
theorem qw5_58 : Cond.code yX11_letter cX11_letter 2 (some .int) ∈ LW := lwm (tb5 (List.mem_of_getElem? (i := 58) (by decide +kernel))) rfl
set_option maxRecDepth 100000 in
theorem qw5_63 : Cond.methodLink RL 22 yX11_valley ∈ LW := lwm (tb5 (List.mem_of_getElem? (i := 63) (by decide +kernel))) rfl
set_option maxRecDepth 100000 in
theorem qw5_64 : Cond.instanceMethod yX11_valley ∈ LW := lwm (tb5 (List.mem_of_getElem? (i := 64) (by decide +kernel))) rfl
set_option maxRecDepth 100000 in
theorem qw5_65 : Cond.selects RX11 yX11_valley yX11_valley ∈ LW := lwm (tb5 (List.mem_of_getElem? (i := 65) (by decide +kernel))) rfl
set_option maxRecDepth 100000 in
theorem qw5_66 : Cond.code yX11_valley cX11_valley 6 (some .int) ∈ LW := lwm (tb5 (List.mem_of_getElem? (i := 66) (by decide +kernel))) rfl
set_option maxRecDepth 100000 in
theorem qw6_100 : Cond.methodLink RL 154 yX11_judge ∈ LW := lwm (tb6 (List.mem_of_getElem? (i := 100) (by decide +kernel))) rfl
set_option maxRecDepth 100000 in
theorem qw6_101 : Cond.instanceMethod yX11_judge ∈ LW := lwm (tb6 (List.mem_of_getElem? (i := 101) (by decide +kernel))) rfl
set_option maxRecDepth 100000 in
theorem qw6_102 : Cond.selects RX11 yX11_judge yX11_judge ∈ LW := lwm (tb6 (List.mem_of_getElem? (i := 102) (by decide +kernel))) rfl
set_option maxRecDepth 100000 in
theorem qw6_103 : Cond.code yX11_judge cX11_judge 3 (some .int) ∈ LW := lwm (tb6 (List.mem_of_getElem? (i := 103) (by decide +kernel))) rfl
set_option maxRecDepth 100000 in
theorem qw6_104 : Cond.methodLink RL 158 yX11_clear ∈ LW := lwm (tb6 (List.mem_of_getElem? (i := 104) (by decide +kernel))) rfl
set_option maxRecDepth 100000 in
theorem qw6_105 : Cond.instanceMethod yX11_clear ∈ LW := lwm (tb6 (List.mem_of_getElem? (i := 105) (by decide +kernel))) rfl
set_option maxRecDepth 100000 in
theorem qw6_106 : Cond.selects RX11 yX11_clear yX11_clear ∈ LW := lwm (tb6 (List.mem_of_getElem? (i := 106) (by decide +kernel))) rfl
set_option maxRecDepth 100000 in
theorem qw6_107 : Cond.code yX11_clear cX11_clear 2 (some .int) ∈ LW := lwm (tb6 (List.mem_of_getElem? (i := 107) (by decide +kernel))) rfl
set_option maxRecDepth 100000 in
theorem qw6_108 : Cond.methodLink RL 162 yX11_lots ∈ LW := lwm (tb6 (List.mem_of_getElem? (i := 108) (by decide +kernel))) rfl
set_option maxRecDepth 100000 in
theorem qw6_109 : Cond.instanceMethod yX11_lots ∈ LW := lwm (tb6 (List.mem_of_getElem? (i := 109) (by decide +kernel))) rfl
set_option maxRecDepth 100000 in
theorem qw6_110 : Cond.selects RX11 yX11_lots yX11_lots ∈ LW := lwm (tb6 (List.mem_of_getElem? (i := 110) (by decide +kernel))) rfl
set_option maxRecDepth 100000 in
theorem qw6_111 : Cond.code yX11_lots cX11_lots 8 (some .int) ∈ LW := lwm (tb6 (List.mem_of_getElem? (i := 111) (by decide +kernel))) rfl
set_option maxRecDepth 100000 in
theorem qw6_119 : Cond.methodLink RL 166 yX11_image ∈ LW := lwm (tb6 (List.mem_of_getElem? (i := 119) (by decide +kernel))) rfl
set_option maxRecDepth 100000 in
theorem qw6_12 : Cond.methodLink RL 96 yX11_save ∈ LW := lwm (tb6 (List.mem_of_getElem? (i := 12) (by decide +kernel))) rfl
set_option maxRecDepth 100000 in
theorem qw6_120 : Cond.instanceMethod yX11_image ∈ LW := lwm (tb6 (List.mem_of_getElem? (i := 120) (by decide +kernel))) rfl
set_option maxRecDepth 100000 in
theorem qw6_121 : Cond.selects RX11 yX11_image yX11_image ∈ LW := lwm (tb6 (List.mem_of_getElem? (i := 121) (by decide +kernel))) rfl
set_option maxRecDepth 100000 in
theorem qw6_122 : Cond.code yX11_image cX11_image 1 (some .int) ∈ LW := lwm (tb6 (List.mem_of_getElem? (i := 122) (by decide +kernel))) rfl
set_option maxRecDepth 100000 in
theorem qw6_123 : Cond.methodLink RL 170 yX11_on ∈ LW := lwm (tb6 (List.mem_of_getElem? (i := 123) (by decide +kernel))) rfl
set_option maxRecDepth 100000 in
theorem qw6_124 : Cond.instanceMethod yX11_on ∈ LW := lwm (tb6 (List.mem_of_getElem? (i := 124) (by decide +kernel))) rfl
set_option maxRecDepth 100000 in
theorem qw6_125 : Cond.selects RX11 yX11_on yX11_on ∈ LW := lwm (tb6 (List.mem_of_getElem? (i := 125) (by decide +kernel))) rfl
set_option maxRecDepth 100000 in
theorem qw6_126 : Cond.code yX11_on cX11_on 1 (some .int) ∈ LW := lwm (tb6 (List.mem_of_getElem? (i := 126) (by decide +kernel))) rfl
set_option maxRecDepth 100000 in
theorem qw6_127 : Cond.methodLink RL 174 yX11_count ∈ LW := lwm (tb6 (List.mem_of_getElem? (i := 127) (by decide +kernel))) rfl
set_option maxRecDepth 100000 in
theorem qw6_128 : Cond.instanceMethod yX11_count ∈ LW := lwm (tb6 (List.mem_of_getElem? (i := 128) (by decide +kernel))) rfl
set_option maxRecDepth 100000 in
theorem qw6_129 : Cond.selects RX11 yX11_count yX11_count ∈ LW := lwm (tb6 (List.mem_of_getElem? (i := 129) (by decide +kernel))) rfl
set_option maxRecDepth 100000 in
theorem qw6_13 : Cond.instanceMethod yX11_save ∈ LW := lwm (tb6 (List.mem_of_getElem? (i := 13) (by decide +kernel))) rfl
set_option maxRecDepth 100000 in
theorem qw6_130 : Cond.code yX11_count cX11_count 4 (some .int) ∈ LW := lwm (tb6 (List.mem_of_getElem? (i := 130) (by decide +kernel))) rfl
set_option maxRecDepth 100000 in
theorem qw6_14 : Cond.selects RX11 yX11_save yX11_save ∈ LW := lwm (tb6 (List.mem_of_getElem? (i := 14) (by decide +kernel))) rfl
set_option maxRecDepth 100000 in
theorem qw6_15 : Cond.code yX11_save cX11_save 7 (some .int) ∈ LW := lwm (tb6 (List.mem_of_getElem? (i := 15) (by decide +kernel))) rfl
set_option maxRecDepth 100000 in
theorem qw6_16 : Cond.methodLink RL 100 yX11_bring ∈ LW := lwm (tb6 (List.mem_of_getElem? (i := 16) (by decide +kernel))) rfl
set_option maxRecDepth 100000 in
theorem qw6_17 : Cond.instanceMethod yX11_bring ∈ LW := lwm (tb6 (List.mem_of_getElem? (i := 17) (by decide +kernel))) rfl
set_option maxRecDepth 100000 in
theorem qw6_18 : Cond.selects RX11 yX11_bring yX11_bring ∈ LW := lwm (tb6 (List.mem_of_getElem? (i := 18) (by decide +kernel))) rfl
set_option maxRecDepth 100000 in
theorem qw6_19 : Cond.code yX11_bring cX11_bring 6 (some .int) ∈ LW := lwm (tb6 (List.mem_of_getElem? (i := 19) (by decide +kernel))) rfl
set_option maxRecDepth 100000 in
theorem qw6_20 : Cond.methodLink RL 104 yX11_league ∈ LW := lwm (tb6 (List.mem_of_getElem? (i := 20) (by decide +kernel))) rfl
set_option maxRecDepth 100000 in
theorem qw6_21 : Cond.instanceMethod yX11_league ∈ LW := lwm (tb6 (List.mem_of_getElem? (i := 21) (by decide +kernel))) rfl
set_option maxRecDepth 100000 in
theorem qw6_22 : Cond.selects RX11 yX11_league yX11_league ∈ LW := lwm (tb6 (List.mem_of_getElem? (i := 22) (by decide +kernel))) rfl
set_option maxRecDepth 100000 in
theorem qw6_23 : Cond.code yX11_league cX11_league 5 (some .int) ∈ LW := lwm (tb6 (List.mem_of_getElem? (i := 23) (by decide +kernel))) rfl
set_option maxRecDepth 100000 in
theorem qw6_28 : Cond.methodLink RL 108 yX11_largest ∈ LW := lwm (tb6 (List.mem_of_getElem? (i := 28) (by decide +kernel))) rfl
set_option maxRecDepth 100000 in
theorem qw6_29 : Cond.instanceMethod yX11_largest ∈ LW := lwm (tb6 (List.mem_of_getElem? (i := 29) (by decide +kernel))) rfl
set_option maxRecDepth 100000 in
theorem qw6_30 : Cond.selects RX11 yX11_largest yX11_largest ∈ LW := lwm (tb6 (List.mem_of_getElem? (i := 30) (by decide +kernel))) rfl
set_option maxRecDepth 100000 in
theorem qw6_31 : Cond.code yX11_largest cX11_largest 8 (some .int) ∈ LW := lwm (tb6 (List.mem_of_getElem? (i := 31) (by decide +kernel))) rfl
set_option maxRecDepth 100000 in
theorem qw6_35 : Cond.methodLink RL 112 yX11_cold ∈ LW := lwm (tb6 (List.mem_of_getElem? (i := 35) (by decide +kernel))) rfl
set_option maxRecDepth 100000 in
theorem qw6_36 : Cond.instanceMethod yX11_cold ∈ LW := lwm (tb6 (List.mem_of_getElem? (i := 36) (by decide +kernel))) rfl
set_option maxRecDepth 100000 in
theorem qw6_37 : Cond.selects RX11 yX11_cold yX11_cold ∈ LW := lwm (tb6 (List.mem_of_getElem? (i := 37) (by decide +kernel))) rfl
set_option maxRecDepth 100000 in
theorem qw6_38 : Cond.code yX11_cold cX11_cold 6 (some .int) ∈ LW := lwm (tb6 (List.mem_of_getElem? (i := 38) (by decide +kernel))) rfl
set_option maxRecDepth 100000 in
theorem qw6_39 : Cond.methodLink RL 116 yX11_envy ∈ LW := lwm (tb6 (List.mem_of_getElem? (i := 39) (by decide +kernel))) rfl
set_option maxRecDepth 100000 in
theorem qw6_4 : Cond.methodLink RL 92 yX11_fewest ∈ LW := lwm (tb6 (List.mem_of_getElem? (i := 4) (by decide +kernel))) rfl
set_option maxRecDepth 100000 in
theorem qw6_40 : Cond.instanceMethod yX11_envy ∈ LW := lwm (tb6 (List.mem_of_getElem? (i := 40) (by decide +kernel))) rfl
set_option maxRecDepth 100000 in
theorem qw6_41 : Cond.selects RX11 yX11_envy yX11_envy ∈ LW := lwm (tb6 (List.mem_of_getElem? (i := 41) (by decide +kernel))) rfl
set_option maxRecDepth 100000 in
theorem qw6_42 : Cond.code yX11_envy cX11_envy 5 (some .int) ∈ LW := lwm (tb6 (List.mem_of_getElem? (i := 42) (by decide +kernel))) rfl
set_option maxRecDepth 100000 in
theorem qw6_43 : Cond.methodLink RL 120 yX11_power ∈ LW := lwm (tb6 (List.mem_of_getElem? (i := 43) (by decide +kernel))) rfl
set_option maxRecDepth 100000 in
theorem qw6_44 : Cond.instanceMethod yX11_power ∈ LW := lwm (tb6 (List.mem_of_getElem? (i := 44) (by decide +kernel))) rfl
set_option maxRecDepth 100000 in
theorem qw6_45 : Cond.selects RX11 yX11_power yX11_power ∈ LW := lwm (tb6 (List.mem_of_getElem? (i := 45) (by decide +kernel))) rfl
set_option maxRecDepth 100000 in
theorem qw6_46 : Cond.code yX11_power cX11_power 6 (some .int) ∈ LW := lwm (tb6 (List.mem_of_getElem? (i := 46) (by decide +kernel))) rfl
set_option maxRecDepth 100000 in
theorem qw6_47 : Cond.methodLink RL 124 yX11_voids ∈ LW := lwm (tb6 (List.mem_of_getElem? (i := 47) (by decide +kernel))) rfl
set_option maxRecDepth 100000 in
theorem qw6_48 : Cond.instanceMethod yX11_voids ∈ LW := lwm (tb6 (List.mem_of_getElem? (i := 48) (by decide +kernel))) rfl
set_option maxRecDepth 100000 in
theorem qw6_49 : Cond.selects RX11 yX11_voids yX11_voids ∈ LW := lwm (tb6 (List.mem_of_getElem? (i := 49) (by decide +kernel))) rfl
set_option maxRecDepth 100000 in
theorem qw6_5 : Cond.instanceMethod yX11_fewest ∈ LW := lwm (tb6 (List.mem_of_getElem? (i := 5) (by decide +kernel))) rfl
set_option maxRecDepth 100000 in
theorem qw6_50 : Cond.code yX11_voids cX11_voids 5 (some .int) ∈ LW := lwm (tb6 (List.mem_of_getElem? (i := 50) (by decide +kernel))) rfl
set_option maxRecDepth 100000 in
theorem qw6_51 : Cond.methodLink RL 128 yX11_hill ∈ LW := lwm (tb6 (List.mem_of_getElem? (i := 51) (by decide +kernel))) rfl
set_option maxRecDepth 100000 in
theorem qw6_52 : Cond.instanceMethod yX11_hill ∈ LW := lwm (tb6 (List.mem_of_getElem? (i := 52) (by decide +kernel))) rfl
set_option maxRecDepth 100000 in
theorem qw6_53 : Cond.selects RX11 yX11_hill yX11_hill ∈ LW := lwm (tb6 (List.mem_of_getElem? (i := 53) (by decide +kernel))) rfl
set_option maxRecDepth 100000 in
theorem qw6_54 : Cond.code yX11_hill cX11_hill 4 (some .int) ∈ LW := lwm (tb6 (List.mem_of_getElem? (i := 54) (by decide +kernel))) rfl
set_option maxRecDepth 100000 in
theorem qw6_55 : Cond.methodLink RL 132 yX11_two ∈ LW := lwm (tb6 (List.mem_of_getElem? (i := 55) (by decide +kernel))) rfl
set_option maxRecDepth 100000 in
theorem qw6_56 : Cond.instanceMethod yX11_two ∈ LW := lwm (tb6 (List.mem_of_getElem? (i := 56) (by decide +kernel))) rfl
set_option maxRecDepth 100000 in
theorem qw6_57 : Cond.selects RX11 yX11_two yX11_two ∈ LW := lwm (tb6 (List.mem_of_getElem? (i := 57) (by decide +kernel))) rfl
set_option maxRecDepth 100000 in
theorem qw6_58 : Cond.code yX11_two cX11_two 8 (some .int) ∈ LW := lwm (tb6 (List.mem_of_getElem? (i := 58) (by decide +kernel))) rfl
set_option maxRecDepth 100000 in
theorem qw6_6 : Cond.selects RX11 yX11_fewest yX11_fewest ∈ LW := lwm (tb6 (List.mem_of_getElem? (i := 6) (by decide +kernel))) rfl
set_option maxRecDepth 100000 in
theorem qw6_67 : Cond.methodLink RL 137 yX11_feast ∈ LW := lwm (tb6 (List.mem_of_getElem? (i := 67) (by decide +kernel))) rfl
set_option maxRecDepth 100000 in
theorem qw6_68 : Cond.instanceMethod yX11_feast ∈ LW := lwm (tb6 (List.mem_of_getElem? (i := 68) (by decide +kernel))) rfl
set_option maxRecDepth 100000 in
theorem qw6_69 : Cond.selects RX11 yX11_feast yX11_feast ∈ LW := lwm (tb6 (List.mem_of_getElem? (i := 69) (by decide +kernel))) rfl
set_option maxRecDepth 100000 in
theorem qw6_7 : Cond.code yX11_fewest cX11_fewest 7 (some .int) ∈ LW := lwm (tb6 (List.mem_of_getElem? (i := 7) (by decide +kernel))) rfl
set_option maxRecDepth 100000 in
theorem qw6_70 : Cond.code yX11_feast cX11_feast 13 (some .long) ∈ LW := lwm (tb6 (List.mem_of_getElem? (i := 70) (by decide +kernel))) rfl
set_option maxRecDepth 100000 in
theorem qw6_85 : Cond.methodLink RL 142 yX11_mean ∈ LW := lwm (tb6 (List.mem_of_getElem? (i := 85) (by decide +kernel))) rfl
set_option maxRecDepth 100000 in
theorem qw6_86 : Cond.instanceMethod yX11_mean ∈ LW := lwm (tb6 (List.mem_of_getElem? (i := 86) (by decide +kernel))) rfl
set_option maxRecDepth 100000 in
theorem qw6_87 : Cond.selects RX11 yX11_mean yX11_mean ∈ LW := lwm (tb6 (List.mem_of_getElem? (i := 87) (by decide +kernel))) rfl
set_option maxRecDepth 100000 in
theorem qw6_88 : Cond.code yX11_mean cX11_mean 2 (some .long) ∈ LW := lwm (tb6 (List.mem_of_getElem? (i := 88) (by decide +kernel))) rfl
set_option maxRecDepth 100000 in
theorem qw6_92 : Cond.methodLink RL 146 yX11_whatIs ∈ LW := lwm (tb6 (List.mem_of_getElem? (i := 92) (by decide +kernel))) rfl
set_option maxRecDepth 100000 in
theorem qw6_93 : Cond.instanceMethod yX11_whatIs ∈ LW := lwm (tb6 (List.mem_of_getElem? (i := 93) (by decide +kernel))) rfl
set_option maxRecDepth 100000 in
theorem qw6_94 : Cond.selects RX11 yX11_whatIs yX11_whatIs ∈ LW := lwm (tb6 (List.mem_of_getElem? (i := 94) (by decide +kernel))) rfl
set_option maxRecDepth 100000 in
theorem qw6_95 : Cond.code yX11_whatIs cX11_whatIs 8 (some .int) ∈ LW := lwm (tb6 (List.mem_of_getElem? (i := 95) (by decide +kernel))) rfl
set_option maxRecDepth 100000 in
theorem qw6_96 : Cond.methodLink RL 150 yX11_row ∈ LW := lwm (tb6 (List.mem_of_getElem? (i := 96) (by decide +kernel))) rfl
set_option maxRecDepth 100000 in
theorem qw6_97 : Cond.instanceMethod yX11_row ∈ LW := lwm (tb6 (List.mem_of_getElem? (i := 97) (by decide +kernel))) rfl
set_option maxRecDepth 100000 in
theorem qw6_98 : Cond.selects RX11 yX11_row yX11_row ∈ LW := lwm (tb6 (List.mem_of_getElem? (i := 98) (by decide +kernel))) rfl
set_option maxRecDepth 100000 in
theorem qw6_99 : Cond.code yX11_row cX11_row 3 (some .int) ∈ LW := lwm (tb6 (List.mem_of_getElem? (i := 99) (by decide +kernel))) rfl
/-! the law: its rows -/
theorem cutLX (cI cZ cO : ClassId) (a a' : Nat → Nat) (x x' : XS) (d : DS) : smCut (wX cI cZ cO a x ++ wD cI cZ cO a' d) (wX cI cZ cO a x) (wX cI cZ cO a x') (wX cI cZ cO a x' ++ wD cI cZ cO a' d) := ⟨[0, 1, 2, 3, 4, 5, 6, 7, 8, 9, 10, 11, 12, 13, 14, 15, 16, 17, 18, 19, 20, 21, 22, 23, 24, 25, 26, 27, 28, 29, 30, 31, 32, 33, 34, 35, 36, 37, 38, 39, 40, 41, 42, 43, 44, 45, 46], [47, 48, 49, 50, 51, 52, 53, 54, 55], [9, 10, 11, 12, 13, 14, 15, 16, 17, 18, 19, 20, 21, 22, 23, 24, 25, 26, 27, 28, 29, 30, 31, 32, 33, 34, 35, 36, 37, 38, 39, 40, 41, 42, 43, 44, 45, 46, 47, 48, 49, 50, 51, 52, 53, 54, 55, 0, 1, 2, 3, 4, 5, 6, 7, 8], wD cI cZ cO a' d, rfl, rfl, rfl, rfl, by decide, rfl, rfl⟩
theorem cutLD (cI cZ cO : ClassId) (a a' : Nat → Nat) (x : XS) (d d' : DS) : smCut (wX cI cZ cO a x ++ wD cI cZ cO a' d) (wD cI cZ cO a' d) (wD cI cZ cO a' d') (wX cI cZ cO a x ++ wD cI cZ cO a' d') := ⟨[47, 48, 49, 50, 51, 52, 53, 54, 55], [0, 1, 2, 3, 4, 5, 6, 7, 8, 9, 10, 11, 12, 13, 14, 15, 16, 17, 18, 19, 20, 21, 22, 23, 24, 25, 26, 27, 28, 29, 30, 31, 32, 33, 34, 35, 36, 37, 38, 39, 40, 41, 42, 43, 44, 45, 46], [0, 1, 2, 3, 4, 5, 6, 7, 8, 9, 10, 11, 12, 13, 14, 15, 16, 17, 18, 19, 20, 21, 22, 23, 24, 25, 26, 27, 28, 29, 30, 31, 32, 33, 34, 35, 36, 37, 38, 39, 40, 41, 42, 43, 44, 45, 46, 47, 48, 49, 50, 51, 52, 53, 54, 55], wX cI cZ cO a x, rfl, rfl, rfl, rfl, by decide, rfl, rfl⟩
section SML2
variable {p : Program} {l : Launch} {e : Env} {R : Room} {s : State} {m : MethodId} {args : Array Value} {below : List Frame} {meth : Method} {c : Code} {D : va_G} {A : Nat → Prop} {nL cells slots : Nat} {Q : State → Prop} {cc : ByteArray} {ret : Option FieldType} {own : String} {tys : List (ClassId × FieldType)} {pc : Nat} {lv : List (Nat × Value)} {st : List Value} {ws : va_W}
theorem sm_sld (F : smF p s m args meth c cc nL ret own D tys A) {b L : Nat} {xs : Nat → Int32} (hX : va_X b L xs s s.heap) (hbl : b < s.heap.size) (hbA : ¬ A b) {i : Int32} (hin : vp_in i L) (hdg : decode cc pc = .ok (.iaload, 1)) (kk : Sm p l e R s m args below meth c D A nL cells slots Q (pc + 1) lv (.int (xs i.toNatClampNeg) :: st) ws) : Sm p l e R s m args below meth c D A nL cells slots Q pc lv (.int i :: .ref b :: st) ws := fun ls H locs h1 h2 h3 h4 => va_sld F.1.1 F.1.2.1 hX hbl hbA h4 hin hdg (kk ls H locs h1 h2 h3 h4)
theorem sm_slen (F : smF p s m args meth c cc nL ret own D tys A) {b L : Nat} {xs : Nat → Int32} (hX : va_X b L xs s s.heap) (hbl : b < s.heap.size) (hbA : ¬ A b) (hdg : decode cc pc = .ok (.arraylength, 1)) (kk : Sm p l e R s m args below meth c D A nL cells slots Q (pc + 1) lv (.int (nI L) :: st) ws) : Sm p l e R s m args below meth c D A nL cells slots Q pc lv (.ref b :: st) ws := fun ls H locs h1 h2 h3 h4 => va_slen F.1.1 F.1.2.1 hX hbl hbA h4 hdg (kk ls H locs h1 h2 h3 h4)
theorem sm_useD (kk : (∀ (k q : Nat) (e : va_E), ws[k]? = some (q, e) → A q) → Sm p l e R s m args below meth c D A nL cells slots Q pc lv st ws) : Sm p l e R s m args below meth c D A nL cells slots Q pc lv st ws := fun ls H locs h1 h2 h3 h4 => kk (fun k q e hk => h3.2 k (q, e) hk) ls H locs h1 h2 h3 h4
theorem sm_lawret {b : Nat} (F : smF p s m #[Value.ref b] meth c cL_law nL Jvm.Pilot.CSoManyForgottenLaw_law_r7646_266082.ret own D tys A) (hA : ∀ q, A q → s.heap.size ≤ q) (hdg : decode cL_law pc = .ok (.ireturn, 1)) : Sm p l e room_1 s m #[Value.ref b] below meth c D A nL 56 1216 (lw_Z below #[Value.ref b] s) pc lv [.int 1] ws := fun ls H locs h1 h2 h3 h4 => va_forget (fun q hq => hA _ (h4.2.2 q hq)) (lw_ret F.1.1 F.1.2.1 F.2.2.2.1 F.2.2.2.2 hdg)
end SML2
/-- what the law has at hand all the while -/
def LE (s : State) (b L : Nat) (xs : Nat → Int32) (A : Nat → Prop) (adK adV : Nat → Nat) (zf : Option Nat) : Prop := (va_X b L xs s s.heap ∧ b < s.heap.size ∧ ¬ A b) ∧ (SE adK adV zf A s s.heap ∧ SR adK s) ∧ EN s ∧ L ≤ 2560
theorem vpk {i k L : Nat} (h : i + k < L) (hL : L ≤ 2560) : vp_in (nI i + nI k) L := by rw [nI_add]; exact vpin h (by omega)
theorem lcs (x : Int64) : lg_cmp x x = 0 := by unfold lg_cmp; rw [if_neg Int64.lt_irrefl, if_pos rfl]
set_option maxRecDepth 100000 in
set_option maxHeartbeats 4000000 in
/-- 0: letter -/
theorem lw_c0 {p : Program} {l : Launch} {e : Env} {s : State} {m : MethodId} {below : List Frame} {meth : Method} {c : Code} {D : va_G} {A : Nat → Prop} {cI cZ cO : ClassId} {b L : Nat} {xs : Nat → Int32} {a a' : Nat → Nat} {adK adV : Nat → Nat} {zf : Option Nat} {i : Nat} (F : smF p s m #[Value.ref b] meth c cL_law 4 ret RL D (tyL cI cZ cO) A) (hE : LE s b L xs A adK adV zf) (hi : i + 5 ≤ L) (kk : ∀ (n W : Nat) (x : XS) (d : DS), XR n W x d → Sm p l e room_1 s m #[Value.ref b] below meth c D A 4 56 1216 (lw_Z below #[Value.ref b] s) 1263 [(0, .ref b), (1, .ref (a 0)), (2, .ref (a' 0)), (3, .int (nI i))] [] (wX cI cZ cO a x ++ wD cI cZ cO a' d)) {n W : Nat} {x : XS} {d : DS} (h : XR n W x d) : Sm p l e room_1 s m #[Value.ref b] below meth c D A 4 56 1216 (lw_Z below #[Value.ref b] s) 204 [(0, .ref b), (1, .ref (a 0)), (2, .ref (a' 0)), (3, .int (nI i))] [] (wX cI cZ cO a x ++ wD cI cZ cO a' d) := by
  obtain ⟨r, x', d', n', W', hx, hd, h'⟩ := m_letter h (xs (Int32.toNatClampNeg (nI i + (1 : Int32))))
  refine sm_aload_n F dL_law_204 rfl 1 rfl ?_
  refine sm_aload_n F dL_law_205 rfl 0 rfl ?_
  refine sm_iload_n F dL_law_206 rfl 3 rfl ?_
  refine sm_iconst F dL_law_207 kc_i_1 ?_
  refine sm_iadd F dL_law_208 ?_
  refine sm_sld F hE.1.1 hE.1.2.1 hE.1.2.2 (vpk (k := 1) (by omega) hE.2.2.2) dL_law_209 ?_
  refine sm_callV (rest := []) F (ct_X10_letter l D cI cZ cO a hx) (cutLX cI cZ cO a a' x x' d) rfl rfl rfl qw1_210 qw1_211 qw1_212 qw1_1 qw1_213 hvX10_letter ⟨Nat.le_of_ble_eq_true rfl, Nat.le_of_ble_eq_true rfl⟩ ⟨Nat.le_of_ble_eq_true rfl, Nat.le_of_ble_eq_true rfl⟩ 0 10 rfl rfl rfl rfl (Nat.le_of_ble_eq_true rfl) E0_b (fun _ _ _ _ _ _ => trivial) rfl dL_law_210 [.int r] rfl ?_
  refine sm_aload_n F dL_law_213 rfl 2 rfl ?_
  refine sm_aload_n F dL_law_214 rfl 0 rfl ?_
  refine sm_iload_n F dL_law_215 rfl 3 rfl ?_
  refine sm_iconst F dL_law_216 kc_i_1 ?_
  refine sm_iadd F dL_law_217 ?_
  refine sm_sld F hE.1.1 hE.1.2.1 hE.1.2.2 (vpk (k := 1) (by omega) hE.2.2.2) dL_law_218 ?_
  refine sm_callV (rest := [.int r]) F (ct_X11_letter l D cI cZ cO a' hd) (cutLD cI cZ cO a a' x' d d') rfl rfl rfl qw5_55 qw5_56 qw5_57 qw1_12 qw5_58 hvX11_letter ⟨Nat.le_of_ble_eq_true rfl, Nat.le_of_ble_eq_true rfl⟩ ⟨Nat.le_of_ble_eq_true rfl, Nat.le_of_ble_eq_true rfl⟩ 0 11 rfl rfl rfl rfl (Nat.le_of_ble_eq_true rfl) E0_b (fun _ _ _ _ _ _ => trivial) rfl dL_law_219 [.int r, .int r] rfl ?_
  exact sm_icmp_eq (tgt := 1263) F dL_law_222 (by decide) (fun _ => kk n' W' x' d' h') (fun z => absurd rfl z)
set_option maxRecDepth 100000 in
set_option maxHeartbeats 4000000 in
/-- 1: valley -/
theorem lw_c1 {p : Program} {l : Launch} {e : Env} {s : State} {m : MethodId} {below : List Frame} {meth : Method} {c : Code} {D : va_G} {A : Nat → Prop} {cI cZ cO : ClassId} {b L : Nat} {xs : Nat → Int32} {a a' : Nat → Nat} {adK adV : Nat → Nat} {zf : Option Nat} {i : Nat} (F : smF p s m #[Value.ref b] meth c cL_law 4 ret RL D (tyL cI cZ cO) A) (hE : LE s b L xs A adK adV zf) (hi : i + 5 ≤ L) (kk : ∀ (n W : Nat) (x : XS) (d : DS), XR n W x d → Sm p l e room_1 s m #[Value.ref b] below meth c D A 4 56 1216 (lw_Z below #[Value.ref b] s) 1263 [(0, .ref b), (1, .ref (a 0)), (2, .ref (a' 0)), (3, .int (nI i))] [] (wX cI cZ cO a x ++ wD cI cZ cO a' d)) {n W : Nat} {x : XS} {d : DS} (h : XR n W x d) : Sm p l e room_1 s m #[Value.ref b] below meth c D A 4 56 1216 (lw_Z below #[Value.ref b] s) 227 [(0, .ref b), (1, .ref (a 0)), (2, .ref (a' 0)), (3, .int (nI i))] [] (wX cI cZ cO a x ++ wD cI cZ cO a' d) := by
  refine sm_useD (fun hAd => ?_)
  have hAX : ∀ (k q : Nat) (e : va_E), (wX cI cZ cO a x)[k]? = some (q, e) → A q := fun k q e hk => hAd k q e (by rw [List.getElem?_append_left (List.getElem?_eq_some_iff.mp hk).1]; exact hk)
  obtain ⟨r, x', d', n', W', hx, hd, h'⟩ := m_valley h 
  refine sm_aload_n F dL_law_227 rfl 1 rfl ?_
  refine sm_callV (rest := []) F (ct_X10_valley l D cI cZ cO a adK adV zf hx) (cutLX cI cZ cO a a' x x' d) rfl rfl rfl qw1_236 qw1_237 qw1_238 qw1_1 qw1_239 hvX10_valley ⟨Nat.le_of_ble_eq_true rfl, Nat.le_of_ble_eq_true rfl⟩ ⟨Nat.le_of_ble_eq_true rfl, Nat.le_of_ble_eq_true rfl⟩ 0 10 rfl rfl rfl rfl (Nat.le_of_ble_eq_true rfl) ES_b (ES_w hE.2.1.1 hE.2.1.2 F.2.2.1 hAX) rfl dL_law_228 [.int r] rfl ?_
  refine sm_aload_n F dL_law_231 rfl 2 rfl ?_
  refine sm_callV (rest := [.int r]) F (ct_X11_valley l D cI cZ cO a' hd) (cutLD cI cZ cO a a' x' d d') rfl rfl rfl qw5_63 qw5_64 qw5_65 qw1_12 qw5_66 hvX11_valley ⟨Nat.le_of_ble_eq_true rfl, Nat.le_of_ble_eq_true rfl⟩ ⟨Nat.le_of_ble_eq_true rfl, Nat.le_of_ble_eq_true rfl⟩ 0 11 rfl rfl rfl rfl (Nat.le_of_ble_eq_true rfl) E0_b (fun _ _ _ _ _ _ => trivial) rfl dL_law_232 [.int r, .int r] rfl ?_
  exact sm_icmp_eq (tgt := 1263) F dL_law_235 (by decide) (fun _ => kk n' W' x' d' h') (fun z => absurd rfl z)
set_option maxRecDepth 100000 in
set_option maxHeartbeats 4000000 in
/-- 2: person -/
theorem lw_c2 {p : Program} {l : Launch} {e : Env} {s : State} {m : MethodId} {below : List Frame} {meth : Method} {c : Code} {D : va_G} {A : Nat → Prop} {cI cZ cO : ClassId} {b L : Nat} {xs : Nat → Int32} {a a' : Nat → Nat} {adK adV : Nat → Nat} {zf : Option Nat} {i : Nat} (F : smF p s m #[Value.ref b] meth c cL_law 4 ret RL D (tyL cI cZ cO) A) (hE : LE s b L xs A adK adV zf) (hi : i + 5 ≤ L) (kk : ∀ (n W : Nat) (x : XS) (d : DS), XR n W x d → Sm p l e room_1 s m #[Value.ref b] below meth c D A 4 56 1216 (lw_Z below #[Value.ref b] s) 1263 [(0, .ref b), (1, .ref (a 0)), (2, .ref (a' 0)), (3, .int (nI i))] [] (wX cI cZ cO a x ++ wD cI cZ cO a' d)) {n W : Nat} {x : XS} {d : DS} (h : XR n W x d) : Sm p l e room_1 s m #[Value.ref b] below meth c D A 4 56 1216 (lw_Z below #[Value.ref b] s) 240 [(0, .ref b), (1, .ref (a 0)), (2, .ref (a' 0)), (3, .int (nI i))] [] (wX cI cZ cO a x ++ wD cI cZ cO a' d) := by
  obtain ⟨r, x', d', n', W', hx, hd, h'⟩ := m_person h (xs (Int32.toNatClampNeg (nI i + (1 : Int32)))) (xs (Int32.toNatClampNeg (nI i + (2 : Int32))))
  refine sm_aload_n F dL_law_240 rfl 1 rfl ?_
  refine sm_aload_n F dL_law_241 rfl 0 rfl ?_
  refine sm_iload_n F dL_law_242 rfl 3 rfl ?_
  refine sm_iconst F dL_law_243 kc_i_1 ?_
  refine sm_iadd F dL_law_244 ?_
  refine sm_sld F hE.1.1 hE.1.2.1 hE.1.2.2 (vpk (k := 1) (by omega) hE.2.2.2) dL_law_245 ?_
  refine sm_aload_n F dL_law_246 rfl 0 rfl ?_
  refine sm_iload_n F dL_law_247 rfl 3 rfl ?_
  refine sm_iconst F dL_law_248 kc_i_2 ?_
  refine sm_iadd F dL_law_249 ?_
  refine sm_sld F hE.1.1 hE.1.2.1 hE.1.2.2 (vpk (k := 2) (by omega) hE.2.2.2) dL_law_250 ?_
  refine sm_callV (rest := []) F (ct_X10_person l D cI cZ cO a hx) (cutLX cI cZ cO a a' x x' d) rfl rfl rfl qw3_48 qw3_49 qw3_50 qw1_1 qw3_51 hvX10_person ⟨Nat.le_of_ble_eq_true rfl, Nat.le_of_ble_eq_true rfl⟩ ⟨Nat.le_of_ble_eq_true rfl, Nat.le_of_ble_eq_true rfl⟩ 0 10 rfl rfl rfl rfl (Nat.le_of_ble_eq_true rfl) E0_b (fun _ _ _ _ _ _ => trivial) rfl dL_law_251 [.int r] rfl ?_
  refine sm_aload_n F dL_law_254 rfl 2 rfl ?_
  refine sm_aload_n F dL_law_255 rfl 0 rfl ?_
  refine sm_iload_n F dL_law_256 rfl 3 rfl ?_
  refine sm_iconst F dL_law_257 kc_i_1 ?_
  refine sm_iadd F dL_law_258 ?_
  refine sm_sld F hE.1.1 hE.1.2.1 hE.1.2.2 (vpk (k := 1) (by omega) hE.2.2.2) dL_law_259 ?_
  refine sm_aload_n F dL_law_260 rfl 0 rfl ?_
  refine sm_iload_n F dL_law_261 rfl 3 rfl ?_
  refine sm_iconst F dL_law_262 kc_i_2 ?_
  refine sm_iadd F dL_law_263 ?_
  refine sm_sld F hE.1.1 hE.1.2.1 hE.1.2.2 (vpk (k := 2) (by omega) hE.2.2.2) dL_law_264 ?_
  refine sm_callV (rest := [.int r]) F (ct_X11_person l D cI cZ cO a' hd) (cutLD cI cZ cO a a' x' d d') rfl rfl rfl qw5_147 qw5_148 qw5_149 qw1_12 qw5_150 hvX11_person ⟨Nat.le_of_ble_eq_true rfl, Nat.le_of_ble_eq_true rfl⟩ ⟨Nat.le_of_ble_eq_true rfl, Nat.le_of_ble_eq_true rfl⟩ 0 11 rfl rfl rfl rfl (Nat.le_of_ble_eq_true rfl) E0_b (fun _ _ _ _ _ _ => trivial) rfl dL_law_265 [.int r, .int r] rfl ?_
  exact sm_icmp_eq (tgt := 1263) F dL_law_268 (by decide) (fun _ => kk n' W' x' d' h') (fun z => absurd rfl z)
set_option maxRecDepth 100000 in
set_option maxHeartbeats 4000000 in
/-- 3: memory -/
theorem lw_c3 {p : Program} {l : Launch} {e : Env} {s : State} {m : MethodId} {below : List Frame} {meth : Method} {c : Code} {D : va_G} {A : Nat → Prop} {cI cZ cO : ClassId} {b L : Nat} {xs : Nat → Int32} {a a' : Nat → Nat} {adK adV : Nat → Nat} {zf : Option Nat} {i : Nat} (F : smF p s m #[Value.ref b] meth c cL_law 4 ret RL D (tyL cI cZ cO) A) (hE : LE s b L xs A adK adV zf) (hi : i + 5 ≤ L) (kk : ∀ (n W : Nat) (x : XS) (d : DS), XR n W x d → Sm p l e room_1 s m #[Value.ref b] below meth c D A 4 56 1216 (lw_Z below #[Value.ref b] s) 1263 [(0, .ref b), (1, .ref (a 0)), (2, .ref (a' 0)), (3, .int (nI i))] [] (wX cI cZ cO a x ++ wD cI cZ cO a' d)) {n W : Nat} {x : XS} {d : DS} (h : XR n W x d) : Sm p l e room_1 s m #[Value.ref b] below meth c D A 4 56 1216 (lw_Z below #[Value.ref b] s) 273 [(0, .ref b), (1, .ref (a 0)), (2, .ref (a' 0)), (3, .int (nI i))] [] (wX cI cZ cO a x ++ wD cI cZ cO a' d) := by
  obtain ⟨r, x', d', n', W', hx, hd, h'⟩ := m_memory h (xs (Int32.toNatClampNeg (nI i + (1 : Int32)))) (xs (Int32.toNatClampNeg (nI i + (2 : Int32))))
  refine sm_aload_n F dL_law_273 rfl 1 rfl ?_
  refine sm_aload_n F dL_law_274 rfl 0 rfl ?_
  refine sm_iload_n F dL_law_275 rfl 3 rfl ?_
  refine sm_iconst F dL_law_276 kc_i_1 ?_
  refine sm_iadd F dL_law_277 ?_
  refine sm_sld F hE.1.1 hE.1.2.1 hE.1.2.2 (vpk (k := 1) (by omega) hE.2.2.2) dL_law_278 ?_
  refine sm_aload_n F dL_law_279 rfl 0 rfl ?_
  refine sm_iload_n F dL_law_280 rfl 3 rfl ?_
  refine sm_iconst F dL_law_281 kc_i_2 ?_
  refine sm_iadd F dL_law_282 ?_
  refine sm_sld F hE.1.1 hE.1.2.1 hE.1.2.2 (vpk (k := 2) (by omega) hE.2.2.2) dL_law_283 ?_
  refine sm_callV (rest := []) F (ct_X10_memory l D cI cZ cO a hx) (cutLX cI cZ cO a a' x x' d) rfl rfl rfl qw3_65 qw3_66 qw3_67 qw1_1 qw3_68 hvX10_memory ⟨Nat.le_of_ble_eq_true rfl, Nat.le_of_ble_eq_true rfl⟩ ⟨Nat.le_of_ble_eq_true rfl, Nat.le_of_ble_eq_true rfl⟩ 0 10 rfl rfl rfl rfl (Nat.le_of_ble_eq_true rfl) E0_b (fun _ _ _ _ _ _ => trivial) rfl dL_law_284 [.int r] rfl ?_
  refine sm_aload_n F dL_law_287 rfl 2 rfl ?_
  refine sm_aload_n F dL_law_288 rfl 0 rfl ?_
  refine sm_iload_n F dL_law_289 rfl 3 rfl ?_
  refine sm_iconst F dL_law_290 kc_i_1 ?_
  refine sm_iadd F dL_law_291 ?_
  refine sm_sld F hE.1.1 hE.1.2.1 hE.1.2.2 (vpk (k := 1) (by omega) hE.2.2.2) dL_law_292 ?_
  refine sm_aload_n F dL_law_293 rfl 0 rfl ?_
  refine sm_iload_n F dL_law_294 rfl 3 rfl ?_
  refine sm_iconst F dL_law_295 kc_i_2 ?_
  refine sm_iadd F dL_law_296 ?_
  refine sm_sld F hE.1.1 hE.1.2.1 hE.1.2.2 (vpk (k := 2) (by omega) hE.2.2.2) dL_law_297 ?_
  refine sm_callV (rest := [.int r]) F (ct_X11_memory l D cI cZ cO a' hd) (cutLD cI cZ cO a a' x' d d') rfl rfl rfl qw5_151 qw5_152 qw5_153 qw1_12 qw5_154 hvX11_memory ⟨Nat.le_of_ble_eq_true rfl, Nat.le_of_ble_eq_true rfl⟩ ⟨Nat.le_of_ble_eq_true rfl, Nat.le_of_ble_eq_true rfl⟩ 0 11 rfl rfl rfl rfl (Nat.le_of_ble_eq_true rfl) E0_b (fun _ _ _ _ _ _ => trivial) rfl dL_law_298 [.int r, .int r] rfl ?_
  exact sm_icmp_eq (tgt := 1263) F dL_law_301 (by decide) (fun _ => kk n' W' x' d' h') (fun z => absurd rfl z)
set_option maxRecDepth 100000 in
set_option maxHeartbeats 4000000 in
/-- 4: recalls -/
theorem lw_c4 {p : Program} {l : Launch} {e : Env} {s : State} {m : MethodId} {below : List Frame} {meth : Method} {c : Code} {D : va_G} {A : Nat → Prop} {cI cZ cO : ClassId} {b L : Nat} {xs : Nat → Int32} {a a' : Nat → Nat} {adK adV : Nat → Nat} {zf : Option Nat} {i : Nat} (F : smF p s m #[Value.ref b] meth c cL_law 4 ret RL D (tyL cI cZ cO) A) (hE : LE s b L xs A adK adV zf) (hi : i + 5 ≤ L) (kk : ∀ (n W : Nat) (x : XS) (d : DS), XR n W x d → Sm p l e room_1 s m #[Value.ref b] below meth c D A 4 56 1216 (lw_Z below #[Value.ref b] s) 1263 [(0, .ref b), (1, .ref (a 0)), (2, .ref (a' 0)), (3, .int (nI i))] [] (wX cI cZ cO a x ++ wD cI cZ cO a' d)) {n W : Nat} {x : XS} {d : DS} (h : XR n W x d) : Sm p l e room_1 s m #[Value.ref b] below meth c D A 4 56 1216 (lw_Z below #[Value.ref b] s) 306 [(0, .ref b), (1, .ref (a 0)), (2, .ref (a' 0)), (3, .int (nI i))] [] (wX cI cZ cO a x ++ wD cI cZ cO a' d) := by
  obtain ⟨r, x', d', n', W', hx, hd, h'⟩ := m_recalls h (xs (Int32.toNatClampNeg (nI i + (1 : Int32)))) (xs (Int32.toNatClampNeg (nI i + (2 : Int32)))) (xs (Int32.toNatClampNeg (nI i + (3 : Int32))))
  refine sm_aload_n F dL_law_306 rfl 1 rfl ?_
  refine sm_aload_n F dL_law_307 rfl 0 rfl ?_
  refine sm_iload_n F dL_law_308 rfl 3 rfl ?_
  refine sm_iconst F dL_law_309 kc_i_1 ?_
  refine sm_iadd F dL_law_310 ?_
  refine sm_sld F hE.1.1 hE.1.2.1 hE.1.2.2 (vpk (k := 1) (by omega) hE.2.2.2) dL_law_311 ?_
  refine sm_aload_n F dL_law_312 rfl 0 rfl ?_
  refine sm_iload_n F dL_law_313 rfl 3 rfl ?_
  refine sm_iconst F dL_law_314 kc_i_2 ?_
  refine sm_iadd F dL_law_315 ?_
  refine sm_sld F hE.1.1 hE.1.2.1 hE.1.2.2 (vpk (k := 2) (by omega) hE.2.2.2) dL_law_316 ?_
  refine sm_aload_n F dL_law_317 rfl 0 rfl ?_
  refine sm_iload_n F dL_law_318 rfl 3 rfl ?_
  refine sm_iconst F dL_law_319 kc_i_3 ?_
  refine sm_iadd F dL_law_320 ?_
  refine sm_sld F hE.1.1 hE.1.2.1 hE.1.2.2 (vpk (k := 3) (by omega) hE.2.2.2) dL_law_321 ?_
  refine sm_callV (rest := []) F (ct_X10_recalls l D cI cZ cO a hx) (cutLX cI cZ cO a a' x x' d) rfl rfl rfl qw3_82 qw3_83 qw3_84 qw1_1 qw3_85 hvX10_recalls ⟨Nat.le_of_ble_eq_true rfl, Nat.le_of_ble_eq_true rfl⟩ ⟨Nat.le_of_ble_eq_true rfl, Nat.le_of_ble_eq_true rfl⟩ 0 10 rfl rfl rfl rfl (Nat.le_of_ble_eq_true rfl) E0_b (fun _ _ _ _ _ _ => trivial) rfl dL_law_322 [.int r] rfl ?_
  refine sm_aload_n F dL_law_325 rfl 2 rfl ?_
  refine sm_aload_n F dL_law_326 rfl 0 rfl ?_
  refine sm_iload_n F dL_law_327 rfl 3 rfl ?_
  refine sm_iconst F dL_law_328 kc_i_1 ?_
  refine sm_iadd F dL_law_329 ?_
  refine sm_sld F hE.1.1 hE.1.2.1 hE.1.2.2 (vpk (k := 1) (by omega) hE.2.2.2) dL_law_330 ?_
  refine sm_aload_n F dL_law_331 rfl 0 rfl ?_
  refine sm_iload_n F dL_law_332 rfl 3 rfl ?_
  refine sm_iconst F dL_law_333 kc_i_2 ?_
  refine sm_iadd F dL_law_334 ?_
  refine sm_sld F hE.1.1 hE.1.2.1 hE.1.2.2 (vpk (k := 2) (by omega) hE.2.2.2) dL_law_335 ?_
  refine sm_aload_n F dL_law_336 rfl 0 rfl ?_
  refine sm_iload_n F dL_law_337 rfl 3 rfl ?_
  refine sm_iconst F dL_law_338 kc_i_3 ?_
  refine sm_iadd F dL_law_339 ?_
  refine sm_sld F hE.1.1 hE.1.2.1 hE.1.2.2 (vpk (k := 3) (by omega) hE.2.2.2) dL_law_340 ?_
  refine sm_callV (rest := [.int r]) F (ct_X11_recalls l D cI cZ cO a' hd) (cutLD cI cZ cO a a' x' d d') rfl rfl rfl qw5_155 qw5_156 qw5_157 qw1_12 qw5_158 hvX11_recalls ⟨Nat.le_of_ble_eq_true rfl, Nat.le_of_ble_eq_true rfl⟩ ⟨Nat.le_of_ble_eq_true rfl, Nat.le_of_ble_eq_true rfl⟩ 0 11 rfl rfl rfl rfl (Nat.le_of_ble_eq_true rfl) E0_b (fun _ _ _ _ _ _ => trivial) rfl dL_law_341 [.int r, .int r] rfl ?_
  exact sm_icmp_eq (tgt := 1263) F dL_law_344 (by decide) (fun _ => kk n' W' x' d' h') (fun z => absurd rfl z)
set_option maxRecDepth 100000 in
set_option maxHeartbeats 4000000 in
/-- 5: speaks -/
theorem lw_c5 {p : Program} {l : Launch} {e : Env} {s : State} {m : MethodId} {below : List Frame} {meth : Method} {c : Code} {D : va_G} {A : Nat → Prop} {cI cZ cO : ClassId} {b L : Nat} {xs : Nat → Int32} {a a' : Nat → Nat} {adK adV : Nat → Nat} {zf : Option Nat} {i : Nat} (F : smF p s m #[Value.ref b] meth c cL_law 4 ret RL D (tyL cI cZ cO) A) (hE : LE s b L xs A adK adV zf) (hi : i + 5 ≤ L) (kk : ∀ (n W : Nat) (x : XS) (d : DS), XR n W x d → Sm p l e room_1 s m #[Value.ref b] below meth c D A 4 56 1216 (lw_Z below #[Value.ref b] s) 1263 [(0, .ref b), (1, .ref (a 0)), (2, .ref (a' 0)), (3, .int (nI i))] [] (wX cI cZ cO a x ++ wD cI cZ cO a' d)) {n W : Nat} {x : XS} {d : DS} (h : XR n W x d) : Sm p l e room_1 s m #[Value.ref b] below meth c D A 4 56 1216 (lw_Z below #[Value.ref b] s) 349 [(0, .ref b), (1, .ref (a 0)), (2, .ref (a' 0)), (3, .int (nI i))] [] (wX cI cZ cO a x ++ wD cI cZ cO a' d) := by
  obtain ⟨r, x', d', n', W', hx, hd, h'⟩ := m_speaks h (xs (Int32.toNatClampNeg (nI i + (1 : Int32)))) (xs (Int32.toNatClampNeg (nI i + (2 : Int32))))
  refine sm_aload_n F dL_law_349 rfl 1 rfl ?_
  refine sm_aload_n F dL_law_350 rfl 0 rfl ?_
  refine sm_iload_n F dL_law_351 rfl 3 rfl ?_
  refine sm_iconst F dL_law_352 kc_i_1 ?_
  refine sm_iadd F dL_law_353 ?_
  refine sm_sld F hE.1.1 hE.1.2.1 hE.1.2.2 (vpk (k := 1) (by omega) hE.2.2.2) dL_law_354 ?_
  refine sm_aload_n F dL_law_355 rfl 0 rfl ?_
  refine sm_iload_n F dL_law_356 rfl 3 rfl ?_
  refine sm_iconst F dL_law_357 kc_i_2 ?_
  refine sm_iadd F dL_law_358 ?_
  refine sm_sld F hE.1.1 hE.1.2.1 hE.1.2.2 (vpk (k := 2) (by omega) hE.2.2.2) dL_law_359 ?_
  refine sm_callV (rest := []) F (ct_X10_speaks l D cI cZ cO a hx) (cutLX cI cZ cO a a' x x' d) rfl rfl rfl qw3_87 qw3_88 qw3_89 qw1_1 qw3_90 hvX10_speaks ⟨Nat.le_of_ble_eq_true rfl, Nat.le_of_ble_eq_true rfl⟩ ⟨Nat.le_of_ble_eq_true rfl, Nat.le_of_ble_eq_true rfl⟩ 0 10 rfl rfl rfl rfl (Nat.le_of_ble_eq_true rfl) E0_b (fun _ _ _ _ _ _ => trivial) rfl dL_law_360 [.int r] rfl ?_
  refine sm_aload_n F dL_law_363 rfl 2 rfl ?_
  refine sm_aload_n F dL_law_364 rfl 0 rfl ?_
  refine sm_iload_n F dL_law_365 rfl 3 rfl ?_
  refine sm_iconst F dL_law_366 kc_i_1 ?_
  refine sm_iadd F dL_law_367 ?_
  refine sm_sld F hE.1.1 hE.1.2.1 hE.1.2.2 (vpk (k := 1) (by omega) hE.2.2.2) dL_law_368 ?_
  refine sm_aload_n F dL_law_369 rfl 0 rfl ?_
  refine sm_iload_n F dL_law_370 rfl 3 rfl ?_
  refine sm_iconst F dL_law_371 kc_i_2 ?_
  refine sm_iadd F dL_law_372 ?_
  refine sm_sld F hE.1.1 hE.1.2.1 hE.1.2.2 (vpk (k := 2) (by omega) hE.2.2.2) dL_law_373 ?_
  refine sm_callV (rest := [.int r]) F (ct_X11_speaks l D cI cZ cO a' hd) (cutLD cI cZ cO a a' x' d d') rfl rfl rfl qw5_162 qw5_163 qw5_164 qw1_12 qw5_165 hvX11_speaks ⟨Nat.le_of_ble_eq_true rfl, Nat.le_of_ble_eq_true rfl⟩ ⟨Nat.le_of_ble_eq_true rfl, Nat.le_of_ble_eq_true rfl⟩ 0 11 rfl rfl rfl rfl (Nat.le_of_ble_eq_true rfl) E0_b (fun _ _ _ _ _ _ => trivial) rfl dL_law_374 [.int r, .int r] rfl ?_
  exact sm_icmp_eq (tgt := 1263) F dL_law_377 (by decide) (fun _ => kk n' W' x' d' h') (fun z => absurd rfl z)
set_option maxRecDepth 100000 in
set_option maxHeartbeats 4000000 in
/-- 6: owes -/
theorem lw_c6 {p : Program} {l : Launch} {e : Env} {s : State} {m : MethodId} {below : List Frame} {meth : Method} {c : Code} {D : va_G} {A : Nat → Prop} {cI cZ cO : ClassId} {b L : Nat} {xs : Nat → Int32} {a a' : Nat → Nat} {adK adV : Nat → Nat} {zf : Option Nat} {i : Nat} (F : smF p s m #[Value.ref b] meth c cL_law 4 ret RL D (tyL cI cZ cO) A) (hE : LE s b L xs A adK adV zf) (hi : i + 5 ≤ L) (kk : ∀ (n W : Nat) (x : XS) (d : DS), XR n W x d → Sm p l e room_1 s m #[Value.ref b] below meth c D A 4 56 1216 (lw_Z below #[Value.ref b] s) 1263 [(0, .ref b), (1, .ref (a 0)), (2, .ref (a' 0)), (3, .int (nI i))] [] (wX cI cZ cO a x ++ wD cI cZ cO a' d)) {n W : Nat} {x : XS} {d : DS} (h : XR n W x d) : Sm p l e room_1 s m #[Value.ref b] below meth c D A 4 56 1216 (lw_Z below #[Value.ref b] s) 382 [(0, .ref b), (1, .ref (a 0)), (2, .ref (a' 0)), (3, .int (nI i))] [] (wX cI cZ cO a x ++ wD cI cZ cO a' d) := by
  obtain ⟨r, x', d', n', W', hx, hd, h'⟩ := m_owes h (xs (Int32.toNatClampNeg (nI i + (1 : Int32)))) (xs (Int32.toNatClampNeg (nI i + (2 : Int32))))
  refine sm_aload_n F dL_law_382 rfl 1 rfl ?_
  refine sm_aload_n F dL_law_383 rfl 0 rfl ?_
  refine sm_iload_n F dL_law_384 rfl 3 rfl ?_
  refine sm_iconst F dL_law_385 kc_i_1 ?_
  refine sm_iadd F dL_law_386 ?_
  refine sm_sld F hE.1.1 hE.1.2.1 hE.1.2.2 (vpk (k := 1) (by omega) hE.2.2.2) dL_law_387 ?_
  refine sm_aload_n F dL_law_388 rfl 0 rfl ?_
  refine sm_iload_n F dL_law_389 rfl 3 rfl ?_
  refine sm_iconst F dL_law_390 kc_i_2 ?_
  refine sm_iadd F dL_law_391 ?_
  refine sm_sld F hE.1.1 hE.1.2.1 hE.1.2.2 (vpk (k := 2) (by omega) hE.2.2.2) dL_law_392 ?_
  refine sm_callV (rest := []) F (ct_X10_owes l D cI cZ cO a hx) (cutLX cI cZ cO a a' x x' d) rfl rfl rfl qw3_100 qw3_101 qw3_102 qw1_1 qw3_103 hvX10_owes ⟨Nat.le_of_ble_eq_true rfl, Nat.le_of_ble_eq_true rfl⟩ ⟨Nat.le_of_ble_eq_true rfl, Nat.le_of_ble_eq_true rfl⟩ 0 10 rfl rfl rfl rfl (Nat.le_of_ble_eq_true rfl) E0_b (fun _ _ _ _ _ _ => trivial) rfl dL_law_393 [.int r] rfl ?_
  refine sm_aload_n F dL_law_396 rfl 2 rfl ?_
  refine sm_aload_n F dL_law_397 rfl 0 rfl ?_
  refine sm_iload_n F dL_law_398 rfl 3 rfl ?_
  refine sm_iconst F dL_law_399 kc_i_1 ?_
  refine sm_iadd F dL_law_400 ?_
  refine sm_sld F hE.1.1 hE.1.2.1 hE.1.2.2 (vpk (k := 1) (by omega) hE.2.2.2) dL_law_401 ?_
  refine sm_aload_n F dL_law_402 rfl 0 rfl ?_
  refine sm_iload_n F dL_law_403 rfl 3 rfl ?_
  refine sm_iconst F dL_law_404 kc_i_2 ?_
  refine sm_iadd F dL_law_405 ?_
  refine sm_sld F hE.1.1 hE.1.2.1 hE.1.2.2 (vpk (k := 2) (by omega) hE.2.2.2) dL_law_406 ?_
  refine sm_callV (rest := [.int r]) F (ct_X11_owes l D cI cZ cO a' hd) (cutLD cI cZ cO a a' x' d d') rfl rfl rfl qw5_166 qw5_167 qw5_168 qw1_12 qw5_169 hvX11_owes ⟨Nat.le_of_ble_eq_true rfl, Nat.le_of_ble_eq_true rfl⟩ ⟨Nat.le_of_ble_eq_true rfl, Nat.le_of_ble_eq_true rfl⟩ 0 11 rfl rfl rfl rfl (Nat.le_of_ble_eq_true rfl) E0_b (fun _ _ _ _ _ _ => trivial) rfl dL_law_407 [.int r, .int r] rfl ?_
  exact sm_icmp_eq (tgt := 1263) F dL_law_410 (by decide) (fun _ => kk n' W' x' d' h') (fun z => absurd rfl z)
set_option maxRecDepth 100000 in
set_option maxHeartbeats 4000000 in
/-- 7: back -/
theorem lw_c7 {p : Program} {l : Launch} {e : Env} {s : State} {m : MethodId} {below : List Frame} {meth : Method} {c : Code} {D : va_G} {A : Nat → Prop} {cI cZ cO : ClassId} {b L : Nat} {xs : Nat → Int32} {a a' : Nat → Nat} {adK adV : Nat → Nat} {zf : Option Nat} {i : Nat} (F : smF p s m #[Value.ref b] meth c cL_law 4 ret RL D (tyL cI cZ cO) A) (hE : LE s b L xs A adK adV zf) (hi : i + 5 ≤ L) (kk : ∀ (n W : Nat) (x : XS) (d : DS), XR n W x d → Sm p l e room_1 s m #[Value.ref b] below meth c D A 4 56 1216 (lw_Z below #[Value.ref b] s) 1263 [(0, .ref b), (1, .ref (a 0)), (2, .ref (a' 0)), (3, .int (nI i))] [] (wX cI cZ cO a x ++ wD cI cZ cO a' d)) {n W : Nat} {x : XS} {d : DS} (h : XR n W x d) : Sm p l e room_1 s m #[Value.ref b] below meth c D A 4 56 1216 (lw_Z below #[Value.ref b] s) 415 [(0, .ref b), (1, .ref (a 0)), (2, .ref (a' 0)), (3, .int (nI i))] [] (wX cI cZ cO a x ++ wD cI cZ cO a' d) := by
  obtain ⟨r, x', d', n', W', hx, hd, h'⟩ := m_back h (xs (Int32.toNatClampNeg (nI i + (1 : Int32))))
  refine sm_aload_n F dL_law_415 rfl 1 rfl ?_
  refine sm_aload_n F dL_law_416 rfl 0 rfl ?_
  refine sm_iload_n F dL_law_417 rfl 3 rfl ?_
  refine sm_iconst F dL_law_418 kc_i_1 ?_
  refine sm_iadd F dL_law_419 ?_
  refine sm_sld F hE.1.1 hE.1.2.1 hE.1.2.2 (vpk (k := 1) (by omega) hE.2.2.2) dL_law_420 ?_
  refine sm_callV (rest := []) F (ct_X10_back l D cI cZ cO a hx) (cutLX cI cZ cO a a' x x' d) rfl rfl rfl qw3_104 qw3_105 qw3_106 qw1_1 qw3_107 hvX10_back ⟨Nat.le_of_ble_eq_true rfl, Nat.le_of_ble_eq_true rfl⟩ ⟨Nat.le_of_ble_eq_true rfl, Nat.le_of_ble_eq_true rfl⟩ 0 10 rfl rfl rfl rfl (Nat.le_of_ble_eq_true rfl) E0_b (fun _ _ _ _ _ _ => trivial) rfl dL_law_421 [.int r] rfl ?_
  refine sm_aload_n F dL_law_424 rfl 2 rfl ?_
  refine sm_aload_n F dL_law_425 rfl 0 rfl ?_
  refine sm_iload_n F dL_law_426 rfl 3 rfl ?_
  refine sm_iconst F dL_law_427 kc_i_1 ?_
  refine sm_iadd F dL_law_428 ?_
  refine sm_sld F hE.1.1 hE.1.2.1 hE.1.2.2 (vpk (k := 1) (by omega) hE.2.2.2) dL_law_429 ?_
  refine sm_callV (rest := [.int r]) F (ct_X11_back l D cI cZ cO a' hd) (cutLD cI cZ cO a a' x' d d') rfl rfl rfl qw5_170 qw5_171 qw5_172 qw1_12 qw5_173 hvX11_back ⟨Nat.le_of_ble_eq_true rfl, Nat.le_of_ble_eq_true rfl⟩ ⟨Nat.le_of_ble_eq_true rfl, Nat.le_of_ble_eq_true rfl⟩ 0 11 rfl rfl rfl rfl (Nat.le_of_ble_eq_true rfl) E0_b (fun _ _ _ _ _ _ => trivial) rfl dL_law_430 [.int r, .int r] rfl ?_
  exact sm_icmp_eq (tgt := 1263) F dL_law_433 (by decide) (fun _ => kk n' W' x' d' h') (fun z => absurd rfl z)
set_option maxRecDepth 100000 in
set_option maxHeartbeats 4000000 in
/-- 8: names -/
theorem lw_c8 {p : Program} {l : Launch} {e : Env} {s : State} {m : MethodId} {below : List Frame} {meth : Method} {c : Code} {D : va_G} {A : Nat → Prop} {cI cZ cO : ClassId} {b L : Nat} {xs : Nat → Int32} {a a' : Nat → Nat} {adK adV : Nat → Nat} {zf : Option Nat} {i : Nat} (F : smF p s m #[Value.ref b] meth c cL_law 4 ret RL D (tyL cI cZ cO) A) (hE : LE s b L xs A adK adV zf) (hi : i + 5 ≤ L) (kk : ∀ (n W : Nat) (x : XS) (d : DS), XR n W x d → Sm p l e room_1 s m #[Value.ref b] below meth c D A 4 56 1216 (lw_Z below #[Value.ref b] s) 1263 [(0, .ref b), (1, .ref (a 0)), (2, .ref (a' 0)), (3, .int (nI i))] [] (wX cI cZ cO a x ++ wD cI cZ cO a' d)) {n W : Nat} {x : XS} {d : DS} (h : XR n W x d) : Sm p l e room_1 s m #[Value.ref b] below meth c D A 4 56 1216 (lw_Z below #[Value.ref b] s) 438 [(0, .ref b), (1, .ref (a 0)), (2, .ref (a' 0)), (3, .int (nI i))] [] (wX cI cZ cO a x ++ wD cI cZ cO a' d) := by
  obtain ⟨r, x', d', n', W', hx, hd, h'⟩ := m_names h (xs (Int32.toNatClampNeg (nI i + (1 : Int32))))
  refine sm_aload_n F dL_law_438 rfl 1 rfl ?_
  refine sm_aload_n F dL_law_439 rfl 0 rfl ?_
  refine sm_iload_n F dL_law_440 rfl 3 rfl ?_
  refine sm_iconst F dL_law_441 kc_i_1 ?_
  refine sm_iadd F dL_law_442 ?_
  refine sm_sld F hE.1.1 hE.1.2.1 hE.1.2.2 (vpk (k := 1) (by omega) hE.2.2.2) dL_law_443 ?_
  refine sm_callV (rest := []) F (ct_X10_names l D cI cZ cO a hx) (cutLX cI cZ cO a a' x x' d) rfl rfl rfl qw3_124 qw3_125 qw3_126 qw1_1 qw3_127 hvX10_names ⟨Nat.le_of_ble_eq_true rfl, Nat.le_of_ble_eq_true rfl⟩ ⟨Nat.le_of_ble_eq_true rfl, Nat.le_of_ble_eq_true rfl⟩ 0 10 rfl rfl rfl rfl (Nat.le_of_ble_eq_true rfl) E0_b (fun _ _ _ _ _ _ => trivial) rfl dL_law_444 [.int r] rfl ?_
  refine sm_aload_n F dL_law_447 rfl 2 rfl ?_
  refine sm_aload_n F dL_law_448 rfl 0 rfl ?_
  refine sm_iload_n F dL_law_449 rfl 3 rfl ?_
  refine sm_iconst F dL_law_450 kc_i_1 ?_
  refine sm_iadd F dL_law_451 ?_
  refine sm_sld F hE.1.1 hE.1.2.1 hE.1.2.2 (vpk (k := 1) (by omega) hE.2.2.2) dL_law_452 ?_
  refine sm_callV (rest := [.int r]) F (ct_X11_names l D cI cZ cO a' hd) (cutLD cI cZ cO a a' x' d d') rfl rfl rfl qw5_180 qw5_181 qw5_182 qw1_12 qw5_183 hvX11_names ⟨Nat.le_of_ble_eq_true rfl, Nat.le_of_ble_eq_true rfl⟩ ⟨Nat.le_of_ble_eq_true rfl, Nat.le_of_ble_eq_true rfl⟩ 0 11 rfl rfl rfl rfl (Nat.le_of_ble_eq_true rfl) E0_b (fun _ _ _ _ _ _ => trivial) rfl dL_law_453 [.int r, .int r] rfl ?_
  exact sm_icmp_eq (tgt := 1263) F dL_law_456 (by decide) (fun _ => kk n' W' x' d' h') (fun z => absurd rfl z)
set_option maxRecDepth 100000 in
set_option maxHeartbeats 4000000 in
/-- 9: turn -/
theorem lw_c9 {p : Program} {l : Launch} {e : Env} {s : State} {m : MethodId} {below : List Frame} {meth : Method} {c : Code} {D : va_G} {A : Nat → Prop} {cI cZ cO : ClassId} {b L : Nat} {xs : Nat → Int32} {a a' : Nat → Nat} {adK adV : Nat → Nat} {zf : Option Nat} {i : Nat} (F : smF p s m #[Value.ref b] meth c cL_law 4 ret RL D (tyL cI cZ cO) A) (hE : LE s b L xs A adK adV zf) (hi : i + 5 ≤ L) (kk : ∀ (n W : Nat) (x : XS) (d : DS), XR n W x d → Sm p l e room_1 s m #[Value.ref b] below meth c D A 4 56 1216 (lw_Z below #[Value.ref b] s) 1263 [(0, .ref b), (1, .ref (a 0)), (2, .ref (a' 0)), (3, .int (nI i))] [] (wX cI cZ cO a x ++ wD cI cZ cO a' d)) {n W : Nat} {x : XS} {d : DS} (h : XR n W x d) : Sm p l e room_1 s m #[Value.ref b] below meth c D A 4 56 1216 (lw_Z below #[Value.ref b] s) 461 [(0, .ref b), (1, .ref (a 0)), (2, .ref (a' 0)), (3, .int (nI i))] [] (wX cI cZ cO a x ++ wD cI cZ cO a' d) := by
  obtain ⟨r, x', d', n', W', hx, hd, h'⟩ := m_turn h (xs (Int32.toNatClampNeg (nI i + (1 : Int32)))) (xs (Int32.toNatClampNeg (nI i + (2 : Int32)))) (xs (Int32.toNatClampNeg (nI i + (3 : Int32))))
  refine sm_aload_n F dL_law_461 rfl 1 rfl ?_
  refine sm_aload_n F dL_law_462 rfl 0 rfl ?_
  refine sm_iload_n F dL_law_463 rfl 3 rfl ?_
  refine sm_iconst F dL_law_464 kc_i_1 ?_
  refine sm_iadd F dL_law_465 ?_
  refine sm_sld F hE.1.1 hE.1.2.1 hE.1.2.2 (vpk (k := 1) (by omega) hE.2.2.2) dL_law_466 ?_
  refine sm_aload_n F dL_law_467 rfl 0 rfl ?_
  refine sm_iload_n F dL_law_468 rfl 3 rfl ?_
  refine sm_iconst F dL_law_469 kc_i_2 ?_
  refine sm_iadd F dL_law_470 ?_
  refine sm_sld F hE.1.1 hE.1.2.1 hE.1.2.2 (vpk (k := 2) (by omega) hE.2.2.2) dL_law_471 ?_
  refine sm_aload_n F dL_law_472 rfl 0 rfl ?_
  refine sm_iload_n F dL_law_473 rfl 3 rfl ?_
  refine sm_iconst F dL_law_474 kc_i_3 ?_
  refine sm_iadd F dL_law_475 ?_
  refine sm_sld F hE.1.1 hE.1.2.1 hE.1.2.2 (vpk (k := 3) (by omega) hE.2.2.2) dL_law_476 ?_
  refine sm_callV (rest := []) F (ct_X10_turn l D cI cZ cO a hx) (cutLX cI cZ cO a a' x x' d) rfl rfl rfl qw3_128 qw3_129 qw3_130 qw1_1 qw3_131 hvX10_turn ⟨Nat.le_of_ble_eq_true rfl, Nat.le_of_ble_eq_true rfl⟩ ⟨Nat.le_of_ble_eq_true rfl, Nat.le_of_ble_eq_true rfl⟩ 0 10 rfl rfl rfl rfl (Nat.le_of_ble_eq_true rfl) E0_b (fun _ _ _ _ _ _ => trivial) rfl dL_law_477 [.int r] rfl ?_
  refine sm_aload_n F dL_law_480 rfl 2 rfl ?_
  refine sm_aload_n F dL_law_481 rfl 0 rfl ?_
  refine sm_iload_n F dL_law_482 rfl 3 rfl ?_
  refine sm_iconst F dL_law_483 kc_i_1 ?_
  refine sm_iadd F dL_law_484 ?_
  refine sm_sld F hE.1.1 hE.1.2.1 hE.1.2.2 (vpk (k := 1) (by omega) hE.2.2.2) dL_law_485 ?_
  refine sm_aload_n F dL_law_486 rfl 0 rfl ?_
  refine sm_iload_n F dL_law_487 rfl 3 rfl ?_
  refine sm_iconst F dL_law_488 kc_i_2 ?_
  refine sm_iadd F dL_law_489 ?_
  refine sm_sld F hE.1.1 hE.1.2.1 hE.1.2.2 (vpk (k := 2) (by omega) hE.2.2.2) dL_law_490 ?_
  refine sm_aload_n F dL_law_491 rfl 0 rfl ?_
  refine sm_iload_n F dL_law_492 rfl 3 rfl ?_
  refine sm_iconst F dL_law_493 kc_i_3 ?_
  refine sm_iadd F dL_law_494 ?_
  refine sm_sld F hE.1.1 hE.1.2.1 hE.1.2.2 (vpk (k := 3) (by omega) hE.2.2.2) dL_law_495 ?_
  refine sm_callV (rest := [.int r]) F (ct_X11_turn l D cI cZ cO a' hd) (cutLD cI cZ cO a a' x' d d') rfl rfl rfl qw5_184 qw5_185 qw5_186 qw1_12 qw5_187 hvX11_turn ⟨Nat.le_of_ble_eq_true rfl, Nat.le_of_ble_eq_true rfl⟩ ⟨Nat.le_of_ble_eq_true rfl, Nat.le_of_ble_eq_true rfl⟩ 0 11 rfl rfl rfl rfl (Nat.le_of_ble_eq_true rfl) E0_b (fun _ _ _ _ _ _ => trivial) rfl dL_law_496 [.int r, .int r] rfl ?_
  exact sm_icmp_eq (tgt := 1263) F dL_law_499 (by decide) (fun _ => kk n' W' x' d' h') (fun z => absurd rfl z)
set_option maxRecDepth 100000 in
set_option maxHeartbeats 4000000 in
/-- 10: weeks -/
theorem lw_c10 {p : Program} {l : Launch} {e : Env} {s : State} {m : MethodId} {below : List Frame} {meth : Method} {c : Code} {D : va_G} {A : Nat → Prop} {cI cZ cO : ClassId} {b L : Nat} {xs : Nat → Int32} {a a' : Nat → Nat} {adK adV : Nat → Nat} {zf : Option Nat} {i : Nat} (F : smF p s m #[Value.ref b] meth c cL_law 4 ret RL D (tyL cI cZ cO) A) (hE : LE s b L xs A adK adV zf) (hi : i + 5 ≤ L) (kk : ∀ (n W : Nat) (x : XS) (d : DS), XR n W x d → Sm p l e room_1 s m #[Value.ref b] below meth c D A 4 56 1216 (lw_Z below #[Value.ref b] s) 1263 [(0, .ref b), (1, .ref (a 0)), (2, .ref (a' 0)), (3, .int (nI i))] [] (wX cI cZ cO a x ++ wD cI cZ cO a' d)) {n W : Nat} {x : XS} {d : DS} (h : XR n W x d) : Sm p l e room_1 s m #[Value.ref b] below meth c D A 4 56 1216 (lw_Z below #[Value.ref b] s) 504 [(0, .ref b), (1, .ref (a 0)), (2, .ref (a' 0)), (3, .int (nI i))] [] (wX cI cZ cO a x ++ wD cI cZ cO a' d) := by
  obtain ⟨r, x', d', n', W', hx, hd, h'⟩ := m_weeks h (xs (Int32.toNatClampNeg (nI i + (1 : Int32))))
  refine sm_aload_n F dL_law_504 rfl 1 rfl ?_
  refine sm_aload_n F dL_law_505 rfl 0 rfl ?_
  refine sm_iload_n F dL_law_506 rfl 3 rfl ?_
  refine sm_iconst F dL_law_507 kc_i_1 ?_
  refine sm_iadd F dL_law_508 ?_
  refine sm_sld F hE.1.1 hE.1.2.1 hE.1.2.2 (vpk (k := 1) (by omega) hE.2.2.2) dL_law_509 ?_
  refine sm_callV (rest := []) F (ct_X10_weeks l D cI cZ cO a hx) (cutLX cI cZ cO a a' x x' d) rfl rfl rfl qw3_132 qw3_133 qw3_134 qw1_1 qw3_135 hvX10_weeks ⟨Nat.le_of_ble_eq_true rfl, Nat.le_of_ble_eq_true rfl⟩ ⟨Nat.le_of_ble_eq_true rfl, Nat.le_of_ble_eq_true rfl⟩ 0 10 rfl rfl rfl rfl (Nat.le_of_ble_eq_true rfl) E0_b (fun _ _ _ _ _ _ => trivial) rfl dL_law_510 [.int r] rfl ?_
  refine sm_aload_n F dL_law_513 rfl 2 rfl ?_
  refine sm_aload_n F dL_law_514 rfl 0 rfl ?_
  refine sm_iload_n F dL_law_515 rfl 3 rfl ?_
  refine sm_iconst F dL_law_516 kc_i_1 ?_
  refine sm_iadd F dL_law_517 ?_
  refine sm_sld F hE.1.1 hE.1.2.1 hE.1.2.2 (vpk (k := 1) (by omega) hE.2.2.2) dL_law_518 ?_
  refine sm_callV (rest := [.int r]) F (ct_X11_weeks l D cI cZ cO a' hd) (cutLD cI cZ cO a a' x' d d') rfl rfl rfl qw5_188 qw5_189 qw5_190 qw1_12 qw5_191 hvX11_weeks ⟨Nat.le_of_ble_eq_true rfl, Nat.le_of_ble_eq_true rfl⟩ ⟨Nat.le_of_ble_eq_true rfl, Nat.le_of_ble_eq_true rfl⟩ 0 11 rfl rfl rfl rfl (Nat.le_of_ble_eq_true rfl) E0_b (fun _ _ _ _ _ _ => trivial) rfl dL_law_519 [.int r, .int r] rfl ?_
  exact sm_icmp_eq (tgt := 1263) F dL_law_522 (by decide) (fun _ => kk n' W' x' d' h') (fun z => absurd rfl z)
set_option maxRecDepth 100000 in
set_option maxHeartbeats 4000000 in
/-- 11: memoryThen -/
theorem lw_c11 {p : Program} {l : Launch} {e : Env} {s : State} {m : MethodId} {below : List Frame} {meth : Method} {c : Code} {D : va_G} {A : Nat → Prop} {cI cZ cO : ClassId} {b L : Nat} {xs : Nat → Int32} {a a' : Nat → Nat} {adK adV : Nat → Nat} {zf : Option Nat} {i : Nat} (F : smF p s m #[Value.ref b] meth c cL_law 4 ret RL D (tyL cI cZ cO) A) (hE : LE s b L xs A adK adV zf) (hi : i + 5 ≤ L) (kk : ∀ (n W : Nat) (x : XS) (d : DS), XR n W x d → Sm p l e room_1 s m #[Value.ref b] below meth c D A 4 56 1216 (lw_Z below #[Value.ref b] s) 1263 [(0, .ref b), (1, .ref (a 0)), (2, .ref (a' 0)), (3, .int (nI i))] [] (wX cI cZ cO a x ++ wD cI cZ cO a' d)) {n W : Nat} {x : XS} {d : DS} (h : XR n W x d) : Sm p l e room_1 s m #[Value.ref b] below meth c D A 4 56 1216 (lw_Z below #[Value.ref b] s) 527 [(0, .ref b), (1, .ref (a 0)), (2, .ref (a' 0)), (3, .int (nI i))] [] (wX cI cZ cO a x ++ wD cI cZ cO a' d) := by
  obtain ⟨r, x', d', n', W', hx, hd, h'⟩ := m_memoryThen h (xs (Int32.toNatClampNeg (nI i + (1 : Int32)))) (xs (Int32.toNatClampNeg (nI i + (2 : Int32)))) (xs (Int32.toNatClampNeg (nI i + (3 : Int32))))
  refine sm_aload_n F dL_law_527 rfl 1 rfl ?_
  refine sm_aload_n F dL_law_528 rfl 0 rfl ?_
  refine sm_iload_n F dL_law_529 rfl 3 rfl ?_
  refine sm_iconst F dL_law_530 kc_i_1 ?_
  refine sm_iadd F dL_law_531 ?_
  refine sm_sld F hE.1.1 hE.1.2.1 hE.1.2.2 (vpk (k := 1) (by omega) hE.2.2.2) dL_law_532 ?_
  refine sm_aload_n F dL_law_533 rfl 0 rfl ?_
  refine sm_iload_n F dL_law_534 rfl 3 rfl ?_
  refine sm_iconst F dL_law_535 kc_i_2 ?_
  refine sm_iadd F dL_law_536 ?_
  refine sm_sld F hE.1.1 hE.1.2.1 hE.1.2.2 (vpk (k := 2) (by omega) hE.2.2.2) dL_law_537 ?_
  refine sm_aload_n F dL_law_538 rfl 0 rfl ?_
  refine sm_iload_n F dL_law_539 rfl 3 rfl ?_
  refine sm_iconst F dL_law_540 kc_i_3 ?_
  refine sm_iadd F dL_law_541 ?_
  refine sm_sld F hE.1.1 hE.1.2.1 hE.1.2.2 (vpk (k := 3) (by omega) hE.2.2.2) dL_law_542 ?_
  refine sm_callV (rest := []) F (ct_X10_memoryThen l D cI cZ cO a hx) (cutLX cI cZ cO a a' x x' d) rfl rfl rfl qw3_142 qw3_143 qw3_144 qw1_1 qw3_145 hvX10_memoryThen ⟨Nat.le_of_ble_eq_true rfl, Nat.le_of_ble_eq_true rfl⟩ ⟨Nat.le_of_ble_eq_true rfl, Nat.le_of_ble_eq_true rfl⟩ 0 10 rfl rfl rfl rfl (Nat.le_of_ble_eq_true rfl) E0_b (fun _ _ _ _ _ _ => trivial) rfl dL_law_543 [.int r] rfl ?_
  refine sm_aload_n F dL_law_546 rfl 2 rfl ?_
  refine sm_aload_n F dL_law_547 rfl 0 rfl ?_
  refine sm_iload_n F dL_law_548 rfl 3 rfl ?_
  refine sm_iconst F dL_law_549 kc_i_1 ?_
  refine sm_iadd F dL_law_550 ?_
  refine sm_sld F hE.1.1 hE.1.2.1 hE.1.2.2 (vpk (k := 1) (by omega) hE.2.2.2) dL_law_551 ?_
  refine sm_aload_n F dL_law_552 rfl 0 rfl ?_
  refine sm_iload_n F dL_law_553 rfl 3 rfl ?_
  refine sm_iconst F dL_law_554 kc_i_2 ?_
  refine sm_iadd F dL_law_555 ?_
  refine sm_sld F hE.1.1 hE.1.2.1 hE.1.2.2 (vpk (k := 2) (by omega) hE.2.2.2) dL_law_556 ?_
  refine sm_aload_n F dL_law_557 rfl 0 rfl ?_
  refine sm_iload_n F dL_law_558 rfl 3 rfl ?_
  refine sm_iconst F dL_law_559 kc_i_3 ?_
  refine sm_iadd F dL_law_560 ?_
  refine sm_sld F hE.1.1 hE.1.2.1 hE.1.2.2 (vpk (k := 3) (by omega) hE.2.2.2) dL_law_561 ?_
  refine sm_callV (rest := [.int r]) F (ct_X11_memoryThen l D cI cZ cO a' hd) (cutLD cI cZ cO a a' x' d d') rfl rfl rfl qw5_192 qw5_193 qw5_194 qw1_12 qw5_195 hvX11_memoryThen ⟨Nat.le_of_ble_eq_true rfl, Nat.le_of_ble_eq_true rfl⟩ ⟨Nat.le_of_ble_eq_true rfl, Nat.le_of_ble_eq_true rfl⟩ 0 11 rfl rfl rfl rfl (Nat.le_of_ble_eq_true rfl) E0_b (fun _ _ _ _ _ _ => trivial) rfl dL_law_562 [.int r, .int r] rfl ?_
  exact sm_icmp_eq (tgt := 1263) F dL_law_565 (by decide) (fun _ => kk n' W' x' d' h') (fun z => absurd rfl z)
set_option maxRecDepth 100000 in
set_option maxHeartbeats 4000000 in
/-- 12: knownThen -/
theorem lw_c12 {p : Program} {l : Launch} {e : Env} {s : State} {m : MethodId} {below : List Frame} {meth : Method} {c : Code} {D : va_G} {A : Nat → Prop} {cI cZ cO : ClassId} {b L : Nat} {xs : Nat → Int32} {a a' : Nat → Nat} {adK adV : Nat → Nat} {zf : Option Nat} {i : Nat} (F : smF p s m #[Value.ref b] meth c cL_law 4 ret RL D (tyL cI cZ cO) A) (hE : LE s b L xs A adK adV zf) (hi : i + 5 ≤ L) (kk : ∀ (n W : Nat) (x : XS) (d : DS), XR n W x d → Sm p l e room_1 s m #[Value.ref b] below meth c D A 4 56 1216 (lw_Z below #[Value.ref b] s) 1263 [(0, .ref b), (1, .ref (a 0)), (2, .ref (a' 0)), (3, .int (nI i))] [] (wX cI cZ cO a x ++ wD cI cZ cO a' d)) {n W : Nat} {x : XS} {d : DS} (h : XR n W x d) : Sm p l e room_1 s m #[Value.ref b] below meth c D A 4 56 1216 (lw_Z below #[Value.ref b] s) 570 [(0, .ref b), (1, .ref (a 0)), (2, .ref (a' 0)), (3, .int (nI i))] [] (wX cI cZ cO a x ++ wD cI cZ cO a' d) := by
  obtain ⟨r, x', d', n', W', hx, hd, h'⟩ := m_knownThen h (xs (Int32.toNatClampNeg (nI i + (1 : Int32)))) (xs (Int32.toNatClampNeg (nI i + (2 : Int32))))
  refine sm_aload_n F dL_law_570 rfl 1 rfl ?_
  refine sm_aload_n F dL_law_571 rfl 0 rfl ?_
  refine sm_iload_n F dL_law_572 rfl 3 rfl ?_
  refine sm_iconst F dL_law_573 kc_i_1 ?_
  refine sm_iadd F dL_law_574 ?_
  refine sm_sld F hE.1.1 hE.1.2.1 hE.1.2.2 (vpk (k := 1) (by omega) hE.2.2.2) dL_law_575 ?_
  refine sm_aload_n F dL_law_576 rfl 0 rfl ?_
  refine sm_iload_n F dL_law_577 rfl 3 rfl ?_
  refine sm_iconst F dL_law_578 kc_i_2 ?_
  refine sm_iadd F dL_law_579 ?_
  refine sm_sld F hE.1.1 hE.1.2.1 hE.1.2.2 (vpk (k := 2) (by omega) hE.2.2.2) dL_law_580 ?_
  refine sm_callV (rest := []) F (ct_X10_knownThen l D cI cZ cO a hx) (cutLX cI cZ cO a a' x x' d) rfl rfl rfl qw3_156 qw3_157 qw3_158 qw1_1 qw3_159 hvX10_knownThen ⟨Nat.le_of_ble_eq_true rfl, Nat.le_of_ble_eq_true rfl⟩ ⟨Nat.le_of_ble_eq_true rfl, Nat.le_of_ble_eq_true rfl⟩ 0 10 rfl rfl rfl rfl (Nat.le_of_ble_eq_true rfl) E0_b (fun _ _ _ _ _ _ => trivial) rfl dL_law_581 [.int r] rfl ?_
  refine sm_aload_n F dL_law_584 rfl 2 rfl ?_
  refine sm_aload_n F dL_law_585 rfl 0 rfl ?_
  refine sm_iload_n F dL_law_586 rfl 3 rfl ?_
  refine sm_iconst F dL_law_587 kc_i_1 ?_
  refine sm_iadd F dL_law_588 ?_
  refine sm_sld F hE.1.1 hE.1.2.1 hE.1.2.2 (vpk (k := 1) (by omega) hE.2.2.2) dL_law_589 ?_
  refine sm_aload_n F dL_law_590 rfl 0 rfl ?_
  refine sm_iload_n F dL_law_591 rfl 3 rfl ?_
  refine sm_iconst F dL_law_592 kc_i_2 ?_
  refine sm_iadd F dL_law_593 ?_
  refine sm_sld F hE.1.1 hE.1.2.1 hE.1.2.2 (vpk (k := 2) (by omega) hE.2.2.2) dL_law_594 ?_
  refine sm_callV (rest := [.int r]) F (ct_X11_knownThen l D cI cZ cO a' hd) (cutLD cI cZ cO a a' x' d d') rfl rfl rfl qw5_200 qw5_201 qw5_202 qw1_12 qw5_203 hvX11_knownThen ⟨Nat.le_of_ble_eq_true rfl, Nat.le_of_ble_eq_true rfl⟩ ⟨Nat.le_of_ble_eq_true rfl, Nat.le_of_ble_eq_true rfl⟩ 0 11 rfl rfl rfl rfl (Nat.le_of_ble_eq_true rfl) E0_b (fun _ _ _ _ _ _ => trivial) rfl dL_law_595 [.int r, .int r] rfl ?_
  exact sm_icmp_eq (tgt := 1263) F dL_law_598 (by decide) (fun _ => kk n' W' x' d' h') (fun z => absurd rfl z)
set_option maxRecDepth 100000 in
set_option maxHeartbeats 4000000 in
/-- 13: gone -/
theorem lw_c13 {p : Program} {l : Launch} {e : Env} {s : State} {m : MethodId} {below : List Frame} {meth : Method} {c : Code} {D : va_G} {A : Nat → Prop} {cI cZ cO : ClassId} {b L : Nat} {xs : Nat → Int32} {a a' : Nat → Nat} {adK adV : Nat → Nat} {zf : Option Nat} {i : Nat} (F : smF p s m #[Value.ref b] meth c cL_law 4 ret RL D (tyL cI cZ cO) A) (hE : LE s b L xs A adK adV zf) (hi : i + 5 ≤ L) (kk : ∀ (n W : Nat) (x : XS) (d : DS), XR n W x d → Sm p l e room_1 s m #[Value.ref b] below meth c D A 4 56 1216 (lw_Z below #[Value.ref b] s) 1263 [(0, .ref b), (1, .ref (a 0)), (2, .ref (a' 0)), (3, .int (nI i))] [] (wX cI cZ cO a x ++ wD cI cZ cO a' d)) {n W : Nat} {x : XS} {d : DS} (h : XR n W x d) : Sm p l e room_1 s m #[Value.ref b] below meth c D A 4 56 1216 (lw_Z below #[Value.ref b] s) 603 [(0, .ref b), (1, .ref (a 0)), (2, .ref (a' 0)), (3, .int (nI i))] [] (wX cI cZ cO a x ++ wD cI cZ cO a' d) := by
  obtain ⟨r, x', d', n', W', hx, hd, h'⟩ := m_gone h (xs (Int32.toNatClampNeg (nI i + (1 : Int32))))
  refine sm_aload_n F dL_law_603 rfl 1 rfl ?_
  refine sm_aload_n F dL_law_604 rfl 0 rfl ?_
  refine sm_iload_n F dL_law_605 rfl 3 rfl ?_
  refine sm_iconst F dL_law_606 kc_i_1 ?_
  refine sm_iadd F dL_law_607 ?_
  refine sm_sld F hE.1.1 hE.1.2.1 hE.1.2.2 (vpk (k := 1) (by omega) hE.2.2.2) dL_law_608 ?_
  refine sm_callV (rest := []) F (ct_X10_gone l D cI cZ cO a hx) (cutLX cI cZ cO a a' x x' d) rfl rfl rfl qw3_160 qw3_161 qw3_162 qw1_1 qw3_163 hvX10_gone ⟨Nat.le_of_ble_eq_true rfl, Nat.le_of_ble_eq_true rfl⟩ ⟨Nat.le_of_ble_eq_true rfl, Nat.le_of_ble_eq_true rfl⟩ 0 10 rfl rfl rfl rfl (Nat.le_of_ble_eq_true rfl) E0_b (fun _ _ _ _ _ _ => trivial) rfl dL_law_609 [.int r] rfl ?_
  refine sm_aload_n F dL_law_612 rfl 2 rfl ?_
  refine sm_aload_n F dL_law_613 rfl 0 rfl ?_
  refine sm_iload_n F dL_law_614 rfl 3 rfl ?_
  refine sm_iconst F dL_law_615 kc_i_1 ?_
  refine sm_iadd F dL_law_616 ?_
  refine sm_sld F hE.1.1 hE.1.2.1 hE.1.2.2 (vpk (k := 1) (by omega) hE.2.2.2) dL_law_617 ?_
  refine sm_callV (rest := [.int r]) F (ct_X11_gone l D cI cZ cO a' hd) (cutLD cI cZ cO a a' x' d d') rfl rfl rfl qw5_204 qw5_205 qw5_206 qw1_12 qw5_207 hvX11_gone ⟨Nat.le_of_ble_eq_true rfl, Nat.le_of_ble_eq_true rfl⟩ ⟨Nat.le_of_ble_eq_true rfl, Nat.le_of_ble_eq_true rfl⟩ 0 11 rfl rfl rfl rfl (Nat.le_of_ble_eq_true rfl) E0_b (fun _ _ _ _ _ _ => trivial) rfl dL_law_618 [.int r, .int r] rfl ?_
  exact sm_icmp_eq (tgt := 1263) F dL_law_621 (by decide) (fun _ => kk n' W' x' d' h') (fun z => absurd rfl z)
set_option maxRecDepth 100000 in
set_option maxHeartbeats 4000000 in
/-- 14: goes -/
theorem lw_c14 {p : Program} {l : Launch} {e : Env} {s : State} {m : MethodId} {below : List Frame} {meth : Method} {c : Code} {D : va_G} {A : Nat → Prop} {cI cZ cO : ClassId} {b L : Nat} {xs : Nat → Int32} {a a' : Nat → Nat} {adK adV : Nat → Nat} {zf : Option Nat} {i : Nat} (F : smF p s m #[Value.ref b] meth c cL_law 4 ret RL D (tyL cI cZ cO) A) (hE : LE s b L xs A adK adV zf) (hi : i + 5 ≤ L) (kk : ∀ (n W : Nat) (x : XS) (d : DS), XR n W x d → Sm p l e room_1 s m #[Value.ref b] below meth c D A 4 56 1216 (lw_Z below #[Value.ref b] s) 1263 [(0, .ref b), (1, .ref (a 0)), (2, .ref (a' 0)), (3, .int (nI i))] [] (wX cI cZ cO a x ++ wD cI cZ cO a' d)) {n W : Nat} {x : XS} {d : DS} (h : XR n W x d) : Sm p l e room_1 s m #[Value.ref b] below meth c D A 4 56 1216 (lw_Z below #[Value.ref b] s) 626 [(0, .ref b), (1, .ref (a 0)), (2, .ref (a' 0)), (3, .int (nI i))] [] (wX cI cZ cO a x ++ wD cI cZ cO a' d) := by
  obtain ⟨r, x', d', n', W', hx, hd, h'⟩ := m_goes h (xs (Int32.toNatClampNeg (nI i + (1 : Int32))))
  refine sm_aload_n F dL_law_626 rfl 1 rfl ?_
  refine sm_aload_n F dL_law_627 rfl 0 rfl ?_
  refine sm_iload_n F dL_law_628 rfl 3 rfl ?_
  refine sm_iconst F dL_law_629 kc_i_1 ?_
  refine sm_iadd F dL_law_630 ?_
  refine sm_sld F hE.1.1 hE.1.2.1 hE.1.2.2 (vpk (k := 1) (by omega) hE.2.2.2) dL_law_631 ?_
  refine sm_callV (rest := []) F (ct_X10_goes l D cI cZ cO a hx) (cutLX cI cZ cO a a' x x' d) rfl rfl rfl qw3_168 qw3_169 qw3_170 qw1_1 qw3_171 hvX10_goes ⟨Nat.le_of_ble_eq_true rfl, Nat.le_of_ble_eq_true rfl⟩ ⟨Nat.le_of_ble_eq_true rfl, Nat.le_of_ble_eq_true rfl⟩ 0 10 rfl rfl rfl rfl (Nat.le_of_ble_eq_true rfl) E0_b (fun _ _ _ _ _ _ => trivial) rfl dL_law_632 [.int r] rfl ?_
  refine sm_aload_n F dL_law_635 rfl 2 rfl ?_
  refine sm_aload_n F dL_law_636 rfl 0 rfl ?_
  refine sm_iload_n F dL_law_637 rfl 3 rfl ?_
  refine sm_iconst F dL_law_638 kc_i_1 ?_
  refine sm_iadd F dL_law_639 ?_
  refine sm_sld F hE.1.1 hE.1.2.1 hE.1.2.2 (vpk (k := 1) (by omega) hE.2.2.2) dL_law_640 ?_
  refine sm_callV (rest := [.int r]) F (ct_X11_goes l D cI cZ cO a' hd) (cutLD cI cZ cO a a' x' d d') rfl rfl rfl qw5_208 qw5_209 qw5_210 qw1_12 qw5_211 hvX11_goes ⟨Nat.le_of_ble_eq_true rfl, Nat.le_of_ble_eq_true rfl⟩ ⟨Nat.le_of_ble_eq_true rfl, Nat.le_of_ble_eq_true rfl⟩ 0 11 rfl rfl rfl rfl (Nat.le_of_ble_eq_true rfl) E0_b (fun _ _ _ _ _ _ => trivial) rfl dL_law_641 [.int r, .int r] rfl ?_
  exact sm_icmp_eq (tgt := 1263) F dL_law_644 (by decide) (fun _ => kk n' W' x' d' h') (fun z => absurd rfl z)
set_option maxRecDepth 100000 in
set_option maxHeartbeats 4000000 in
/-- 15: next -/
theorem lw_c15 {p : Program} {l : Launch} {e : Env} {s : State} {m : MethodId} {below : List Frame} {meth : Method} {c : Code} {D : va_G} {A : Nat → Prop} {cI cZ cO : ClassId} {b L : Nat} {xs : Nat → Int32} {a a' : Nat → Nat} {adK adV : Nat → Nat} {zf : Option Nat} {i : Nat} (F : smF p s m #[Value.ref b] meth c cL_law 4 ret RL D (tyL cI cZ cO) A) (hE : LE s b L xs A adK adV zf) (hi : i + 5 ≤ L) (kk : ∀ (n W : Nat) (x : XS) (d : DS), XR n W x d → Sm p l e room_1 s m #[Value.ref b] below meth c D A 4 56 1216 (lw_Z below #[Value.ref b] s) 1263 [(0, .ref b), (1, .ref (a 0)), (2, .ref (a' 0)), (3, .int (nI i))] [] (wX cI cZ cO a x ++ wD cI cZ cO a' d)) {n W : Nat} {x : XS} {d : DS} (h : XR n W x d) : Sm p l e room_1 s m #[Value.ref b] below meth c D A 4 56 1216 (lw_Z below #[Value.ref b] s) 649 [(0, .ref b), (1, .ref (a 0)), (2, .ref (a' 0)), (3, .int (nI i))] [] (wX cI cZ cO a x ++ wD cI cZ cO a' d) := by
  obtain ⟨r, x', d', n', W', hx, hd, h'⟩ := m_next h (xs (Int32.toNatClampNeg (nI i + (1 : Int32))))
  refine sm_aload_n F dL_law_649 rfl 1 rfl ?_
  refine sm_aload_n F dL_law_650 rfl 0 rfl ?_
  refine sm_iload_n F dL_law_651 rfl 3 rfl ?_
  refine sm_iconst F dL_law_652 kc_i_1 ?_
  refine sm_iadd F dL_law_653 ?_
  refine sm_sld F hE.1.1 hE.1.2.1 hE.1.2.2 (vpk (k := 1) (by omega) hE.2.2.2) dL_law_654 ?_
  refine sm_callV (rest := []) F (ct_X10_next l D cI cZ cO a hx) (cutLX cI cZ cO a a' x x' d) rfl rfl rfl qw3_183 qw3_184 qw3_185 qw1_1 qw3_186 hvX10_next ⟨Nat.le_of_ble_eq_true rfl, Nat.le_of_ble_eq_true rfl⟩ ⟨Nat.le_of_ble_eq_true rfl, Nat.le_of_ble_eq_true rfl⟩ 0 10 rfl rfl rfl rfl (Nat.le_of_ble_eq_true rfl) E0_b (fun _ _ _ _ _ _ => trivial) rfl dL_law_655 [.int r] rfl ?_
  refine sm_aload_n F dL_law_658 rfl 2 rfl ?_
  refine sm_aload_n F dL_law_659 rfl 0 rfl ?_
  refine sm_iload_n F dL_law_660 rfl 3 rfl ?_
  refine sm_iconst F dL_law_661 kc_i_1 ?_
  refine sm_iadd F dL_law_662 ?_
  refine sm_sld F hE.1.1 hE.1.2.1 hE.1.2.2 (vpk (k := 1) (by omega) hE.2.2.2) dL_law_663 ?_
  refine sm_callV (rest := [.int r]) F (ct_X11_next l D cI cZ cO a' hd) (cutLD cI cZ cO a a' x' d d') rfl rfl rfl qw5_220 qw5_221 qw5_222 qw1_12 qw5_223 hvX11_next ⟨Nat.le_of_ble_eq_true rfl, Nat.le_of_ble_eq_true rfl⟩ ⟨Nat.le_of_ble_eq_true rfl, Nat.le_of_ble_eq_true rfl⟩ 0 11 rfl rfl rfl rfl (Nat.le_of_ble_eq_true rfl) E0_b (fun _ _ _ _ _ _ => trivial) rfl dL_law_664 [.int r, .int r] rfl ?_
  exact sm_icmp_eq (tgt := 1263) F dL_law_667 (by decide) (fun _ => kk n' W' x' d' h') (fun z => absurd rfl z)
set_option maxRecDepth 100000 in
set_option maxHeartbeats 4000000 in
/-- 16: least -/
theorem lw_c16 {p : Program} {l : Launch} {e : Env} {s : State} {m : MethodId} {below : List Frame} {meth : Method} {c : Code} {D : va_G} {A : Nat → Prop} {cI cZ cO : ClassId} {b L : Nat} {xs : Nat → Int32} {a a' : Nat → Nat} {adK adV : Nat → Nat} {zf : Option Nat} {i : Nat} (F : smF p s m #[Value.ref b] meth c cL_law 4 ret RL D (tyL cI cZ cO) A) (hE : LE s b L xs A adK adV zf) (hi : i + 5 ≤ L) (kk : ∀ (n W : Nat) (x : XS) (d : DS), XR n W x d → Sm p l e room_1 s m #[Value.ref b] below meth c D A 4 56 1216 (lw_Z below #[Value.ref b] s) 1263 [(0, .ref b), (1, .ref (a 0)), (2, .ref (a' 0)), (3, .int (nI i))] [] (wX cI cZ cO a x ++ wD cI cZ cO a' d)) {n W : Nat} {x : XS} {d : DS} (h : XR n W x d) : Sm p l e room_1 s m #[Value.ref b] below meth c D A 4 56 1216 (lw_Z below #[Value.ref b] s) 672 [(0, .ref b), (1, .ref (a 0)), (2, .ref (a' 0)), (3, .int (nI i))] [] (wX cI cZ cO a x ++ wD cI cZ cO a' d) := by
  obtain ⟨r, x', d', n', W', hx, hd, h'⟩ := m_least h (xs (Int32.toNatClampNeg (nI i + (1 : Int32))))
  refine sm_aload_n F dL_law_672 rfl 1 rfl ?_
  refine sm_aload_n F dL_law_673 rfl 0 rfl ?_
  refine sm_iload_n F dL_law_674 rfl 3 rfl ?_
  refine sm_iconst F dL_law_675 kc_i_1 ?_
  refine sm_iadd F dL_law_676 ?_
  refine sm_sld F hE.1.1 hE.1.2.1 hE.1.2.2 (vpk (k := 1) (by omega) hE.2.2.2) dL_law_677 ?_
  refine sm_callV (rest := []) F (ct_X10_least l D cI cZ cO a hx) (cutLX cI cZ cO a a' x x' d) rfl rfl rfl qw3_202 qw3_203 qw3_204 qw1_1 qw3_205 hvX10_least ⟨Nat.le_of_ble_eq_true rfl, Nat.le_of_ble_eq_true rfl⟩ ⟨Nat.le_of_ble_eq_true rfl, Nat.le_of_ble_eq_true rfl⟩ 0 10 rfl rfl rfl rfl (Nat.le_of_ble_eq_true rfl) E0_b (fun _ _ _ _ _ _ => trivial) rfl dL_law_678 [.int r] rfl ?_
  refine sm_aload_n F dL_law_681 rfl 2 rfl ?_
  refine sm_aload_n F dL_law_682 rfl 0 rfl ?_
  refine sm_iload_n F dL_law_683 rfl 3 rfl ?_
  refine sm_iconst F dL_law_684 kc_i_1 ?_
  refine sm_iadd F dL_law_685 ?_
  refine sm_sld F hE.1.1 hE.1.2.1 hE.1.2.2 (vpk (k := 1) (by omega) hE.2.2.2) dL_law_686 ?_
  refine sm_callV (rest := [.int r]) F (ct_X11_least l D cI cZ cO a' hd) (cutLD cI cZ cO a a' x' d d') rfl rfl rfl qw5_229 qw5_230 qw5_231 qw1_12 qw5_232 hvX11_least ⟨Nat.le_of_ble_eq_true rfl, Nat.le_of_ble_eq_true rfl⟩ ⟨Nat.le_of_ble_eq_true rfl, Nat.le_of_ble_eq_true rfl⟩ 0 11 rfl rfl rfl rfl (Nat.le_of_ble_eq_true rfl) E0_b (fun _ _ _ _ _ _ => trivial) rfl dL_law_687 [.int r, .int r] rfl ?_
  exact sm_icmp_eq (tgt := 1263) F dL_law_690 (by decide) (fun _ => kk n' W' x' d' h') (fun z => absurd rfl z)
set_option maxRecDepth 100000 in
set_option maxHeartbeats 4000000 in
/-- 17: speak -/
theorem lw_c17 {p : Program} {l : Launch} {e : Env} {s : State} {m : MethodId} {below : List Frame} {meth : Method} {c : Code} {D : va_G} {A : Nat → Prop} {cI cZ cO : ClassId} {b L : Nat} {xs : Nat → Int32} {a a' : Nat → Nat} {adK adV : Nat → Nat} {zf : Option Nat} {i : Nat} (F : smF p s m #[Value.ref b] meth c cL_law 4 ret RL D (tyL cI cZ cO) A) (hE : LE s b L xs A adK adV zf) (hi : i + 5 ≤ L) (kk : ∀ (n W : Nat) (x : XS) (d : DS), XR n W x d → Sm p l e room_1 s m #[Value.ref b] below meth c D A 4 56 1216 (lw_Z below #[Value.ref b] s) 1263 [(0, .ref b), (1, .ref (a 0)), (2, .ref (a' 0)), (3, .int (nI i))] [] (wX cI cZ cO a x ++ wD cI cZ cO a' d)) {n W : Nat} {x : XS} {d : DS} (h : XR n W x d) : Sm p l e room_1 s m #[Value.ref b] below meth c D A 4 56 1216 (lw_Z below #[Value.ref b] s) 695 [(0, .ref b), (1, .ref (a 0)), (2, .ref (a' 0)), (3, .int (nI i))] [] (wX cI cZ cO a x ++ wD cI cZ cO a' d) := by
  obtain ⟨r, x', d', n', W', hx, hd, h'⟩ := m_speak h (xs (Int32.toNatClampNeg (nI i + (1 : Int32))))
  refine sm_aload_n F dL_law_695 rfl 1 rfl ?_
  refine sm_aload_n F dL_law_696 rfl 0 rfl ?_
  refine sm_iload_n F dL_law_697 rfl 3 rfl ?_
  refine sm_iconst F dL_law_698 kc_i_1 ?_
  refine sm_iadd F dL_law_699 ?_
  refine sm_sld F hE.1.1 hE.1.2.1 hE.1.2.2 (vpk (k := 1) (by omega) hE.2.2.2) dL_law_700 ?_
  refine sm_callV (rest := []) F (ct_X10_speak l D cI cZ cO a hx) (cutLX cI cZ cO a a' x x' d) rfl rfl rfl qw3_211 qw3_212 qw3_213 qw1_1 qw3_214 hvX10_speak ⟨Nat.le_of_ble_eq_true rfl, Nat.le_of_ble_eq_true rfl⟩ ⟨Nat.le_of_ble_eq_true rfl, Nat.le_of_ble_eq_true rfl⟩ 0 10 rfl rfl rfl rfl (Nat.le_of_ble_eq_true rfl) E0_b (fun _ _ _ _ _ _ => trivial) rfl dL_law_701 [.int r] rfl ?_
  refine sm_aload_n F dL_law_704 rfl 2 rfl ?_
  refine sm_aload_n F dL_law_705 rfl 0 rfl ?_
  refine sm_iload_n F dL_law_706 rfl 3 rfl ?_
  refine sm_iconst F dL_law_707 kc_i_1 ?_
  refine sm_iadd F dL_law_708 ?_
  refine sm_sld F hE.1.1 hE.1.2.1 hE.1.2.2 (vpk (k := 1) (by omega) hE.2.2.2) dL_law_709 ?_
  refine sm_callV (rest := [.int r]) F (ct_X11_speak l D cI cZ cO a' hd) (cutLD cI cZ cO a a' x' d d') rfl rfl rfl qw5_233 qw5_234 qw5_235 qw1_12 qw5_236 hvX11_speak ⟨Nat.le_of_ble_eq_true rfl, Nat.le_of_ble_eq_true rfl⟩ ⟨Nat.le_of_ble_eq_true rfl, Nat.le_of_ble_eq_true rfl⟩ 0 11 rfl rfl rfl rfl (Nat.le_of_ble_eq_true rfl) E0_b (fun _ _ _ _ _ _ => trivial) rfl dL_law_710 [.int r, .int r] rfl ?_
  exact sm_icmp_eq (tgt := 1263) F dL_law_713 (by decide) (fun _ => kk n' W' x' d' h') (fun z => absurd rfl z)
set_option maxRecDepth 100000 in
set_option maxHeartbeats 4000000 in
/-- 18: fewest -/
theorem lw_c18 {p : Program} {l : Launch} {e : Env} {s : State} {m : MethodId} {below : List Frame} {meth : Method} {c : Code} {D : va_G} {A : Nat → Prop} {cI cZ cO : ClassId} {b L : Nat} {xs : Nat → Int32} {a a' : Nat → Nat} {adK adV : Nat → Nat} {zf : Option Nat} {i : Nat} (F : smF p s m #[Value.ref b] meth c cL_law 4 ret RL D (tyL cI cZ cO) A) (hE : LE s b L xs A adK adV zf) (hi : i + 5 ≤ L) (kk : ∀ (n W : Nat) (x : XS) (d : DS), XR n W x d → Sm p l e room_1 s m #[Value.ref b] below meth c D A 4 56 1216 (lw_Z below #[Value.ref b] s) 1263 [(0, .ref b), (1, .ref (a 0)), (2, .ref (a' 0)), (3, .int (nI i))] [] (wX cI cZ cO a x ++ wD cI cZ cO a' d)) {n W : Nat} {x : XS} {d : DS} (h : XR n W x d) : Sm p l e room_1 s m #[Value.ref b] below meth c D A 4 56 1216 (lw_Z below #[Value.ref b] s) 718 [(0, .ref b), (1, .ref (a 0)), (2, .ref (a' 0)), (3, .int (nI i))] [] (wX cI cZ cO a x ++ wD cI cZ cO a' d) := by
  obtain ⟨r, x', d', n', W', hx, hd, h'⟩ := m_fewest h (xs (Int32.toNatClampNeg (nI i + (1 : Int32)))) (xs (Int32.toNatClampNeg (nI i + (2 : Int32))))
  refine sm_aload_n F dL_law_718 rfl 1 rfl ?_
  refine sm_aload_n F dL_law_719 rfl 0 rfl ?_
  refine sm_iload_n F dL_law_720 rfl 3 rfl ?_
  refine sm_iconst F dL_law_721 kc_i_1 ?_
  refine sm_iadd F dL_law_722 ?_
  refine sm_sld F hE.1.1 hE.1.2.1 hE.1.2.2 (vpk (k := 1) (by omega) hE.2.2.2) dL_law_723 ?_
  refine sm_aload_n F dL_law_724 rfl 0 rfl ?_
  refine sm_iload_n F dL_law_725 rfl 3 rfl ?_
  refine sm_iconst F dL_law_726 kc_i_2 ?_
  refine sm_iadd F dL_law_727 ?_
  refine sm_sld F hE.1.1 hE.1.2.1 hE.1.2.2 (vpk (k := 2) (by omega) hE.2.2.2) dL_law_728 ?_
  refine sm_callV (rest := []) F (ct_X10_fewest l D cI cZ cO a hx) (cutLX cI cZ cO a a' x x' d) rfl rfl rfl qw3_222 qw3_223 qw3_224 qw1_1 qw3_225 hvX10_fewest ⟨Nat.le_of_ble_eq_true rfl, Nat.le_of_ble_eq_true rfl⟩ ⟨Nat.le_of_ble_eq_true rfl, Nat.le_of_ble_eq_true rfl⟩ 0 10 rfl rfl rfl rfl (Nat.le_of_ble_eq_true rfl) E0_b (fun _ _ _ _ _ _ => trivial) rfl dL_law_729 [.int r] rfl ?_
  refine sm_aload_n F dL_law_732 rfl 2 rfl ?_
  refine sm_aload_n F dL_law_733 rfl 0 rfl ?_
  refine sm_iload_n F dL_law_734 rfl 3 rfl ?_
  refine sm_iconst F dL_law_735 kc_i_1 ?_
  refine sm_iadd F dL_law_736 ?_
  refine sm_sld F hE.1.1 hE.1.2.1 hE.1.2.2 (vpk (k := 1) (by omega) hE.2.2.2) dL_law_737 ?_
  refine sm_aload_n F dL_law_738 rfl 0 rfl ?_
  refine sm_iload_n F dL_law_739 rfl 3 rfl ?_
  refine sm_iconst F dL_law_740 kc_i_2 ?_
  refine sm_iadd F dL_law_741 ?_
  refine sm_sld F hE.1.1 hE.1.2.1 hE.1.2.2 (vpk (k := 2) (by omega) hE.2.2.2) dL_law_742 ?_
  refine sm_callV (rest := [.int r]) F (ct_X11_fewest l D cI cZ cO a' hd) (cutLD cI cZ cO a a' x' d d') rfl rfl rfl qw6_4 qw6_5 qw6_6 qw1_12 qw6_7 hvX11_fewest ⟨Nat.le_of_ble_eq_true rfl, Nat.le_of_ble_eq_true rfl⟩ ⟨Nat.le_of_ble_eq_true rfl, Nat.le_of_ble_eq_true rfl⟩ 0 11 rfl rfl rfl rfl (Nat.le_of_ble_eq_true rfl) E0_b (fun _ _ _ _ _ _ => trivial) rfl dL_law_743 [.int r, .int r] rfl ?_
  exact sm_icmp_eq (tgt := 1263) F dL_law_746 (by decide) (fun _ => kk n' W' x' d' h') (fun z => absurd rfl z)
set_option maxRecDepth 100000 in
set_option maxHeartbeats 4000000 in
/-- 19: save -/
theorem lw_c19 {p : Program} {l : Launch} {e : Env} {s : State} {m : MethodId} {below : List Frame} {meth : Method} {c : Code} {D : va_G} {A : Nat → Prop} {cI cZ cO : ClassId} {b L : Nat} {xs : Nat → Int32} {a a' : Nat → Nat} {adK adV : Nat → Nat} {zf : Option Nat} {i : Nat} (F : smF p s m #[Value.ref b] meth c cL_law 4 ret RL D (tyL cI cZ cO) A) (hE : LE s b L xs A adK adV zf) (hi : i + 5 ≤ L) (kk : ∀ (n W : Nat) (x : XS) (d : DS), XR n W x d → Sm p l e room_1 s m #[Value.ref b] below meth c D A 4 56 1216 (lw_Z below #[Value.ref b] s) 1263 [(0, .ref b), (1, .ref (a 0)), (2, .ref (a' 0)), (3, .int (nI i))] [] (wX cI cZ cO a x ++ wD cI cZ cO a' d)) {n W : Nat} {x : XS} {d : DS} (h : XR n W x d) : Sm p l e room_1 s m #[Value.ref b] below meth c D A 4 56 1216 (lw_Z below #[Value.ref b] s) 751 [(0, .ref b), (1, .ref (a 0)), (2, .ref (a' 0)), (3, .int (nI i))] [] (wX cI cZ cO a x ++ wD cI cZ cO a' d) := by
  obtain ⟨r, x', d', n', W', hx, hd, h'⟩ := m_save h (xs (Int32.toNatClampNeg (nI i + (1 : Int32))))
  refine sm_aload_n F dL_law_751 rfl 1 rfl ?_
  refine sm_aload_n F dL_law_752 rfl 0 rfl ?_
  refine sm_iload_n F dL_law_753 rfl 3 rfl ?_
  refine sm_iconst F dL_law_754 kc_i_1 ?_
  refine sm_iadd F dL_law_755 ?_
  refine sm_sld F hE.1.1 hE.1.2.1 hE.1.2.2 (vpk (k := 1) (by omega) hE.2.2.2) dL_law_756 ?_
  refine sm_callV (rest := []) F (ct_X10_save l D cI cZ cO a hx) (cutLX cI cZ cO a a' x x' d) rfl rfl rfl qw4_5 qw4_6 qw4_7 qw1_1 qw4_8 hvX10_save ⟨Nat.le_of_ble_eq_true rfl, Nat.le_of_ble_eq_true rfl⟩ ⟨Nat.le_of_ble_eq_true rfl, Nat.le_of_ble_eq_true rfl⟩ 0 10 rfl rfl rfl rfl (Nat.le_of_ble_eq_true rfl) E0_b (fun _ _ _ _ _ _ => trivial) rfl dL_law_757 [.int r] rfl ?_
  refine sm_aload_n F dL_law_760 rfl 2 rfl ?_
  refine sm_aload_n F dL_law_761 rfl 0 rfl ?_
  refine sm_iload_n F dL_law_762 rfl 3 rfl ?_
  refine sm_iconst F dL_law_763 kc_i_1 ?_
  refine sm_iadd F dL_law_764 ?_
  refine sm_sld F hE.1.1 hE.1.2.1 hE.1.2.2 (vpk (k := 1) (by omega) hE.2.2.2) dL_law_765 ?_
  refine sm_callV (rest := [.int r]) F (ct_X11_save l D cI cZ cO a' hd) (cutLD cI cZ cO a a' x' d d') rfl rfl rfl qw6_12 qw6_13 qw6_14 qw1_12 qw6_15 hvX11_save ⟨Nat.le_of_ble_eq_true rfl, Nat.le_of_ble_eq_true rfl⟩ ⟨Nat.le_of_ble_eq_true rfl, Nat.le_of_ble_eq_true rfl⟩ 0 11 rfl rfl rfl rfl (Nat.le_of_ble_eq_true rfl) E0_b (fun _ _ _ _ _ _ => trivial) rfl dL_law_766 [.int r, .int r] rfl ?_
  exact sm_icmp_eq (tgt := 1263) F dL_law_769 (by decide) (fun _ => kk n' W' x' d' h') (fun z => absurd rfl z)
set_option maxRecDepth 100000 in
set_option maxHeartbeats 4000000 in
/-- 20: bring -/
theorem lw_c20 {p : Program} {l : Launch} {e : Env} {s : State} {m : MethodId} {below : List Frame} {meth : Method} {c : Code} {D : va_G} {A : Nat → Prop} {cI cZ cO : ClassId} {b L : Nat} {xs : Nat → Int32} {a a' : Nat → Nat} {adK adV : Nat → Nat} {zf : Option Nat} {i : Nat} (F : smF p s m #[Value.ref b] meth c cL_law 4 ret RL D (tyL cI cZ cO) A) (hE : LE s b L xs A adK adV zf) (hi : i + 5 ≤ L) (kk : ∀ (n W : Nat) (x : XS) (d : DS), XR n W x d → Sm p l e room_1 s m #[Value.ref b] below meth c D A 4 56 1216 (lw_Z below #[Value.ref b] s) 1263 [(0, .ref b), (1, .ref (a 0)), (2, .ref (a' 0)), (3, .int (nI i))] [] (wX cI cZ cO a x ++ wD cI cZ cO a' d)) {n W : Nat} {x : XS} {d : DS} (h : XR n W x d) : Sm p l e room_1 s m #[Value.ref b] below meth c D A 4 56 1216 (lw_Z below #[Value.ref b] s) 774 [(0, .ref b), (1, .ref (a 0)), (2, .ref (a' 0)), (3, .int (nI i))] [] (wX cI cZ cO a x ++ wD cI cZ cO a' d) := by
  obtain ⟨r, x', d', n', W', hx, hd, h'⟩ := m_bring h (xs (Int32.toNatClampNeg (nI i + (1 : Int32))))
  refine sm_aload_n F dL_law_774 rfl 1 rfl ?_
  refine sm_aload_n F dL_law_775 rfl 0 rfl ?_
  refine sm_iload_n F dL_law_776 rfl 3 rfl ?_
  refine sm_iconst F dL_law_777 kc_i_1 ?_
  refine sm_iadd F dL_law_778 ?_
  refine sm_sld F hE.1.1 hE.1.2.1 hE.1.2.2 (vpk (k := 1) (by omega) hE.2.2.2) dL_law_779 ?_
  refine sm_callV (rest := []) F (ct_X10_bring l D cI cZ cO a hx) (cutLX cI cZ cO a a' x x' d) rfl rfl rfl qw4_15 qw4_16 qw4_17 qw1_1 qw4_18 hvX10_bring ⟨Nat.le_of_ble_eq_true rfl, Nat.le_of_ble_eq_true rfl⟩ ⟨Nat.le_of_ble_eq_true rfl, Nat.le_of_ble_eq_true rfl⟩ 0 10 rfl rfl rfl rfl (Nat.le_of_ble_eq_true rfl) E0_b (fun _ _ _ _ _ _ => trivial) rfl dL_law_780 [.int r] rfl ?_
  refine sm_aload_n F dL_law_783 rfl 2 rfl ?_
  refine sm_aload_n F dL_law_784 rfl 0 rfl ?_
  refine sm_iload_n F dL_law_785 rfl 3 rfl ?_
  refine sm_iconst F dL_law_786 kc_i_1 ?_
  refine sm_iadd F dL_law_787 ?_
  refine sm_sld F hE.1.1 hE.1.2.1 hE.1.2.2 (vpk (k := 1) (by omega) hE.2.2.2) dL_law_788 ?_
  refine sm_callV (rest := [.int r]) F (ct_X11_bring l D cI cZ cO a' hd) (cutLD cI cZ cO a a' x' d d') rfl rfl rfl qw6_16 qw6_17 qw6_18 qw1_12 qw6_19 hvX11_bring ⟨Nat.le_of_ble_eq_true rfl, Nat.le_of_ble_eq_true rfl⟩ ⟨Nat.le_of_ble_eq_true rfl, Nat.le_of_ble_eq_true rfl⟩ 0 11 rfl rfl rfl rfl (Nat.le_of_ble_eq_true rfl) E0_b (fun _ _ _ _ _ _ => trivial) rfl dL_law_789 [.int r, .int r] rfl ?_
  exact sm_icmp_eq (tgt := 1263) F dL_law_792 (by decide) (fun _ => kk n' W' x' d' h') (fun z => absurd rfl z)
set_option maxRecDepth 100000 in
set_option maxHeartbeats 4000000 in
/-- 21: league -/
theorem lw_c21 {p : Program} {l : Launch} {e : Env} {s : State} {m : MethodId} {below : List Frame} {meth : Method} {c : Code} {D : va_G} {A : Nat → Prop} {cI cZ cO : ClassId} {b L : Nat} {xs : Nat → Int32} {a a' : Nat → Nat} {adK adV : Nat → Nat} {zf : Option Nat} {i : Nat} (F : smF p s m #[Value.ref b] meth c cL_law 4 ret RL D (tyL cI cZ cO) A) (hE : LE s b L xs A adK adV zf) (hi : i + 5 ≤ L) (kk : ∀ (n W : Nat) (x : XS) (d : DS), XR n W x d → Sm p l e room_1 s m #[Value.ref b] below meth c D A 4 56 1216 (lw_Z below #[Value.ref b] s) 1263 [(0, .ref b), (1, .ref (a 0)), (2, .ref (a' 0)), (3, .int (nI i))] [] (wX cI cZ cO a x ++ wD cI cZ cO a' d)) {n W : Nat} {x : XS} {d : DS} (h : XR n W x d) : Sm p l e room_1 s m #[Value.ref b] below meth c D A 4 56 1216 (lw_Z below #[Value.ref b] s) 797 [(0, .ref b), (1, .ref (a 0)), (2, .ref (a' 0)), (3, .int (nI i))] [] (wX cI cZ cO a x ++ wD cI cZ cO a' d) := by
  obtain ⟨r, x', d', n', W', hx, hd, h'⟩ := m_league h (xs (Int32.toNatClampNeg (nI i + (1 : Int32))))
  refine sm_aload_n F dL_law_797 rfl 1 rfl ?_
  refine sm_aload_n F dL_law_798 rfl 0 rfl ?_
  refine sm_iload_n F dL_law_799 rfl 3 rfl ?_
  refine sm_iconst F dL_law_800 kc_i_1 ?_
  refine sm_iadd F dL_law_801 ?_
  refine sm_sld F hE.1.1 hE.1.2.1 hE.1.2.2 (vpk (k := 1) (by omega) hE.2.2.2) dL_law_802 ?_
  refine sm_callV (rest := []) F (ct_X10_league l D cI cZ cO a hx) (cutLX cI cZ cO a a' x x' d) rfl rfl rfl qw4_30 qw4_31 qw4_32 qw1_1 qw4_33 hvX10_league ⟨Nat.le_of_ble_eq_true rfl, Nat.le_of_ble_eq_true rfl⟩ ⟨Nat.le_of_ble_eq_true rfl, Nat.le_of_ble_eq_true rfl⟩ 0 10 rfl rfl rfl rfl (Nat.le_of_ble_eq_true rfl) E0_b (fun _ _ _ _ _ _ => trivial) rfl dL_law_803 [.int r] rfl ?_
  refine sm_aload_n F dL_law_806 rfl 2 rfl ?_
  refine sm_aload_n F dL_law_807 rfl 0 rfl ?_
  refine sm_iload_n F dL_law_808 rfl 3 rfl ?_
  refine sm_iconst F dL_law_809 kc_i_1 ?_
  refine sm_iadd F dL_law_810 ?_
  refine sm_sld F hE.1.1 hE.1.2.1 hE.1.2.2 (vpk (k := 1) (by omega) hE.2.2.2) dL_law_811 ?_
  refine sm_callV (rest := [.int r]) F (ct_X11_league l D cI cZ cO a' hd) (cutLD cI cZ cO a a' x' d d') rfl rfl rfl qw6_20 qw6_21 qw6_22 qw1_12 qw6_23 hvX11_league ⟨Nat.le_of_ble_eq_true rfl, Nat.le_of_ble_eq_true rfl⟩ ⟨Nat.le_of_ble_eq_true rfl, Nat.le_of_ble_eq_true rfl⟩ 0 11 rfl rfl rfl rfl (Nat.le_of_ble_eq_true rfl) E0_b (fun _ _ _ _ _ _ => trivial) rfl dL_law_812 [.int r, .int r] rfl ?_
  exact sm_icmp_eq (tgt := 1263) F dL_law_815 (by decide) (fun _ => kk n' W' x' d' h') (fun z => absurd rfl z)
set_option maxRecDepth 100000 in
set_option maxHeartbeats 4000000 in
/-- 22: largest -/
theorem lw_c22 {p : Program} {l : Launch} {e : Env} {s : State} {m : MethodId} {below : List Frame} {meth : Method} {c : Code} {D : va_G} {A : Nat → Prop} {cI cZ cO : ClassId} {b L : Nat} {xs : Nat → Int32} {a a' : Nat → Nat} {adK adV : Nat → Nat} {zf : Option Nat} {i : Nat} (F : smF p s m #[Value.ref b] meth c cL_law 4 ret RL D (tyL cI cZ cO) A) (hE : LE s b L xs A adK adV zf) (hi : i + 5 ≤ L) (kk : ∀ (n W : Nat) (x : XS) (d : DS), XR n W x d → Sm p l e room_1 s m #[Value.ref b] below meth c D A 4 56 1216 (lw_Z below #[Value.ref b] s) 1263 [(0, .ref b), (1, .ref (a 0)), (2, .ref (a' 0)), (3, .int (nI i))] [] (wX cI cZ cO a x ++ wD cI cZ cO a' d)) {n W : Nat} {x : XS} {d : DS} (h : XR n W x d) : Sm p l e room_1 s m #[Value.ref b] below meth c D A 4 56 1216 (lw_Z below #[Value.ref b] s) 820 [(0, .ref b), (1, .ref (a 0)), (2, .ref (a' 0)), (3, .int (nI i))] [] (wX cI cZ cO a x ++ wD cI cZ cO a' d) := by
  obtain ⟨r, x', d', n', W', hx, hd, h'⟩ := m_largest h (xs (Int32.toNatClampNeg (nI i + (1 : Int32))))
  refine sm_aload_n F dL_law_820 rfl 1 rfl ?_
  refine sm_aload_n F dL_law_821 rfl 0 rfl ?_
  refine sm_iload_n F dL_law_822 rfl 3 rfl ?_
  refine sm_iconst F dL_law_823 kc_i_1 ?_
  refine sm_iadd F dL_law_824 ?_
  refine sm_sld F hE.1.1 hE.1.2.1 hE.1.2.2 (vpk (k := 1) (by omega) hE.2.2.2) dL_law_825 ?_
  refine sm_callV (rest := []) F (ct_X10_largest l D cI cZ cO a hx) (cutLX cI cZ cO a a' x x' d) rfl rfl rfl qw4_40 qw4_41 qw4_42 qw1_1 qw4_43 hvX10_largest ⟨Nat.le_of_ble_eq_true rfl, Nat.le_of_ble_eq_true rfl⟩ ⟨Nat.le_of_ble_eq_true rfl, Nat.le_of_ble_eq_true rfl⟩ 0 10 rfl rfl rfl rfl (Nat.le_of_ble_eq_true rfl) E0_b (fun _ _ _ _ _ _ => trivial) rfl dL_law_826 [.int r] rfl ?_
  refine sm_aload_n F dL_law_829 rfl 2 rfl ?_
  refine sm_aload_n F dL_law_830 rfl 0 rfl ?_
  refine sm_iload_n F dL_law_831 rfl 3 rfl ?_
  refine sm_iconst F dL_law_832 kc_i_1 ?_
  refine sm_iadd F dL_law_833 ?_
  refine sm_sld F hE.1.1 hE.1.2.1 hE.1.2.2 (vpk (k := 1) (by omega) hE.2.2.2) dL_law_834 ?_
  refine sm_callV (rest := [.int r]) F (ct_X11_largest l D cI cZ cO a' hd) (cutLD cI cZ cO a a' x' d d') rfl rfl rfl qw6_28 qw6_29 qw6_30 qw1_12 qw6_31 hvX11_largest ⟨Nat.le_of_ble_eq_true rfl, Nat.le_of_ble_eq_true rfl⟩ ⟨Nat.le_of_ble_eq_true rfl, Nat.le_of_ble_eq_true rfl⟩ 0 11 rfl rfl rfl rfl (Nat.le_of_ble_eq_true rfl) E0_b (fun _ _ _ _ _ _ => trivial) rfl dL_law_835 [.int r, .int r] rfl ?_
  exact sm_icmp_eq (tgt := 1263) F dL_law_838 (by decide) (fun _ => kk n' W' x' d' h') (fun z => absurd rfl z)
set_option maxRecDepth 100000 in
set_option maxHeartbeats 4000000 in
/-- 23: cold -/
theorem lw_c23 {p : Program} {l : Launch} {e : Env} {s : State} {m : MethodId} {below : List Frame} {meth : Method} {c : Code} {D : va_G} {A : Nat → Prop} {cI cZ cO : ClassId} {b L : Nat} {xs : Nat → Int32} {a a' : Nat → Nat} {adK adV : Nat → Nat} {zf : Option Nat} {i : Nat} (F : smF p s m #[Value.ref b] meth c cL_law 4 ret RL D (tyL cI cZ cO) A) (hE : LE s b L xs A adK adV zf) (hi : i + 5 ≤ L) (kk : ∀ (n W : Nat) (x : XS) (d : DS), XR n W x d → Sm p l e room_1 s m #[Value.ref b] below meth c D A 4 56 1216 (lw_Z below #[Value.ref b] s) 1263 [(0, .ref b), (1, .ref (a 0)), (2, .ref (a' 0)), (3, .int (nI i))] [] (wX cI cZ cO a x ++ wD cI cZ cO a' d)) {n W : Nat} {x : XS} {d : DS} (h : XR n W x d) : Sm p l e room_1 s m #[Value.ref b] below meth c D A 4 56 1216 (lw_Z below #[Value.ref b] s) 843 [(0, .ref b), (1, .ref (a 0)), (2, .ref (a' 0)), (3, .int (nI i))] [] (wX cI cZ cO a x ++ wD cI cZ cO a' d) := by
  obtain ⟨r, x', d', n', W', hx, hd, h'⟩ := m_cold h (xs (Int32.toNatClampNeg (nI i + (1 : Int32))))
  refine sm_aload_n F dL_law_843 rfl 1 rfl ?_
  refine sm_aload_n F dL_law_844 rfl 0 rfl ?_
  refine sm_iload_n F dL_law_845 rfl 3 rfl ?_
  refine sm_iconst F dL_law_846 kc_i_1 ?_
  refine sm_iadd F dL_law_847 ?_
  refine sm_sld F hE.1.1 hE.1.2.1 hE.1.2.2 (vpk (k := 1) (by omega) hE.2.2.2) dL_law_848 ?_
  refine sm_callV (rest := []) F (ct_X10_cold l D cI cZ cO a hx) (cutLX cI cZ cO a a' x x' d) rfl rfl rfl qw4_55 qw4_56 qw4_57 qw1_1 qw4_58 hvX10_cold ⟨Nat.le_of_ble_eq_true rfl, Nat.le_of_ble_eq_true rfl⟩ ⟨Nat.le_of_ble_eq_true rfl, Nat.le_of_ble_eq_true rfl⟩ 0 10 rfl rfl rfl rfl (Nat.le_of_ble_eq_true rfl) E0_b (fun _ _ _ _ _ _ => trivial) rfl dL_law_849 [.int r] rfl ?_
  refine sm_aload_n F dL_law_852 rfl 2 rfl ?_
  refine sm_aload_n F dL_law_853 rfl 0 rfl ?_
  refine sm_iload_n F dL_law_854 rfl 3 rfl ?_
  refine sm_iconst F dL_law_855 kc_i_1 ?_
  refine sm_iadd F dL_law_856 ?_
  refine sm_sld F hE.1.1 hE.1.2.1 hE.1.2.2 (vpk (k := 1) (by omega) hE.2.2.2) dL_law_857 ?_
  refine sm_callV (rest := [.int r]) F (ct_X11_cold l D cI cZ cO a' hd) (cutLD cI cZ cO a a' x' d d') rfl rfl rfl qw6_35 qw6_36 qw6_37 qw1_12 qw6_38 hvX11_cold ⟨Nat.le_of_ble_eq_true rfl, Nat.le_of_ble_eq_true rfl⟩ ⟨Nat.le_of_ble_eq_true rfl, Nat.le_of_ble_eq_true rfl⟩ 0 11 rfl rfl rfl rfl (Nat.le_of_ble_eq_true rfl) E0_b (fun _ _ _ _ _ _ => trivial) rfl dL_law_858 [.int r, .int r] rfl ?_
  exact sm_icmp_eq (tgt := 1263) F dL_law_861 (by decide) (fun _ => kk n' W' x' d' h') (fun z => absurd rfl z)
set_option maxRecDepth 100000 in
set_option maxHeartbeats 4000000 in
/-- 24: envy -/
theorem lw_c24 {p : Program} {l : Launch} {e : Env} {s : State} {m : MethodId} {below : List Frame} {meth : Method} {c : Code} {D : va_G} {A : Nat → Prop} {cI cZ cO : ClassId} {b L : Nat} {xs : Nat → Int32} {a a' : Nat → Nat} {adK adV : Nat → Nat} {zf : Option Nat} {i : Nat} (F : smF p s m #[Value.ref b] meth c cL_law 4 ret RL D (tyL cI cZ cO) A) (hE : LE s b L xs A adK adV zf) (hi : i + 5 ≤ L) (kk : ∀ (n W : Nat) (x : XS) (d : DS), XR n W x d → Sm p l e room_1 s m #[Value.ref b] below meth c D A 4 56 1216 (lw_Z below #[Value.ref b] s) 1263 [(0, .ref b), (1, .ref (a 0)), (2, .ref (a' 0)), (3, .int (nI i))] [] (wX cI cZ cO a x ++ wD cI cZ cO a' d)) {n W : Nat} {x : XS} {d : DS} (h : XR n W x d) : Sm p l e room_1 s m #[Value.ref b] below meth c D A 4 56 1216 (lw_Z below #[Value.ref b] s) 866 [(0, .ref b), (1, .ref (a 0)), (2, .ref (a' 0)), (3, .int (nI i))] [] (wX cI cZ cO a x ++ wD cI cZ cO a' d) := by
  obtain ⟨r, x', d', n', W', hx, hd, h'⟩ := m_envy h (xs (Int32.toNatClampNeg (nI i + (1 : Int32))))
  refine sm_aload_n F dL_law_866 rfl 1 rfl ?_
  refine sm_aload_n F dL_law_867 rfl 0 rfl ?_
  refine sm_iload_n F dL_law_868 rfl 3 rfl ?_
  refine sm_iconst F dL_law_869 kc_i_1 ?_
  refine sm_iadd F dL_law_870 ?_
  refine sm_sld F hE.1.1 hE.1.2.1 hE.1.2.2 (vpk (k := 1) (by omega) hE.2.2.2) dL_law_871 ?_
  refine sm_callV (rest := []) F (ct_X10_envy l D cI cZ cO a hx) (cutLX cI cZ cO a a' x x' d) rfl rfl rfl qw4_71 qw4_72 qw4_73 qw1_1 qw4_74 hvX10_envy ⟨Nat.le_of_ble_eq_true rfl, Nat.le_of_ble_eq_true rfl⟩ ⟨Nat.le_of_ble_eq_true rfl, Nat.le_of_ble_eq_true rfl⟩ 0 10 rfl rfl rfl rfl (Nat.le_of_ble_eq_true rfl) E0_b (fun _ _ _ _ _ _ => trivial) rfl dL_law_872 [.int r] rfl ?_
  refine sm_aload_n F dL_law_875 rfl 2 rfl ?_
  refine sm_aload_n F dL_law_876 rfl 0 rfl ?_
  refine sm_iload_n F dL_law_877 rfl 3 rfl ?_
  refine sm_iconst F dL_law_878 kc_i_1 ?_
  refine sm_iadd F dL_law_879 ?_
  refine sm_sld F hE.1.1 hE.1.2.1 hE.1.2.2 (vpk (k := 1) (by omega) hE.2.2.2) dL_law_880 ?_
  refine sm_callV (rest := [.int r]) F (ct_X11_envy l D cI cZ cO a' hd) (cutLD cI cZ cO a a' x' d d') rfl rfl rfl qw6_39 qw6_40 qw6_41 qw1_12 qw6_42 hvX11_envy ⟨Nat.le_of_ble_eq_true rfl, Nat.le_of_ble_eq_true rfl⟩ ⟨Nat.le_of_ble_eq_true rfl, Nat.le_of_ble_eq_true rfl⟩ 0 11 rfl rfl rfl rfl (Nat.le_of_ble_eq_true rfl) E0_b (fun _ _ _ _ _ _ => trivial) rfl dL_law_881 [.int r, .int r] rfl ?_
  exact sm_icmp_eq (tgt := 1263) F dL_law_884 (by decide) (fun _ => kk n' W' x' d' h') (fun z => absurd rfl z)
set_option maxRecDepth 100000 in
set_option maxHeartbeats 4000000 in
/-- 25: power -/
theorem lw_c25 {p : Program} {l : Launch} {e : Env} {s : State} {m : MethodId} {below : List Frame} {meth : Method} {c : Code} {D : va_G} {A : Nat → Prop} {cI cZ cO : ClassId} {b L : Nat} {xs : Nat → Int32} {a a' : Nat → Nat} {adK adV : Nat → Nat} {zf : Option Nat} {i : Nat} (F : smF p s m #[Value.ref b] meth c cL_law 4 ret RL D (tyL cI cZ cO) A) (hE : LE s b L xs A adK adV zf) (hi : i + 5 ≤ L) (kk : ∀ (n W : Nat) (x : XS) (d : DS), XR n W x d → Sm p l e room_1 s m #[Value.ref b] below meth c D A 4 56 1216 (lw_Z below #[Value.ref b] s) 1263 [(0, .ref b), (1, .ref (a 0)), (2, .ref (a' 0)), (3, .int (nI i))] [] (wX cI cZ cO a x ++ wD cI cZ cO a' d)) {n W : Nat} {x : XS} {d : DS} (h : XR n W x d) : Sm p l e room_1 s m #[Value.ref b] below meth c D A 4 56 1216 (lw_Z below #[Value.ref b] s) 889 [(0, .ref b), (1, .ref (a 0)), (2, .ref (a' 0)), (3, .int (nI i))] [] (wX cI cZ cO a x ++ wD cI cZ cO a' d) := by
  obtain ⟨r, x', d', n', W', hx, hd, h'⟩ := m_power h (xs (Int32.toNatClampNeg (nI i + (1 : Int32)))) (xs (Int32.toNatClampNeg (nI i + (2 : Int32))))
  refine sm_aload_n F dL_law_889 rfl 1 rfl ?_
  refine sm_aload_n F dL_law_890 rfl 0 rfl ?_
  refine sm_iload_n F dL_law_891 rfl 3 rfl ?_
  refine sm_iconst F dL_law_892 kc_i_1 ?_
  refine sm_iadd F dL_law_893 ?_
  refine sm_sld F hE.1.1 hE.1.2.1 hE.1.2.2 (vpk (k := 1) (by omega) hE.2.2.2) dL_law_894 ?_
  refine sm_aload_n F dL_law_895 rfl 0 rfl ?_
  refine sm_iload_n F dL_law_896 rfl 3 rfl ?_
  refine sm_iconst F dL_law_897 kc_i_2 ?_
  refine sm_iadd F dL_law_898 ?_
  refine sm_sld F hE.1.1 hE.1.2.1 hE.1.2.2 (vpk (k := 2) (by omega) hE.2.2.2) dL_law_899 ?_
  refine sm_callV (rest := []) F (ct_X10_power l D cI cZ cO a hx) (cutLX cI cZ cO a a' x x' d) rfl rfl rfl qw4_79 qw4_80 qw4_81 qw1_1 qw4_82 hvX10_power ⟨Nat.le_of_ble_eq_true rfl, Nat.le_of_ble_eq_true rfl⟩ ⟨Nat.le_of_ble_eq_true rfl, Nat.le_of_ble_eq_true rfl⟩ 0 10 rfl rfl rfl rfl (Nat.le_of_ble_eq_true rfl) E0_b (fun _ _ _ _ _ _ => trivial) rfl dL_law_900 [.int r] rfl ?_
  refine sm_aload_n F dL_law_903 rfl 2 rfl ?_
  refine sm_aload_n F dL_law_904 rfl 0 rfl ?_
  refine sm_iload_n F dL_law_905 rfl 3 rfl ?_
  refine sm_iconst F dL_law_906 kc_i_1 ?_
  refine sm_iadd F dL_law_907 ?_
  refine sm_sld F hE.1.1 hE.1.2.1 hE.1.2.2 (vpk (k := 1) (by omega) hE.2.2.2) dL_law_908 ?_
  refine sm_aload_n F dL_law_909 rfl 0 rfl ?_
  refine sm_iload_n F dL_law_910 rfl 3 rfl ?_
  refine sm_iconst F dL_law_911 kc_i_2 ?_
  refine sm_iadd F dL_law_912 ?_
  refine sm_sld F hE.1.1 hE.1.2.1 hE.1.2.2 (vpk (k := 2) (by omega) hE.2.2.2) dL_law_913 ?_
  refine sm_callV (rest := [.int r]) F (ct_X11_power l D cI cZ cO a' hd) (cutLD cI cZ cO a a' x' d d') rfl rfl rfl qw6_43 qw6_44 qw6_45 qw1_12 qw6_46 hvX11_power ⟨Nat.le_of_ble_eq_true rfl, Nat.le_of_ble_eq_true rfl⟩ ⟨Nat.le_of_ble_eq_true rfl, Nat.le_of_ble_eq_true rfl⟩ 0 11 rfl rfl rfl rfl (Nat.le_of_ble_eq_true rfl) E0_b (fun _ _ _ _ _ _ => trivial) rfl dL_law_914 [.int r, .int r] rfl ?_
  exact sm_icmp_eq (tgt := 1263) F dL_law_917 (by decide) (fun _ => kk n' W' x' d' h') (fun z => absurd rfl z)
set_option maxRecDepth 100000 in
set_option maxHeartbeats 4000000 in
/-- 26: voids -/
theorem lw_c26 {p : Program} {l : Launch} {e : Env} {s : State} {m : MethodId} {below : List Frame} {meth : Method} {c : Code} {D : va_G} {A : Nat → Prop} {cI cZ cO : ClassId} {b L : Nat} {xs : Nat → Int32} {a a' : Nat → Nat} {adK adV : Nat → Nat} {zf : Option Nat} {i : Nat} (F : smF p s m #[Value.ref b] meth c cL_law 4 ret RL D (tyL cI cZ cO) A) (hE : LE s b L xs A adK adV zf) (hi : i + 5 ≤ L) (kk : ∀ (n W : Nat) (x : XS) (d : DS), XR n W x d → Sm p l e room_1 s m #[Value.ref b] below meth c D A 4 56 1216 (lw_Z below #[Value.ref b] s) 1263 [(0, .ref b), (1, .ref (a 0)), (2, .ref (a' 0)), (3, .int (nI i))] [] (wX cI cZ cO a x ++ wD cI cZ cO a' d)) {n W : Nat} {x : XS} {d : DS} (h : XR n W x d) : Sm p l e room_1 s m #[Value.ref b] below meth c D A 4 56 1216 (lw_Z below #[Value.ref b] s) 922 [(0, .ref b), (1, .ref (a 0)), (2, .ref (a' 0)), (3, .int (nI i))] [] (wX cI cZ cO a x ++ wD cI cZ cO a' d) := by
  obtain ⟨r, x', d', n', W', hx, hd, h'⟩ := m_voids h (xs (Int32.toNatClampNeg (nI i + (1 : Int32))))
  refine sm_aload_n F dL_law_922 rfl 1 rfl ?_
  refine sm_aload_n F dL_law_923 rfl 0 rfl ?_
  refine sm_iload_n F dL_law_924 rfl 3 rfl ?_
  refine sm_iconst F dL_law_925 kc_i_1 ?_
  refine sm_iadd F dL_law_926 ?_
  refine sm_sld F hE.1.1 hE.1.2.1 hE.1.2.2 (vpk (k := 1) (by omega) hE.2.2.2) dL_law_927 ?_
  refine sm_callV (rest := []) F (ct_X10_voids l D cI cZ cO a hx) (cutLX cI cZ cO a a' x x' d) rfl rfl rfl qw4_92 qw4_93 qw4_94 qw1_1 qw4_95 hvX10_voids ⟨Nat.le_of_ble_eq_true rfl, Nat.le_of_ble_eq_true rfl⟩ ⟨Nat.le_of_ble_eq_true rfl, Nat.le_of_ble_eq_true rfl⟩ 0 10 rfl rfl rfl rfl (Nat.le_of_ble_eq_true rfl) E0_b (fun _ _ _ _ _ _ => trivial) rfl dL_law_928 [.int r] rfl ?_
  refine sm_aload_n F dL_law_931 rfl 2 rfl ?_
  refine sm_aload_n F dL_law_932 rfl 0 rfl ?_
  refine sm_iload_n F dL_law_933 rfl 3 rfl ?_
  refine sm_iconst F dL_law_934 kc_i_1 ?_
  refine sm_iadd F dL_law_935 ?_
  refine sm_sld F hE.1.1 hE.1.2.1 hE.1.2.2 (vpk (k := 1) (by omega) hE.2.2.2) dL_law_936 ?_
  refine sm_callV (rest := [.int r]) F (ct_X11_voids l D cI cZ cO a' hd) (cutLD cI cZ cO a a' x' d d') rfl rfl rfl qw6_47 qw6_48 qw6_49 qw1_12 qw6_50 hvX11_voids ⟨Nat.le_of_ble_eq_true rfl, Nat.le_of_ble_eq_true rfl⟩ ⟨Nat.le_of_ble_eq_true rfl, Nat.le_of_ble_eq_true rfl⟩ 0 11 rfl rfl rfl rfl (Nat.le_of_ble_eq_true rfl) E0_b (fun _ _ _ _ _ _ => trivial) rfl dL_law_937 [.int r, .int r] rfl ?_
  exact sm_icmp_eq (tgt := 1263) F dL_law_940 (by decide) (fun _ => kk n' W' x' d' h') (fun z => absurd rfl z)
set_option maxRecDepth 100000 in
set_option maxHeartbeats 4000000 in
/-- 27: hill -/
theorem lw_c27 {p : Program} {l : Launch} {e : Env} {s : State} {m : MethodId} {below : List Frame} {meth : Method} {c : Code} {D : va_G} {A : Nat → Prop} {cI cZ cO : ClassId} {b L : Nat} {xs : Nat → Int32} {a a' : Nat → Nat} {adK adV : Nat → Nat} {zf : Option Nat} {i : Nat} (F : smF p s m #[Value.ref b] meth c cL_law 4 ret RL D (tyL cI cZ cO) A) (hE : LE s b L xs A adK adV zf) (hi : i + 5 ≤ L) (kk : ∀ (n W : Nat) (x : XS) (d : DS), XR n W x d → Sm p l e room_1 s m #[Value.ref b] below meth c D A 4 56 1216 (lw_Z below #[Value.ref b] s) 1263 [(0, .ref b), (1, .ref (a 0)), (2, .ref (a' 0)), (3, .int (nI i))] [] (wX cI cZ cO a x ++ wD cI cZ cO a' d)) {n W : Nat} {x : XS} {d : DS} (h : XR n W x d) : Sm p l e room_1 s m #[Value.ref b] below meth c D A 4 56 1216 (lw_Z below #[Value.ref b] s) 945 [(0, .ref b), (1, .ref (a 0)), (2, .ref (a' 0)), (3, .int (nI i))] [] (wX cI cZ cO a x ++ wD cI cZ cO a' d) := by
  obtain ⟨r, hx, hd⟩ := m_hill h 
  refine sm_aload_n F dL_law_945 rfl 1 rfl ?_
  refine sm_callV (rest := []) F (ct_X10_hill l D cI cZ cO a hx) (cutLX cI cZ cO a a' x x d) rfl rfl rfl qw4_100 qw4_101 qw4_102 qw1_1 qw4_103 hvX10_hill ⟨Nat.le_of_ble_eq_true rfl, Nat.le_of_ble_eq_true rfl⟩ ⟨Nat.le_of_ble_eq_true rfl, Nat.le_of_ble_eq_true rfl⟩ 0 10 rfl rfl rfl rfl (Nat.le_of_ble_eq_true rfl) E0_b (fun _ _ _ _ _ _ => trivial) rfl dL_law_946 [.int r] rfl ?_
  refine sm_aload_n F dL_law_949 rfl 2 rfl ?_
  refine sm_callV (rest := [.int r]) F (ct_X11_hill l D cI cZ cO a' hd) (cutLD cI cZ cO a a' x d d) rfl rfl rfl qw6_51 qw6_52 qw6_53 qw1_12 qw6_54 hvX11_hill ⟨Nat.le_of_ble_eq_true rfl, Nat.le_of_ble_eq_true rfl⟩ ⟨Nat.le_of_ble_eq_true rfl, Nat.le_of_ble_eq_true rfl⟩ 0 11 rfl rfl rfl rfl (Nat.le_of_ble_eq_true rfl) E0_b (fun _ _ _ _ _ _ => trivial) rfl dL_law_950 [.int r, .int r] rfl ?_
  exact sm_icmp_eq (tgt := 1263) F dL_law_953 (by decide) (fun _ => kk n W x d h) (fun z => absurd rfl z)
set_option maxRecDepth 100000 in
set_option maxHeartbeats 4000000 in
/-- 28: two -/
theorem lw_c28 {p : Program} {l : Launch} {e : Env} {s : State} {m : MethodId} {below : List Frame} {meth : Method} {c : Code} {D : va_G} {A : Nat → Prop} {cI cZ cO : ClassId} {b L : Nat} {xs : Nat → Int32} {a a' : Nat → Nat} {adK adV : Nat → Nat} {zf : Option Nat} {i : Nat} (F : smF p s m #[Value.ref b] meth c cL_law 4 ret RL D (tyL cI cZ cO) A) (hE : LE s b L xs A adK adV zf) (hi : i + 5 ≤ L) (kk : ∀ (n W : Nat) (x : XS) (d : DS), XR n W x d → Sm p l e room_1 s m #[Value.ref b] below meth c D A 4 56 1216 (lw_Z below #[Value.ref b] s) 1263 [(0, .ref b), (1, .ref (a 0)), (2, .ref (a' 0)), (3, .int (nI i))] [] (wX cI cZ cO a x ++ wD cI cZ cO a' d)) {n W : Nat} {x : XS} {d : DS} (h : XR n W x d) : Sm p l e room_1 s m #[Value.ref b] below meth c D A 4 56 1216 (lw_Z below #[Value.ref b] s) 958 [(0, .ref b), (1, .ref (a 0)), (2, .ref (a' 0)), (3, .int (nI i))] [] (wX cI cZ cO a x ++ wD cI cZ cO a' d) := by
  obtain ⟨r, x', d', n', W', hx, hd, h'⟩ := m_two h (xs (Int32.toNatClampNeg (nI i + (1 : Int32)))) (xs (Int32.toNatClampNeg (nI i + (2 : Int32)))) (xs (Int32.toNatClampNeg (nI i + (3 : Int32))))
  refine sm_aload_n F dL_law_958 rfl 1 rfl ?_
  refine sm_aload_n F dL_law_959 rfl 0 rfl ?_
  refine sm_iload_n F dL_law_960 rfl 3 rfl ?_
  refine sm_iconst F dL_law_961 kc_i_1 ?_
  refine sm_iadd F dL_law_962 ?_
  refine sm_sld F hE.1.1 hE.1.2.1 hE.1.2.2 (vpk (k := 1) (by omega) hE.2.2.2) dL_law_963 ?_
  refine sm_aload_n F dL_law_964 rfl 0 rfl ?_
  refine sm_iload_n F dL_law_965 rfl 3 rfl ?_
  refine sm_iconst F dL_law_966 kc_i_2 ?_
  refine sm_iadd F dL_law_967 ?_
  refine sm_sld F hE.1.1 hE.1.2.1 hE.1.2.2 (vpk (k := 2) (by omega) hE.2.2.2) dL_law_968 ?_
  refine sm_aload_n F dL_law_969 rfl 0 rfl ?_
  refine sm_iload_n F dL_law_970 rfl 3 rfl ?_
  refine sm_iconst F dL_law_971 kc_i_3 ?_
  refine sm_iadd F dL_law_972 ?_
  refine sm_sld F hE.1.1 hE.1.2.1 hE.1.2.2 (vpk (k := 3) (by omega) hE.2.2.2) dL_law_973 ?_
  refine sm_callV (rest := []) F (ct_X10_two l D cI cZ cO a hx) (cutLX cI cZ cO a a' x x' d) rfl rfl rfl qw4_108 qw4_109 qw4_110 qw1_1 qw4_111 hvX10_two ⟨Nat.le_of_ble_eq_true rfl, Nat.le_of_ble_eq_true rfl⟩ ⟨Nat.le_of_ble_eq_true rfl, Nat.le_of_ble_eq_true rfl⟩ 0 10 rfl rfl rfl rfl (Nat.le_of_ble_eq_true rfl) E0_b (fun _ _ _ _ _ _ => trivial) rfl dL_law_974 [.int r] rfl ?_
  refine sm_aload_n F dL_law_977 rfl 2 rfl ?_
  refine sm_aload_n F dL_law_978 rfl 0 rfl ?_
  refine sm_iload_n F dL_law_979 rfl 3 rfl ?_
  refine sm_iconst F dL_law_980 kc_i_1 ?_
  refine sm_iadd F dL_law_981 ?_
  refine sm_sld F hE.1.1 hE.1.2.1 hE.1.2.2 (vpk (k := 1) (by omega) hE.2.2.2) dL_law_982 ?_
  refine sm_aload_n F dL_law_983 rfl 0 rfl ?_
  refine sm_iload_n F dL_law_984 rfl 3 rfl ?_
  refine sm_iconst F dL_law_985 kc_i_2 ?_
  refine sm_iadd F dL_law_986 ?_
  refine sm_sld F hE.1.1 hE.1.2.1 hE.1.2.2 (vpk (k := 2) (by omega) hE.2.2.2) dL_law_987 ?_
  refine sm_aload_n F dL_law_988 rfl 0 rfl ?_
  refine sm_iload_n F dL_law_989 rfl 3 rfl ?_
  refine sm_iconst F dL_law_990 kc_i_3 ?_
  refine sm_iadd F dL_law_991 ?_
  refine sm_sld F hE.1.1 hE.1.2.1 hE.1.2.2 (vpk (k := 3) (by omega) hE.2.2.2) dL_law_992 ?_
  refine sm_callV (rest := [.int r]) F (ct_X11_two l D cI cZ cO a' hd) (cutLD cI cZ cO a a' x' d d') rfl rfl rfl qw6_55 qw6_56 qw6_57 qw1_12 qw6_58 hvX11_two ⟨Nat.le_of_ble_eq_true rfl, Nat.le_of_ble_eq_true rfl⟩ ⟨Nat.le_of_ble_eq_true rfl, Nat.le_of_ble_eq_true rfl⟩ 0 11 rfl rfl rfl rfl (Nat.le_of_ble_eq_true rfl) E0_b (fun _ _ _ _ _ _ => trivial) rfl dL_law_993 [.int r, .int r] rfl ?_
  exact sm_icmp_eq (tgt := 1263) F dL_law_996 (by decide) (fun _ => kk n' W' x' d' h') (fun z => absurd rfl z)
set_option maxRecDepth 100000 in
set_option maxHeartbeats 4000000 in
/-- 29: feast -/
theorem lw_c29 {p : Program} {l : Launch} {e : Env} {s : State} {m : MethodId} {below : List Frame} {meth : Method} {c : Code} {D : va_G} {A : Nat → Prop} {cI cZ cO : ClassId} {b L : Nat} {xs : Nat → Int32} {a a' : Nat → Nat} {adK adV : Nat → Nat} {zf : Option Nat} {i : Nat} (F : smF p s m #[Value.ref b] meth c cL_law 4 ret RL D (tyL cI cZ cO) A) (hE : LE s b L xs A adK adV zf) (hi : i + 5 ≤ L) (kk : ∀ (n W : Nat) (x : XS) (d : DS), XR n W x d → Sm p l e room_1 s m #[Value.ref b] below meth c D A 4 56 1216 (lw_Z below #[Value.ref b] s) 1263 [(0, .ref b), (1, .ref (a 0)), (2, .ref (a' 0)), (3, .int (nI i))] [] (wX cI cZ cO a x ++ wD cI cZ cO a' d)) {n W : Nat} {x : XS} {d : DS} (h : XR n W x d) : Sm p l e room_1 s m #[Value.ref b] below meth c D A 4 56 1216 (lw_Z below #[Value.ref b] s) 1001 [(0, .ref b), (1, .ref (a 0)), (2, .ref (a' 0)), (3, .int (nI i))] [] (wX cI cZ cO a x ++ wD cI cZ cO a' d) := by
  obtain ⟨r, x', d', n', W', hx, hd, h'⟩ := m_feast h (xs (Int32.toNatClampNeg (nI i + (1 : Int32)))) (xs (Int32.toNatClampNeg (nI i + (2 : Int32)))) (xs (Int32.toNatClampNeg (nI i + (3 : Int32)))) (xs (Int32.toNatClampNeg (nI i + (4 : Int32))))
  refine sm_aload_n F dL_law_1001 rfl 1 rfl ?_
  refine sm_aload_n F dL_law_1002 rfl 0 rfl ?_
  refine sm_iload_n F dL_law_1003 rfl 3 rfl ?_
  refine sm_iconst F dL_law_1004 kc_i_1 ?_
  refine sm_iadd F dL_law_1005 ?_
  refine sm_sld F hE.1.1 hE.1.2.1 hE.1.2.2 (vpk (k := 1) (by omega) hE.2.2.2) dL_law_1006 ?_
  refine sm_aload_n F dL_law_1007 rfl 0 rfl ?_
  refine sm_iload_n F dL_law_1008 rfl 3 rfl ?_
  refine sm_iconst F dL_law_1009 kc_i_2 ?_
  refine sm_iadd F dL_law_1010 ?_
  refine sm_sld F hE.1.1 hE.1.2.1 hE.1.2.2 (vpk (k := 2) (by omega) hE.2.2.2) dL_law_1011 ?_
  refine sm_aload_n F dL_law_1012 rfl 0 rfl ?_
  refine sm_iload_n F dL_law_1013 rfl 3 rfl ?_
  refine sm_iconst F dL_law_1014 kc_i_3 ?_
  refine sm_iadd F dL_law_1015 ?_
  refine sm_sld F hE.1.1 hE.1.2.1 hE.1.2.2 (vpk (k := 3) (by omega) hE.2.2.2) dL_law_1016 ?_
  refine sm_aload_n F dL_law_1017 rfl 0 rfl ?_
  refine sm_iload_n F dL_law_1018 rfl 3 rfl ?_
  refine sm_iconst F dL_law_1019 kc_i_4 ?_
  refine sm_iadd F dL_law_1020 ?_
  refine sm_sld F hE.1.1 hE.1.2.1 hE.1.2.2 (vpk (k := 4) (by omega) hE.2.2.2) dL_law_1021 ?_
  refine sm_callV (rest := []) F (ct_X10_feast l D cI cZ cO a hx) (cutLX cI cZ cO a a' x x' d) rfl rfl rfl qw4_130 qw4_131 qw4_132 qw1_1 qw4_133 hvX10_feast ⟨Nat.le_of_ble_eq_true rfl, Nat.le_of_ble_eq_true rfl⟩ ⟨Nat.le_of_ble_eq_true rfl, Nat.le_of_ble_eq_true rfl⟩ 0 10 rfl rfl rfl rfl (Nat.le_of_ble_eq_true rfl) EN_b (EN_w hE.2.2.1) rfl dL_law_1022 [.long r] rfl ?_
  refine sm_aload_n F dL_law_1025 rfl 2 rfl ?_
  refine sm_aload_n F dL_law_1026 rfl 0 rfl ?_
  refine sm_iload_n F dL_law_1027 rfl 3 rfl ?_
  refine sm_iconst F dL_law_1028 kc_i_1 ?_
  refine sm_iadd F dL_law_1029 ?_
  refine sm_sld F hE.1.1 hE.1.2.1 hE.1.2.2 (vpk (k := 1) (by omega) hE.2.2.2) dL_law_1030 ?_
  refine sm_aload_n F dL_law_1031 rfl 0 rfl ?_
  refine sm_iload_n F dL_law_1032 rfl 3 rfl ?_
  refine sm_iconst F dL_law_1033 kc_i_2 ?_
  refine sm_iadd F dL_law_1034 ?_
  refine sm_sld F hE.1.1 hE.1.2.1 hE.1.2.2 (vpk (k := 2) (by omega) hE.2.2.2) dL_law_1035 ?_
  refine sm_aload_n F dL_law_1036 rfl 0 rfl ?_
  refine sm_iload_n F dL_law_1037 rfl 3 rfl ?_
  refine sm_iconst F dL_law_1038 kc_i_3 ?_
  refine sm_iadd F dL_law_1039 ?_
  refine sm_sld F hE.1.1 hE.1.2.1 hE.1.2.2 (vpk (k := 3) (by omega) hE.2.2.2) dL_law_1040 ?_
  refine sm_aload_n F dL_law_1041 rfl 0 rfl ?_
  refine sm_iload_n F dL_law_1042 rfl 3 rfl ?_
  refine sm_iconst F dL_law_1043 kc_i_4 ?_
  refine sm_iadd F dL_law_1044 ?_
  refine sm_sld F hE.1.1 hE.1.2.1 hE.1.2.2 (vpk (k := 4) (by omega) hE.2.2.2) dL_law_1045 ?_
  refine sm_callV (rest := [.long r]) F (ct_X11_feast l D cI cZ cO a' hd) (cutLD cI cZ cO a a' x' d d') rfl rfl rfl qw6_67 qw6_68 qw6_69 qw1_12 qw6_70 hvX11_feast ⟨Nat.le_of_ble_eq_true rfl, Nat.le_of_ble_eq_true rfl⟩ ⟨Nat.le_of_ble_eq_true rfl, Nat.le_of_ble_eq_true rfl⟩ 0 11 rfl rfl rfl rfl (Nat.le_of_ble_eq_true rfl) E0_b (fun _ _ _ _ _ _ => trivial) rfl dL_law_1046 [.long r, .long r] rfl ?_
  refine sm_lcmp F dL_law_1049 ?_
  exact sm_if_eq (tgt := 1263) F dL_law_1050 (by decide) (fun _ => kk n' W' x' d' h') (fun z => absurd (lcs r) z)
set_option maxRecDepth 100000 in
set_option maxHeartbeats 4000000 in
/-- 30: mean -/
theorem lw_c30 {p : Program} {l : Launch} {e : Env} {s : State} {m : MethodId} {below : List Frame} {meth : Method} {c : Code} {D : va_G} {A : Nat → Prop} {cI cZ cO : ClassId} {b L : Nat} {xs : Nat → Int32} {a a' : Nat → Nat} {adK adV : Nat → Nat} {zf : Option Nat} {i : Nat} (F : smF p s m #[Value.ref b] meth c cL_law 4 ret RL D (tyL cI cZ cO) A) (hE : LE s b L xs A adK adV zf) (hi : i + 5 ≤ L) (kk : ∀ (n W : Nat) (x : XS) (d : DS), XR n W x d → Sm p l e room_1 s m #[Value.ref b] below meth c D A 4 56 1216 (lw_Z below #[Value.ref b] s) 1263 [(0, .ref b), (1, .ref (a 0)), (2, .ref (a' 0)), (3, .int (nI i))] [] (wX cI cZ cO a x ++ wD cI cZ cO a' d)) {n W : Nat} {x : XS} {d : DS} (h : XR n W x d) : Sm p l e room_1 s m #[Value.ref b] below meth c D A 4 56 1216 (lw_Z below #[Value.ref b] s) 1055 [(0, .ref b), (1, .ref (a 0)), (2, .ref (a' 0)), (3, .int (nI i))] [] (wX cI cZ cO a x ++ wD cI cZ cO a' d) := by
  obtain ⟨r, x', d', n', W', hx, hd, h'⟩ := m_mean h (xs (Int32.toNatClampNeg (nI i + (1 : Int32))))
  refine sm_aload_n F dL_law_1055 rfl 1 rfl ?_
  refine sm_aload_n F dL_law_1056 rfl 0 rfl ?_
  refine sm_iload_n F dL_law_1057 rfl 3 rfl ?_
  refine sm_iconst F dL_law_1058 kc_i_1 ?_
  refine sm_iadd F dL_law_1059 ?_
  refine sm_sld F hE.1.1 hE.1.2.1 hE.1.2.2 (vpk (k := 1) (by omega) hE.2.2.2) dL_law_1060 ?_
  refine sm_callV (rest := []) F (ct_X10_mean l D cI cZ cO a hx) (cutLX cI cZ cO a a' x x' d) rfl rfl rfl qw4_157 qw4_158 qw4_159 qw1_1 qw4_160 hvX10_mean ⟨Nat.le_of_ble_eq_true rfl, Nat.le_of_ble_eq_true rfl⟩ ⟨Nat.le_of_ble_eq_true rfl, Nat.le_of_ble_eq_true rfl⟩ 0 10 rfl rfl rfl rfl (Nat.le_of_ble_eq_true rfl) E0_b (fun _ _ _ _ _ _ => trivial) rfl dL_law_1061 [.long r] rfl ?_
  refine sm_aload_n F dL_law_1064 rfl 2 rfl ?_
  refine sm_aload_n F dL_law_1065 rfl 0 rfl ?_
  refine sm_iload_n F dL_law_1066 rfl 3 rfl ?_
  refine sm_iconst F dL_law_1067 kc_i_1 ?_
  refine sm_iadd F dL_law_1068 ?_
  refine sm_sld F hE.1.1 hE.1.2.1 hE.1.2.2 (vpk (k := 1) (by omega) hE.2.2.2) dL_law_1069 ?_
  refine sm_callV (rest := [.long r]) F (ct_X11_mean l D cI cZ cO a' hd) (cutLD cI cZ cO a a' x' d d') rfl rfl rfl qw6_85 qw6_86 qw6_87 qw1_12 qw6_88 hvX11_mean ⟨Nat.le_of_ble_eq_true rfl, Nat.le_of_ble_eq_true rfl⟩ ⟨Nat.le_of_ble_eq_true rfl, Nat.le_of_ble_eq_true rfl⟩ 0 11 rfl rfl rfl rfl (Nat.le_of_ble_eq_true rfl) E0_b (fun _ _ _ _ _ _ => trivial) rfl dL_law_1070 [.long r, .long r] rfl ?_
  refine sm_lcmp F dL_law_1073 ?_
  exact sm_if_eq (tgt := 1263) F dL_law_1074 (by decide) (fun _ => kk n' W' x' d' h') (fun z => absurd (lcs r) z)
set_option maxRecDepth 100000 in
set_option maxHeartbeats 4000000 in
/-- 31: whatIs -/
theorem lw_c31 {p : Program} {l : Launch} {e : Env} {s : State} {m : MethodId} {below : List Frame} {meth : Method} {c : Code} {D : va_G} {A : Nat → Prop} {cI cZ cO : ClassId} {b L : Nat} {xs : Nat → Int32} {a a' : Nat → Nat} {adK adV : Nat → Nat} {zf : Option Nat} {i : Nat} (F : smF p s m #[Value.ref b] meth c cL_law 4 ret RL D (tyL cI cZ cO) A) (hE : LE s b L xs A adK adV zf) (hi : i + 5 ≤ L) (kk : ∀ (n W : Nat) (x : XS) (d : DS), XR n W x d → Sm p l e room_1 s m #[Value.ref b] below meth c D A 4 56 1216 (lw_Z below #[Value.ref b] s) 1263 [(0, .ref b), (1, .ref (a 0)), (2, .ref (a' 0)), (3, .int (nI i))] [] (wX cI cZ cO a x ++ wD cI cZ cO a' d)) {n W : Nat} {x : XS} {d : DS} (h : XR n W x d) : Sm p l e room_1 s m #[Value.ref b] below meth c D A 4 56 1216 (lw_Z below #[Value.ref b] s) 1079 [(0, .ref b), (1, .ref (a 0)), (2, .ref (a' 0)), (3, .int (nI i))] [] (wX cI cZ cO a x ++ wD cI cZ cO a' d) := by
  obtain ⟨r, x', d', n', W', hx, hd, h'⟩ := m_whatIs h (xs (Int32.toNatClampNeg (nI i + (1 : Int32)))) (xs (Int32.toNatClampNeg (nI i + (2 : Int32)))) (xs (Int32.toNatClampNeg (nI i + (3 : Int32))))
  refine sm_aload_n F dL_law_1079 rfl 1 rfl ?_
  refine sm_aload_n F dL_law_1080 rfl 0 rfl ?_
  refine sm_iload_n F dL_law_1081 rfl 3 rfl ?_
  refine sm_iconst F dL_law_1082 kc_i_1 ?_
  refine sm_iadd F dL_law_1083 ?_
  refine sm_sld F hE.1.1 hE.1.2.1 hE.1.2.2 (vpk (k := 1) (by omega) hE.2.2.2) dL_law_1084 ?_
  refine sm_aload_n F dL_law_1085 rfl 0 rfl ?_
  refine sm_iload_n F dL_law_1086 rfl 3 rfl ?_
  refine sm_iconst F dL_law_1087 kc_i_2 ?_
  refine sm_iadd F dL_law_1088 ?_
  refine sm_sld F hE.1.1 hE.1.2.1 hE.1.2.2 (vpk (k := 2) (by omega) hE.2.2.2) dL_law_1089 ?_
  refine sm_aload_n F dL_law_1090 rfl 0 rfl ?_
  refine sm_iload_n F dL_law_1091 rfl 3 rfl ?_
  refine sm_iconst F dL_law_1092 kc_i_3 ?_
  refine sm_iadd F dL_law_1093 ?_
  refine sm_sld F hE.1.1 hE.1.2.1 hE.1.2.2 (vpk (k := 3) (by omega) hE.2.2.2) dL_law_1094 ?_
  refine sm_callV (rest := []) F (ct_X10_whatIs l D cI cZ cO a hx) (cutLX cI cZ cO a a' x x' d) rfl rfl rfl qw4_166 qw4_167 qw4_168 qw1_1 qw4_169 hvX10_whatIs ⟨Nat.le_of_ble_eq_true rfl, Nat.le_of_ble_eq_true rfl⟩ ⟨Nat.le_of_ble_eq_true rfl, Nat.le_of_ble_eq_true rfl⟩ 0 10 rfl rfl rfl rfl (Nat.le_of_ble_eq_true rfl) E0_b (fun _ _ _ _ _ _ => trivial) rfl dL_law_1095 [.int r] rfl ?_
  refine sm_aload_n F dL_law_1098 rfl 2 rfl ?_
  refine sm_aload_n F dL_law_1099 rfl 0 rfl ?_
  refine sm_iload_n F dL_law_1100 rfl 3 rfl ?_
  refine sm_iconst F dL_law_1101 kc_i_1 ?_
  refine sm_iadd F dL_law_1102 ?_
  refine sm_sld F hE.1.1 hE.1.2.1 hE.1.2.2 (vpk (k := 1) (by omega) hE.2.2.2) dL_law_1103 ?_
  refine sm_aload_n F dL_law_1104 rfl 0 rfl ?_
  refine sm_iload_n F dL_law_1105 rfl 3 rfl ?_
  refine sm_iconst F dL_law_1106 kc_i_2 ?_
  refine sm_iadd F dL_law_1107 ?_
  refine sm_sld F hE.1.1 hE.1.2.1 hE.1.2.2 (vpk (k := 2) (by omega) hE.2.2.2) dL_law_1108 ?_
  refine sm_aload_n F dL_law_1109 rfl 0 rfl ?_
  refine sm_iload_n F dL_law_1110 rfl 3 rfl ?_
  refine sm_iconst F dL_law_1111 kc_i_3 ?_
  refine sm_iadd F dL_law_1112 ?_
  refine sm_sld F hE.1.1 hE.1.2.1 hE.1.2.2 (vpk (k := 3) (by omega) hE.2.2.2) dL_law_1113 ?_
  refine sm_callV (rest := [.int r]) F (ct_X11_whatIs l D cI cZ cO a' hd) (cutLD cI cZ cO a a' x' d d') rfl rfl rfl qw6_92 qw6_93 qw6_94 qw1_12 qw6_95 hvX11_whatIs ⟨Nat.le_of_ble_eq_true rfl, Nat.le_of_ble_eq_true rfl⟩ ⟨Nat.le_of_ble_eq_true rfl, Nat.le_of_ble_eq_true rfl⟩ 0 11 rfl rfl rfl rfl (Nat.le_of_ble_eq_true rfl) E0_b (fun _ _ _ _ _ _ => trivial) rfl dL_law_1114 [.int r, .int r] rfl ?_
  exact sm_icmp_eq (tgt := 1263) F dL_law_1117 (by decide) (fun _ => kk n' W' x' d' h') (fun z => absurd rfl z)
set_option maxRecDepth 100000 in
set_option maxHeartbeats 4000000 in
/-- 32: row -/
theorem lw_c32 {p : Program} {l : Launch} {e : Env} {s : State} {m : MethodId} {below : List Frame} {meth : Method} {c : Code} {D : va_G} {A : Nat → Prop} {cI cZ cO : ClassId} {b L : Nat} {xs : Nat → Int32} {a a' : Nat → Nat} {adK adV : Nat → Nat} {zf : Option Nat} {i : Nat} (F : smF p s m #[Value.ref b] meth c cL_law 4 ret RL D (tyL cI cZ cO) A) (hE : LE s b L xs A adK adV zf) (hi : i + 5 ≤ L) (kk : ∀ (n W : Nat) (x : XS) (d : DS), XR n W x d → Sm p l e room_1 s m #[Value.ref b] below meth c D A 4 56 1216 (lw_Z below #[Value.ref b] s) 1263 [(0, .ref b), (1, .ref (a 0)), (2, .ref (a' 0)), (3, .int (nI i))] [] (wX cI cZ cO a x ++ wD cI cZ cO a' d)) {n W : Nat} {x : XS} {d : DS} (h : XR n W x d) : Sm p l e room_1 s m #[Value.ref b] below meth c D A 4 56 1216 (lw_Z below #[Value.ref b] s) 1122 [(0, .ref b), (1, .ref (a 0)), (2, .ref (a' 0)), (3, .int (nI i))] [] (wX cI cZ cO a x ++ wD cI cZ cO a' d) := by
  obtain ⟨r, x', d', n', W', hx, hd, h'⟩ := m_row h (xs (Int32.toNatClampNeg (nI i + (1 : Int32))))
  refine sm_aload_n F dL_law_1122 rfl 1 rfl ?_
  refine sm_aload_n F dL_law_1123 rfl 0 rfl ?_
  refine sm_iload_n F dL_law_1124 rfl 3 rfl ?_
  refine sm_iconst F dL_law_1125 kc_i_1 ?_
  refine sm_iadd F dL_law_1126 ?_
  refine sm_sld F hE.1.1 hE.1.2.1 hE.1.2.2 (vpk (k := 1) (by omega) hE.2.2.2) dL_law_1127 ?_
  refine sm_callV (rest := []) F (ct_X10_row l D cI cZ cO a hx) (cutLX cI cZ cO a a' x x' d) rfl rfl rfl qw4_183 qw4_184 qw4_185 qw1_1 qw4_186 hvX10_row ⟨Nat.le_of_ble_eq_true rfl, Nat.le_of_ble_eq_true rfl⟩ ⟨Nat.le_of_ble_eq_true rfl, Nat.le_of_ble_eq_true rfl⟩ 0 10 rfl rfl rfl rfl (Nat.le_of_ble_eq_true rfl) E0_b (fun _ _ _ _ _ _ => trivial) rfl dL_law_1128 [.int r] rfl ?_
  refine sm_aload_n F dL_law_1131 rfl 2 rfl ?_
  refine sm_aload_n F dL_law_1132 rfl 0 rfl ?_
  refine sm_iload_n F dL_law_1133 rfl 3 rfl ?_
  refine sm_iconst F dL_law_1134 kc_i_1 ?_
  refine sm_iadd F dL_law_1135 ?_
  refine sm_sld F hE.1.1 hE.1.2.1 hE.1.2.2 (vpk (k := 1) (by omega) hE.2.2.2) dL_law_1136 ?_
  refine sm_callV (rest := [.int r]) F (ct_X11_row l D cI cZ cO a' hd) (cutLD cI cZ cO a a' x' d d') rfl rfl rfl qw6_96 qw6_97 qw6_98 qw1_12 qw6_99 hvX11_row ⟨Nat.le_of_ble_eq_true rfl, Nat.le_of_ble_eq_true rfl⟩ ⟨Nat.le_of_ble_eq_true rfl, Nat.le_of_ble_eq_true rfl⟩ 0 11 rfl rfl rfl rfl (Nat.le_of_ble_eq_true rfl) E0_b (fun _ _ _ _ _ _ => trivial) rfl dL_law_1137 [.int r, .int r] rfl ?_
  exact sm_icmp_eq (tgt := 1263) F dL_law_1140 (by decide) (fun _ => kk n' W' x' d' h') (fun z => absurd rfl z)
set_option maxRecDepth 100000 in
set_option maxHeartbeats 4000000 in
/-- 33: judge -/
theorem lw_c33 {p : Program} {l : Launch} {e : Env} {s : State} {m : MethodId} {below : List Frame} {meth : Method} {c : Code} {D : va_G} {A : Nat → Prop} {cI cZ cO : ClassId} {b L : Nat} {xs : Nat → Int32} {a a' : Nat → Nat} {adK adV : Nat → Nat} {zf : Option Nat} {i : Nat} (F : smF p s m #[Value.ref b] meth c cL_law 4 ret RL D (tyL cI cZ cO) A) (hE : LE s b L xs A adK adV zf) (hi : i + 5 ≤ L) (kk : ∀ (n W : Nat) (x : XS) (d : DS), XR n W x d → Sm p l e room_1 s m #[Value.ref b] below meth c D A 4 56 1216 (lw_Z below #[Value.ref b] s) 1263 [(0, .ref b), (1, .ref (a 0)), (2, .ref (a' 0)), (3, .int (nI i))] [] (wX cI cZ cO a x ++ wD cI cZ cO a' d)) {n W : Nat} {x : XS} {d : DS} (h : XR n W x d) : Sm p l e room_1 s m #[Value.ref b] below meth c D A 4 56 1216 (lw_Z below #[Value.ref b] s) 1145 [(0, .ref b), (1, .ref (a 0)), (2, .ref (a' 0)), (3, .int (nI i))] [] (wX cI cZ cO a x ++ wD cI cZ cO a' d) := by
  obtain ⟨r, x', d', n', W', hx, hd, h'⟩ := m_judge h 
  refine sm_aload_n F dL_law_1145 rfl 1 rfl ?_
  refine sm_callV (rest := []) F (ct_X10_judge l D cI cZ cO a hx) (cutLX cI cZ cO a a' x x' d) rfl rfl rfl qw4_195 qw4_196 qw4_197 qw1_1 qw4_198 hvX10_judge ⟨Nat.le_of_ble_eq_true rfl, Nat.le_of_ble_eq_true rfl⟩ ⟨Nat.le_of_ble_eq_true rfl, Nat.le_of_ble_eq_true rfl⟩ 0 10 rfl rfl rfl rfl (Nat.le_of_ble_eq_true rfl) E0_b (fun _ _ _ _ _ _ => trivial) rfl dL_law_1146 [.int r] rfl ?_
  refine sm_aload_n F dL_law_1149 rfl 2 rfl ?_
  refine sm_callV (rest := [.int r]) F (ct_X11_judge l D cI cZ cO a' hd) (cutLD cI cZ cO a a' x' d d') rfl rfl rfl qw6_100 qw6_101 qw6_102 qw1_12 qw6_103 hvX11_judge ⟨Nat.le_of_ble_eq_true rfl, Nat.le_of_ble_eq_true rfl⟩ ⟨Nat.le_of_ble_eq_true rfl, Nat.le_of_ble_eq_true rfl⟩ 0 11 rfl rfl rfl rfl (Nat.le_of_ble_eq_true rfl) E0_b (fun _ _ _ _ _ _ => trivial) rfl dL_law_1150 [.int r, .int r] rfl ?_
  exact sm_icmp_eq (tgt := 1263) F dL_law_1153 (by decide) (fun _ => kk n' W' x' d' h') (fun z => absurd rfl z)
set_option maxRecDepth 100000 in
set_option maxHeartbeats 4000000 in
/-- 34: clear -/
theorem lw_c34 {p : Program} {l : Launch} {e : Env} {s : State} {m : MethodId} {below : List Frame} {meth : Method} {c : Code} {D : va_G} {A : Nat → Prop} {cI cZ cO : ClassId} {b L : Nat} {xs : Nat → Int32} {a a' : Nat → Nat} {adK adV : Nat → Nat} {zf : Option Nat} {i : Nat} (F : smF p s m #[Value.ref b] meth c cL_law 4 ret RL D (tyL cI cZ cO) A) (hE : LE s b L xs A adK adV zf) (hi : i + 5 ≤ L) (kk : ∀ (n W : Nat) (x : XS) (d : DS), XR n W x d → Sm p l e room_1 s m #[Value.ref b] below meth c D A 4 56 1216 (lw_Z below #[Value.ref b] s) 1263 [(0, .ref b), (1, .ref (a 0)), (2, .ref (a' 0)), (3, .int (nI i))] [] (wX cI cZ cO a x ++ wD cI cZ cO a' d)) {n W : Nat} {x : XS} {d : DS} (h : XR n W x d) : Sm p l e room_1 s m #[Value.ref b] below meth c D A 4 56 1216 (lw_Z below #[Value.ref b] s) 1158 [(0, .ref b), (1, .ref (a 0)), (2, .ref (a' 0)), (3, .int (nI i))] [] (wX cI cZ cO a x ++ wD cI cZ cO a' d) := by
  obtain ⟨r, x', d', n', W', hx, hd, h'⟩ := m_clear h 
  refine sm_aload_n F dL_law_1158 rfl 1 rfl ?_
  refine sm_callV (rest := []) F (ct_X10_clear l D cI cZ cO a hx) (cutLX cI cZ cO a a' x x' d) rfl rfl rfl qw4_207 qw4_208 qw4_209 qw1_1 qw4_210 hvX10_clear ⟨Nat.le_of_ble_eq_true rfl, Nat.le_of_ble_eq_true rfl⟩ ⟨Nat.le_of_ble_eq_true rfl, Nat.le_of_ble_eq_true rfl⟩ 0 10 rfl rfl rfl rfl (Nat.le_of_ble_eq_true rfl) E0_b (fun _ _ _ _ _ _ => trivial) rfl dL_law_1159 [.int r] rfl ?_
  refine sm_aload_n F dL_law_1162 rfl 2 rfl ?_
  refine sm_callV (rest := [.int r]) F (ct_X11_clear l D cI cZ cO a' hd) (cutLD cI cZ cO a a' x' d d') rfl rfl rfl qw6_104 qw6_105 qw6_106 qw1_12 qw6_107 hvX11_clear ⟨Nat.le_of_ble_eq_true rfl, Nat.le_of_ble_eq_true rfl⟩ ⟨Nat.le_of_ble_eq_true rfl, Nat.le_of_ble_eq_true rfl⟩ 0 11 rfl rfl rfl rfl (Nat.le_of_ble_eq_true rfl) E0_b (fun _ _ _ _ _ _ => trivial) rfl dL_law_1163 [.int r, .int r] rfl ?_
  exact sm_icmp_eq (tgt := 1263) F dL_law_1166 (by decide) (fun _ => kk n' W' x' d' h') (fun z => absurd rfl z)
set_option maxRecDepth 100000 in
set_option maxHeartbeats 4000000 in
/-- 35: lots -/
theorem lw_c35 {p : Program} {l : Launch} {e : Env} {s : State} {m : MethodId} {below : List Frame} {meth : Method} {c : Code} {D : va_G} {A : Nat → Prop} {cI cZ cO : ClassId} {b L : Nat} {xs : Nat → Int32} {a a' : Nat → Nat} {adK adV : Nat → Nat} {zf : Option Nat} {i : Nat} (F : smF p s m #[Value.ref b] meth c cL_law 4 ret RL D (tyL cI cZ cO) A) (hE : LE s b L xs A adK adV zf) (hi : i + 5 ≤ L) (kk : ∀ (n W : Nat) (x : XS) (d : DS), XR n W x d → Sm p l e room_1 s m #[Value.ref b] below meth c D A 4 56 1216 (lw_Z below #[Value.ref b] s) 1263 [(0, .ref b), (1, .ref (a 0)), (2, .ref (a' 0)), (3, .int (nI i))] [] (wX cI cZ cO a x ++ wD cI cZ cO a' d)) {n W : Nat} {x : XS} {d : DS} (h : XR n W x d) : Sm p l e room_1 s m #[Value.ref b] below meth c D A 4 56 1216 (lw_Z below #[Value.ref b] s) 1171 [(0, .ref b), (1, .ref (a 0)), (2, .ref (a' 0)), (3, .int (nI i))] [] (wX cI cZ cO a x ++ wD cI cZ cO a' d) := by
  obtain ⟨r, x', d', n', W', hx, hd, h'⟩ := m_lots h (xs (Int32.toNatClampNeg (nI i + (1 : Int32)))) (xs (Int32.toNatClampNeg (nI i + (2 : Int32)))) (xs (Int32.toNatClampNeg (nI i + (3 : Int32))))
  refine sm_aload_n F dL_law_1171 rfl 1 rfl ?_
  refine sm_aload_n F dL_law_1172 rfl 0 rfl ?_
  refine sm_iload_n F dL_law_1173 rfl 3 rfl ?_
  refine sm_iconst F dL_law_1174 kc_i_1 ?_
  refine sm_iadd F dL_law_1175 ?_
  refine sm_sld F hE.1.1 hE.1.2.1 hE.1.2.2 (vpk (k := 1) (by omega) hE.2.2.2) dL_law_1176 ?_
  refine sm_aload_n F dL_law_1177 rfl 0 rfl ?_
  refine sm_iload_n F dL_law_1178 rfl 3 rfl ?_
  refine sm_iconst F dL_law_1179 kc_i_2 ?_
  refine sm_iadd F dL_law_1180 ?_
  refine sm_sld F hE.1.1 hE.1.2.1 hE.1.2.2 (vpk (k := 2) (by omega) hE.2.2.2) dL_law_1181 ?_
  refine sm_aload_n F dL_law_1182 rfl 0 rfl ?_
  refine sm_iload_n F dL_law_1183 rfl 3 rfl ?_
  refine sm_iconst F dL_law_1184 kc_i_3 ?_
  refine sm_iadd F dL_law_1185 ?_
  refine sm_sld F hE.1.1 hE.1.2.1 hE.1.2.2 (vpk (k := 3) (by omega) hE.2.2.2) dL_law_1186 ?_
  refine sm_callV (rest := []) F (ct_X10_lots l D cI cZ cO a hx) (cutLX cI cZ cO a a' x x' d) rfl rfl rfl qw4_211 qw4_212 qw4_213 qw1_1 qw4_214 hvX10_lots ⟨Nat.le_of_ble_eq_true rfl, Nat.le_of_ble_eq_true rfl⟩ ⟨Nat.le_of_ble_eq_true rfl, Nat.le_of_ble_eq_true rfl⟩ 0 10 rfl rfl rfl rfl (Nat.le_of_ble_eq_true rfl) E0_b (fun _ _ _ _ _ _ => trivial) rfl dL_law_1187 [.int r] rfl ?_
  refine sm_aload_n F dL_law_1190 rfl 2 rfl ?_
  refine sm_aload_n F dL_law_1191 rfl 0 rfl ?_
  refine sm_iload_n F dL_law_1192 rfl 3 rfl ?_
  refine sm_iconst F dL_law_1193 kc_i_1 ?_
  refine sm_iadd F dL_law_1194 ?_
  refine sm_sld F hE.1.1 hE.1.2.1 hE.1.2.2 (vpk (k := 1) (by omega) hE.2.2.2) dL_law_1195 ?_
  refine sm_aload_n F dL_law_1196 rfl 0 rfl ?_
  refine sm_iload_n F dL_law_1197 rfl 3 rfl ?_
  refine sm_iconst F dL_law_1198 kc_i_2 ?_
  refine sm_iadd F dL_law_1199 ?_
  refine sm_sld F hE.1.1 hE.1.2.1 hE.1.2.2 (vpk (k := 2) (by omega) hE.2.2.2) dL_law_1200 ?_
  refine sm_aload_n F dL_law_1201 rfl 0 rfl ?_
  refine sm_iload_n F dL_law_1202 rfl 3 rfl ?_
  refine sm_iconst F dL_law_1203 kc_i_3 ?_
  refine sm_iadd F dL_law_1204 ?_
  refine sm_sld F hE.1.1 hE.1.2.1 hE.1.2.2 (vpk (k := 3) (by omega) hE.2.2.2) dL_law_1205 ?_
  refine sm_callV (rest := [.int r]) F (ct_X11_lots l D cI cZ cO a' hd) (cutLD cI cZ cO a a' x' d d') rfl rfl rfl qw6_108 qw6_109 qw6_110 qw1_12 qw6_111 hvX11_lots ⟨Nat.le_of_ble_eq_true rfl, Nat.le_of_ble_eq_true rfl⟩ ⟨Nat.le_of_ble_eq_true rfl, Nat.le_of_ble_eq_true rfl⟩ 0 11 rfl rfl rfl rfl (Nat.le_of_ble_eq_true rfl) E0_b (fun _ _ _ _ _ _ => trivial) rfl dL_law_1206 [.int r, .int r] rfl ?_
  exact sm_icmp_eq (tgt := 1263) F dL_law_1209 (by decide) (fun _ => kk n' W' x' d' h') (fun z => absurd rfl z)
set_option maxRecDepth 100000 in
set_option maxHeartbeats 4000000 in
/-- 36: image -/
theorem lw_c36 {p : Program} {l : Launch} {e : Env} {s : State} {m : MethodId} {below : List Frame} {meth : Method} {c : Code} {D : va_G} {A : Nat → Prop} {cI cZ cO : ClassId} {b L : Nat} {xs : Nat → Int32} {a a' : Nat → Nat} {adK adV : Nat → Nat} {zf : Option Nat} {i : Nat} (F : smF p s m #[Value.ref b] meth c cL_law 4 ret RL D (tyL cI cZ cO) A) (hE : LE s b L xs A adK adV zf) (hi : i + 5 ≤ L) (kk : ∀ (n W : Nat) (x : XS) (d : DS), XR n W x d → Sm p l e room_1 s m #[Value.ref b] below meth c D A 4 56 1216 (lw_Z below #[Value.ref b] s) 1263 [(0, .ref b), (1, .ref (a 0)), (2, .ref (a' 0)), (3, .int (nI i))] [] (wX cI cZ cO a x ++ wD cI cZ cO a' d)) {n W : Nat} {x : XS} {d : DS} (h : XR n W x d) : Sm p l e room_1 s m #[Value.ref b] below meth c D A 4 56 1216 (lw_Z below #[Value.ref b] s) 1214 [(0, .ref b), (1, .ref (a 0)), (2, .ref (a' 0)), (3, .int (nI i))] [] (wX cI cZ cO a x ++ wD cI cZ cO a' d) := by
  obtain ⟨r, x', d', n', W', hx, hd, h'⟩ := m_image h 
  refine sm_aload_n F dL_law_1214 rfl 1 rfl ?_
  refine sm_callV (rest := []) F (ct_X10_image l D cI cZ cO a hx) (cutLX cI cZ cO a a' x x' d) rfl rfl rfl qw4_232 qw4_233 qw4_234 qw1_1 qw4_235 hvX10_image ⟨Nat.le_of_ble_eq_true rfl, Nat.le_of_ble_eq_true rfl⟩ ⟨Nat.le_of_ble_eq_true rfl, Nat.le_of_ble_eq_true rfl⟩ 0 10 rfl rfl rfl rfl (Nat.le_of_ble_eq_true rfl) E0_b (fun _ _ _ _ _ _ => trivial) rfl dL_law_1215 [.int r] rfl ?_
  refine sm_aload_n F dL_law_1218 rfl 2 rfl ?_
  refine sm_callV (rest := [.int r]) F (ct_X11_image l D cI cZ cO a' hd) (cutLD cI cZ cO a a' x' d d') rfl rfl rfl qw6_119 qw6_120 qw6_121 qw1_12 qw6_122 hvX11_image ⟨Nat.le_of_ble_eq_true rfl, Nat.le_of_ble_eq_true rfl⟩ ⟨Nat.le_of_ble_eq_true rfl, Nat.le_of_ble_eq_true rfl⟩ 0 11 rfl rfl rfl rfl (Nat.le_of_ble_eq_true rfl) E0_b (fun _ _ _ _ _ _ => trivial) rfl dL_law_1219 [.int r, .int r] rfl ?_
  exact sm_icmp_eq (tgt := 1263) F dL_law_1222 (by decide) (fun _ => kk n' W' x' d' h') (fun z => absurd rfl z)
set_option maxRecDepth 100000 in
set_option maxHeartbeats 4000000 in
/-- 37: on -/
theorem lw_c37 {p : Program} {l : Launch} {e : Env} {s : State} {m : MethodId} {below : List Frame} {meth : Method} {c : Code} {D : va_G} {A : Nat → Prop} {cI cZ cO : ClassId} {b L : Nat} {xs : Nat → Int32} {a a' : Nat → Nat} {adK adV : Nat → Nat} {zf : Option Nat} {i : Nat} (F : smF p s m #[Value.ref b] meth c cL_law 4 ret RL D (tyL cI cZ cO) A) (hE : LE s b L xs A adK adV zf) (hi : i + 5 ≤ L) (kk : ∀ (n W : Nat) (x : XS) (d : DS), XR n W x d → Sm p l e room_1 s m #[Value.ref b] below meth c D A 4 56 1216 (lw_Z below #[Value.ref b] s) 1263 [(0, .ref b), (1, .ref (a 0)), (2, .ref (a' 0)), (3, .int (nI i))] [] (wX cI cZ cO a x ++ wD cI cZ cO a' d)) {n W : Nat} {x : XS} {d : DS} (h : XR n W x d) : Sm p l e room_1 s m #[Value.ref b] below meth c D A 4 56 1216 (lw_Z below #[Value.ref b] s) 1227 [(0, .ref b), (1, .ref (a 0)), (2, .ref (a' 0)), (3, .int (nI i))] [] (wX cI cZ cO a x ++ wD cI cZ cO a' d) := by
  obtain ⟨r, x', d', n', W', hx, hd, h'⟩ := m_on h 
  refine sm_aload_n F dL_law_1227 rfl 1 rfl ?_
  refine sm_callV (rest := []) F (ct_X10_on l D cI cZ cO a hx) (cutLX cI cZ cO a a' x x' d) rfl rfl rfl qw4_236 qw4_237 qw4_238 qw1_1 qw4_239 hvX10_on ⟨Nat.le_of_ble_eq_true rfl, Nat.le_of_ble_eq_true rfl⟩ ⟨Nat.le_of_ble_eq_true rfl, Nat.le_of_ble_eq_true rfl⟩ 0 10 rfl rfl rfl rfl (Nat.le_of_ble_eq_true rfl) E0_b (fun _ _ _ _ _ _ => trivial) rfl dL_law_1228 [.int r] rfl ?_
  refine sm_aload_n F dL_law_1231 rfl 2 rfl ?_
  refine sm_callV (rest := [.int r]) F (ct_X11_on l D cI cZ cO a' hd) (cutLD cI cZ cO a a' x' d d') rfl rfl rfl qw6_123 qw6_124 qw6_125 qw1_12 qw6_126 hvX11_on ⟨Nat.le_of_ble_eq_true rfl, Nat.le_of_ble_eq_true rfl⟩ ⟨Nat.le_of_ble_eq_true rfl, Nat.le_of_ble_eq_true rfl⟩ 0 11 rfl rfl rfl rfl (Nat.le_of_ble_eq_true rfl) E0_b (fun _ _ _ _ _ _ => trivial) rfl dL_law_1232 [.int r, .int r] rfl ?_
  exact sm_icmp_eq (tgt := 1263) F dL_law_1235 (by decide) (fun _ => kk n' W' x' d' h') (fun z => absurd rfl z)
set_option maxRecDepth 100000 in
set_option maxHeartbeats 4000000 in
/-- 38: count -/
theorem lw_c38 {p : Program} {l : Launch} {e : Env} {s : State} {m : MethodId} {below : List Frame} {meth : Method} {c : Code} {D : va_G} {A : Nat → Prop} {cI cZ cO : ClassId} {b L : Nat} {xs : Nat → Int32} {a a' : Nat → Nat} {adK adV : Nat → Nat} {zf : Option Nat} {i : Nat} (F : smF p s m #[Value.ref b] meth c cL_law 4 ret RL D (tyL cI cZ cO) A) (hE : LE s b L xs A adK adV zf) (hi : i + 5 ≤ L) (kk : ∀ (n W : Nat) (x : XS) (d : DS), XR n W x d → Sm p l e room_1 s m #[Value.ref b] below meth c D A 4 56 1216 (lw_Z below #[Value.ref b] s) 1263 [(0, .ref b), (1, .ref (a 0)), (2, .ref (a' 0)), (3, .int (nI i))] [] (wX cI cZ cO a x ++ wD cI cZ cO a' d)) {n W : Nat} {x : XS} {d : DS} (h : XR n W x d) : Sm p l e room_1 s m #[Value.ref b] below meth c D A 4 56 1216 (lw_Z below #[Value.ref b] s) 1240 [(0, .ref b), (1, .ref (a 0)), (2, .ref (a' 0)), (3, .int (nI i))] [] (wX cI cZ cO a x ++ wD cI cZ cO a' d) := by
  obtain ⟨r, hx, hd⟩ := m_count h (xs (Int32.toNatClampNeg (nI i + (1 : Int32))))
  refine sm_aload_n F dL_law_1240 rfl 1 rfl ?_
  refine sm_aload_n F dL_law_1241 rfl 0 rfl ?_
  refine sm_iload_n F dL_law_1242 rfl 3 rfl ?_
  refine sm_iconst F dL_law_1243 kc_i_1 ?_
  refine sm_iadd F dL_law_1244 ?_
  refine sm_sld F hE.1.1 hE.1.2.1 hE.1.2.2 (vpk (k := 1) (by omega) hE.2.2.2) dL_law_1245 ?_
  refine sm_callV (rest := []) F (ct_X10_count l D cI cZ cO a hx) (cutLX cI cZ cO a a' x x d) rfl rfl rfl qw5_0 qw5_1 qw5_2 qw1_1 qw5_3 hvX10_count ⟨Nat.le_of_ble_eq_true rfl, Nat.le_of_ble_eq_true rfl⟩ ⟨Nat.le_of_ble_eq_true rfl, Nat.le_of_ble_eq_true rfl⟩ 0 10 rfl rfl rfl rfl (Nat.le_of_ble_eq_true rfl) E0_b (fun _ _ _ _ _ _ => trivial) rfl dL_law_1246 [.int r] rfl ?_
  refine sm_aload_n F dL_law_1249 rfl 2 rfl ?_
  refine sm_aload_n F dL_law_1250 rfl 0 rfl ?_
  refine sm_iload_n F dL_law_1251 rfl 3 rfl ?_
  refine sm_iconst F dL_law_1252 kc_i_1 ?_
  refine sm_iadd F dL_law_1253 ?_
  refine sm_sld F hE.1.1 hE.1.2.1 hE.1.2.2 (vpk (k := 1) (by omega) hE.2.2.2) dL_law_1254 ?_
  refine sm_callV (rest := [.int r]) F (ct_X11_count l D cI cZ cO a' hd) (cutLD cI cZ cO a a' x d d) rfl rfl rfl qw6_127 qw6_128 qw6_129 qw1_12 qw6_130 hvX11_count ⟨Nat.le_of_ble_eq_true rfl, Nat.le_of_ble_eq_true rfl⟩ ⟨Nat.le_of_ble_eq_true rfl, Nat.le_of_ble_eq_true rfl⟩ 0 11 rfl rfl rfl rfl (Nat.le_of_ble_eq_true rfl) E0_b (fun _ _ _ _ _ _ => trivial) rfl dL_law_1255 [.int r, .int r] rfl ?_
  exact sm_icmp_eq (tgt := 1263) F dL_law_1258 (by decide) (fun _ => kk n W x d h) (fun z => absurd rfl z)
