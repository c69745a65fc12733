theorem qI_X3_hateOrSelf : Cond.instanceMethod yX3_hateOrSelf ∈ lw_g := lw_gm (List.mem_append_right _ (lw_t3 (i := 85) rfl)) rfl
theorem qC_X3_hateOrSelf : Cond.code yX3_hateOrSelf cX3_hateOrSelf 3 (some .int) ∈ lw_g := lw_gm (List.mem_append_right _ (lw_t3 (i := 86) rfl)) rfl
theorem qM_X3_51 : Cond.methodLink RX3 51 yX1_hateOf ∈ lw_g := lw_gm (List.mem_append_right _ (lw_t3 (i := 87) rfl)) rfl
theorem qM_X8_212 : Cond.methodLink RX8 212 yX6_empty ∈ lw_g := lw_gm (List.mem_append_right _ (lw_t3 (i := 88) rfl)) rfl
theorem qI_X6_empty : Cond.instanceMethod yX6_empty ∈ lw_g := lw_gm (List.mem_append_right _ (lw_t3 (i := 89) rfl)) rfl
theorem qS_X6_empty : Cond.selects RX6 yX6_empty yX6_empty ∈ lw_g := lw_gm (List.mem_append_right _ (lw_t3 (i := 90) rfl)) rfl
theorem qC_X6_empty : Cond.code yX6_empty cX6_empty 1 none ∈ lw_g := lw_gm (List.mem_append_right _ (lw_t3 (i := 91) rfl)) rfl
theorem qM_L_189 : Cond.methodLink RL 189 yX8_clear ∈ lw_g := lw_gm (List.mem_append_right _ (lw_t3 (i := 92) rfl)) rfl
theorem qI_X8_clear : Cond.instanceMethod yX8_clear ∈ lw_g := lw_gm (List.mem_append_right _ (lw_t3 (i := 93) rfl)) rfl
theorem qS_X8_clear : Cond.selects RX8 yX8_clear yX8_clear ∈ lw_g := lw_gm (List.mem_append_right _ (lw_t3 (i := 94) rfl)) rfl
theorem qC_X8_clear : Cond.code yX8_clear cX8_clear 2 (some .int) ∈ lw_g := lw_gm (List.mem_append_right _ (lw_t3 (i := 95) rfl)) rfl
theorem qM_L_65 : Cond.methodLink RL 65 yX8_behind ∈ lw_g := lw_gm (List.mem_append_right _ (lw_t3 (i := 96) rfl)) rfl
theorem qI_X8_behind : Cond.instanceMethod yX8_behind ∈ lw_g := lw_gm (List.mem_append_right _ (lw_t3 (i := 97) rfl)) rfl
theorem qS_X8_behind : Cond.selects RX8 yX8_behind yX8_behind ∈ lw_g := lw_gm (List.mem_append_right _ (lw_t3 (i := 98) rfl)) rfl
theorem qC_X8_behind : Cond.code yX8_behind cX8_behind 5 (some .int) ∈ lw_g := lw_gm (List.mem_append_right _ (lw_t3 (i := 99) rfl)) rfl
theorem qM_X8_213 : Cond.methodLink RX8 213 yX4_hateAfter ∈ lw_g := lw_gm (List.mem_append_right _ (lw_t3 (i := 100) rfl)) rfl
theorem qI_X4_hateAfter : Cond.instanceMethod yX4_hateAfter ∈ lw_g := lw_gm (List.mem_append_right _ (lw_t3 (i := 101) rfl)) rfl
theorem qS_X4_hateAfter : Cond.selects RX4 yX4_hateAfter yX4_hateAfter ∈ lw_g := lw_gm (List.mem_append_right _ (lw_t3 (i := 102) rfl)) rfl
theorem qC_X4_hateAfter : Cond.code yX4_hateAfter cX4_hateAfter 4 (some .int) ∈ lw_g := lw_gm (List.mem_append_right _ (lw_t3 (i := 103) rfl)) rfl
theorem qM_X4_21 : Cond.methodLink RX4 21 yX1_become ∈ lw_g := lw_gm (List.mem_append_right _ (lw_t3 (i := 104) rfl)) rfl
theorem qM_X4_25 : Cond.methodLink RX4 25 yX1_passWeeks ∈ lw_g := lw_gm (List.mem_append_right _ (lw_t3 (i := 105) rfl)) rfl
theorem qM_X4_29 : Cond.methodLink RX4 29 yX1_hateOf ∈ lw_g := lw_gm (List.mem_append_right _ (lw_t3 (i := 106) rfl)) rfl
theorem qM_L_69 : Cond.methodLink RL 69 yX8_then ∈ lw_g := lw_gm (List.mem_append_right _ (lw_t3 (i := 107) rfl)) rfl
theorem qI_X8_then : Cond.instanceMethod yX8_then ∈ lw_g := lw_gm (List.mem_append_right _ (lw_t3 (i := 108) rfl)) rfl
theorem qS_X8_then : Cond.selects RX8 yX8_then yX8_then ∈ lw_g := lw_gm (List.mem_append_right _ (lw_t3 (i := 109) rfl)) rfl
theorem qC_X8_then : Cond.code yX8_then cX8_then 4 (some .int) ∈ lw_g := lw_gm (List.mem_append_right _ (lw_t3 (i := 110) rfl)) rfl
theorem qM_X8_216 : Cond.methodLink RX8 216 yX4_openBitsAfter ∈ lw_g := lw_gm (List.mem_append_right _ (lw_t3 (i := 111) rfl)) rfl
theorem qI_X4_openBitsAfter : Cond.instanceMethod yX4_openBitsAfter ∈ lw_g := lw_gm (List.mem_append_right _ (lw_t3 (i := 112) rfl)) rfl
theorem qS_X4_openBitsAfter : Cond.selects RX4 yX4_openBitsAfter yX4_openBitsAfter ∈ lw_g := lw_gm (List.mem_append_right _ (lw_t3 (i := 113) rfl)) rfl
theorem qC_X4_openBitsAfter : Cond.code yX4_openBitsAfter cX4_openBitsAfter 2 (some .int) ∈ lw_g := lw_gm (List.mem_append_right _ (lw_t3 (i := 114) rfl)) rfl
theorem qM_X4_33 : Cond.methodLink RX4 33 yX1_openBits ∈ lw_g := lw_gm (List.mem_append_right _ (lw_t3 (i := 115) rfl)) rfl
theorem qM_X8_219 : Cond.methodLink RX8 219 yX4_allHateAfter ∈ lw_g := lw_gm (List.mem_append_right _ (lw_t3 (i := 116) rfl)) rfl
theorem qI_X4_allHateAfter : Cond.instanceMethod yX4_allHateAfter ∈ lw_g := lw_gm (List.mem_append_right _ (lw_t3 (i := 117) rfl)) rfl
theorem qS_X4_allHateAfter : Cond.selects RX4 yX4_allHateAfter yX4_allHateAfter ∈ lw_g := lw_gm (List.mem_append_right _ (lw_t3 (i := 118) rfl)) rfl
theorem qC_X4_allHateAfter : Cond.code yX4_allHateAfter cX4_allHateAfter 2 (some .int) ∈ lw_g := lw_gm (List.mem_append_right _ (lw_t3 (i := 119) rfl)) rfl
theorem qM_X4_37 : Cond.methodLink RX4 37 yX1_allHate ∈ lw_g := lw_gm (List.mem_append_right _ (lw_t3 (i := 120) rfl)) rfl
theorem qM_L_73 : Cond.methodLink RL 73 yX8_when ∈ lw_g := lw_gm (List.mem_append_right _ (lw_t3 (i := 121) rfl)) rfl
theorem qI_X8_when : Cond.instanceMethod yX8_when ∈ lw_g := lw_gm (List.mem_append_right _ (lw_t3 (i := 122) rfl)) rfl
theorem qS_X8_when : Cond.selects RX8 yX8_when yX8_when ∈ lw_g := lw_gm (List.mem_append_right _ (lw_t3 (i := 123) rfl)) rfl
theorem qC_X8_when : Cond.code yX8_when cX8_when 4 (some .int) ∈ lw_g := lw_gm (List.mem_append_right _ (lw_t3 (i := 124) rfl)) rfl
theorem qM_X8_222 : Cond.methodLink RX8 222 yX4_weekOpened ∈ lw_g := lw_gm (List.mem_append_right _ (lw_t3 (i := 125) rfl)) rfl
theorem qI_X4_weekOpened : Cond.instanceMethod yX4_weekOpened ∈ lw_g := lw_gm (List.mem_append_right _ (lw_t3 (i := 126) rfl)) rfl
theorem qS_X4_weekOpened : Cond.selects RX4 yX4_weekOpened yX4_weekOpened ∈ lw_g := lw_gm (List.mem_append_right _ (lw_t3 (i := 127) rfl)) rfl
theorem qC_X4_weekOpened : Cond.code yX4_weekOpened cX4_weekOpened 3 (some .int) ∈ lw_g := lw_gm (List.mem_append_right _ (lw_t3 (i := 128) rfl)) rfl
theorem qM_X4_40 : Cond.methodLink RX4 40 yX1_isOpen ∈ lw_g := lw_gm (List.mem_append_right _ (lw_t3 (i := 129) rfl)) rfl
theorem qM_X4_44 : Cond.methodLink RX4 44 yX1_passWeek ∈ lw_g := lw_gm (List.mem_append_right _ (lw_t3 (i := 130) rfl)) rfl
theorem qM_X8_225 : Cond.methodLink RX8 225 yX4_openedBy ∈ lw_g := lw_gm (List.mem_append_right _ (lw_t3 (i := 131) rfl)) rfl
theorem qI_X4_openedBy : Cond.instanceMethod yX4_openedBy ∈ lw_g := lw_gm (List.mem_append_right _ (lw_t3 (i := 132) rfl)) rfl
theorem qS_X4_openedBy : Cond.selects RX4 yX4_openedBy yX4_openedBy ∈ lw_g := lw_gm (List.mem_append_right _ (lw_t3 (i := 133) rfl)) rfl
theorem qC_X4_openedBy : Cond.code yX4_openedBy cX4_openedBy 2 (some .int) ∈ lw_g := lw_gm (List.mem_append_right _ (lw_t3 (i := 134) rfl)) rfl
theorem qM_X4_47 : Cond.methodLink RX4 47 yX1_openedBy ∈ lw_g := lw_gm (List.mem_append_right _ (lw_t3 (i := 135) rfl)) rfl
theorem qI_X1_openedBy : Cond.instanceMethod yX1_openedBy ∈ lw_g := lw_gm (List.mem_append_right _ (lw_t3 (i := 136) rfl)) rfl
theorem qS_X1_openedBy : Cond.selects RX1 yX1_openedBy yX1_openedBy ∈ lw_g := lw_gm (List.mem_append_right _ (lw_t3 (i := 137) rfl)) rfl
theorem qC_X1_openedBy : Cond.code yX1_openedBy cX1_openedBy 2 (some .int) ∈ lw_g := lw_gm (List.mem_append_right _ (lw_t3 (i := 138) rfl)) rfl
theorem qM_L_77 : Cond.methodLink RL 77 yX8_lasts ∈ lw_g := lw_gm (List.mem_append_right _ (lw_t3 (i := 139) rfl)) rfl
theorem qI_X8_lasts : Cond.instanceMethod yX8_lasts ∈ lw_g := lw_gm (List.mem_append_right _ (lw_t3 (i := 140) rfl)) rfl
theorem qS_X8_lasts : Cond.selects RX8 yX8_lasts yX8_lasts ∈ lw_g := lw_gm (List.mem_append_right _ (lw_t3 (i := 141) rfl)) rfl
theorem qC_X8_lasts : Cond.code yX8_lasts cX8_lasts 5 (some .int) ∈ lw_g := lw_gm (List.mem_append_right _ (lw_t3 (i := 142) rfl)) rfl
theorem qM_X8_228 : Cond.methodLink RX8 228 yX4_weekBelow ∈ lw_g := lw_gm (List.mem_append_right _ (lw_t3 (i := 143) rfl)) rfl
theorem qI_X4_weekBelow : Cond.instanceMethod yX4_weekBelow ∈ lw_g := lw_gm (List.mem_append_right _ (lw_t3 (i := 144) rfl)) rfl
theorem qS_X4_weekBelow : Cond.selects RX4 yX4_weekBelow yX4_weekBelow ∈ lw_g := lw_gm (List.mem_append_right _ (lw_t3 (i := 145) rfl)) rfl
theorem qC_X4_weekBelow : Cond.code yX4_weekBelow cX4_weekBelow 5 (some .int) ∈ lw_g := lw_gm (List.mem_append_right _ (lw_t3 (i := 146) rfl)) rfl
theorem qM_L_81 : Cond.methodLink RL 81 yX8_never ∈ lw_g := lw_gm (List.mem_append_right _ (lw_t3 (i := 147) rfl)) rfl
theorem qI_X8_never : Cond.instanceMethod yX8_never ∈ lw_g := lw_gm (List.mem_append_right _ (lw_t3 (i := 148) rfl)) rfl
theorem qS_X8_never : Cond.selects RX8 yX8_never yX8_never ∈ lw_g := lw_gm (List.mem_append_right _ (lw_t3 (i := 149) rfl)) rfl
theorem qC_X8_never : Cond.code yX8_never cX8_never 3 (some .int) ∈ lw_g := lw_gm (List.mem_append_right _ (lw_t3 (i := 150) rfl)) rfl
theorem qM_X8_231 : Cond.methodLink RX8 231 yX4_sealedFar ∈ lw_g := lw_gm (List.mem_append_right _ (lw_t3 (i := 151) rfl)) rfl
theorem qI_X4_sealedFar : Cond.instanceMethod yX4_sealedFar ∈ lw_g := lw_gm (List.mem_append_right _ (lw_t3 (i := 152) rfl)) rfl
theorem qS_X4_sealedFar : Cond.selects RX4 yX4_sealedFar yX4_sealedFar ∈ lw_g := lw_gm (List.mem_append_right _ (lw_t3 (i := 153) rfl)) rfl
theorem qC_X4_sealedFar : Cond.code yX4_sealedFar cX4_sealedFar 1 (some .int) ∈ lw_g := lw_gm (List.mem_append_right _ (lw_t3 (i := 154) rfl)) rfl
theorem qM_X4_50 : Cond.methodLink RX4 50 yX1_letterCount ∈ lw_g := lw_gm (List.mem_append_right _ (lw_t3 (i := 155) rfl)) rfl
theorem qM_X4_53 : Cond.methodLink RX4 53 yX4_openBitsAfter ∈ lw_g := lw_gm (List.mem_append_right _ (lw_t3 (i := 156) rfl)) rfl
theorem qM_X8_234 : Cond.methodLink RX8 234 yX4_firstOpened ∈ lw_g := lw_gm (List.mem_append_right _ (lw_t3 (i := 157) rfl)) rfl
theorem qI_X4_firstOpened : Cond.instanceMethod yX4_firstOpened ∈ lw_g := lw_gm (List.mem_append_right _ (lw_t3 (i := 158) rfl)) rfl
theorem qS_X4_firstOpened : Cond.selects RX4 yX4_firstOpened yX4_firstOpened ∈ lw_g := lw_gm (List.mem_append_right _ (lw_t3 (i := 159) rfl)) rfl
theorem qC_X4_firstOpened : Cond.code yX4_firstOpened cX4_firstOpened 4 (some .int) ∈ lw_g := lw_gm (List.mem_append_right _ (lw_t3 (i := 160) rfl)) rfl
theorem qM_X4_56 : Cond.methodLinkNest RX4 56 yX8_bit RX8 ∈ lw_tbl := (List.mem_append_right _ (lw_t3 (i := 161) rfl))
theorem qM_L_85 : Cond.methodLink RL 85 yX8_insult ∈ lw_g := lw_gm (List.mem_append_right _ (lw_t3 (i := 162) rfl)) rfl
theorem qI_X8_insult : Cond.instanceMethod yX8_insult ∈ lw_g := lw_gm (List.mem_append_right _ (lw_t3 (i := 163) rfl)) rfl
theorem qS_X8_insult : Cond.selects RX8 yX8_insult yX8_insult ∈ lw_g := lw_gm (List.mem_append_right _ (lw_t3 (i := 164) rfl)) rfl
theorem qC_X8_insult : Cond.code yX8_insult cX8_insult 6 (some .int) ∈ lw_g := lw_gm (List.mem_append_right _ (lw_t3 (i := 165) rfl)) rfl
theorem qM_X8_237 : Cond.methodLink RX8 237 yX4_leastInsult ∈ lw_g := lw_gm (List.mem_append_right _ (lw_t3 (i := 166) rfl)) rfl
theorem qI_X4_leastInsult : Cond.instanceMethod yX4_leastInsult ∈ lw_g := lw_gm (List.mem_append_right _ (lw_t3 (i := 167) rfl)) rfl
theorem qS_X4_leastInsult : Cond.selects RX4 yX4_leastInsult yX4_leastInsult ∈ lw_g := lw_gm (List.mem_append_right _ (lw_t3 (i := 168) rfl)) rfl
theorem qC_X4_leastInsult : Cond.code yX4_leastInsult cX4_leastInsult 5 (some .int) ∈ lw_g := lw_gm (List.mem_append_right _ (lw_t3 (i := 169) rfl)) rfl
theorem qM_X4_59 : Cond.methodLink RX4 59 yX1_setHate ∈ lw_g := lw_gm (List.mem_append_right _ (lw_t3 (i := 170) rfl)) rfl
theorem qM_X4_63 : Cond.methodLinkNest RX4 63 yX8_twoName RX8 ∈ lw_tbl := (List.mem_append_right _ (lw_t3 (i := 171) rfl))
theorem qM_L_161 : Cond.methodLink RL 161 yX8_used ∈ lw_g := lw_gm (List.mem_append_right _ (lw_t3 (i := 172) rfl)) rfl
theorem qI_X8_used : Cond.instanceMethod yX8_used ∈ lw_g := lw_gm (List.mem_append_right _ (lw_t3 (i := 173) rfl)) rfl
theorem qS_X8_used : Cond.selects RX8 yX8_used yX8_used ∈ lw_g := lw_gm (List.mem_append_right _ (lw_t3 (i := 174) rfl)) rfl
theorem qC_X8_used : Cond.code yX8_used cX8_used 5 (some .int) ∈ lw_g := lw_gm (List.mem_append_right _ (lw_t3 (i := 175) rfl)) rfl
theorem qK_X8_240 : Cond.constant RX8 240 (1000000000) ∈ lw_g := lw_gm (List.mem_append_right _ (lw_t3 (i := 176) rfl)) rfl
theorem qM_L_169 : Cond.methodLink RL 169 yX8_apart ∈ lw_g := lw_gm (List.mem_append_right _ (lw_t3 (i := 177) rfl)) rfl
theorem qI_X8_apart : Cond.instanceMethod yX8_apart ∈ lw_g := lw_gm (List.mem_append_right _ (lw_t3 (i := 178) rfl)) rfl
theorem qS_X8_apart : Cond.selects RX8 yX8_apart yX8_apart ∈ lw_g := lw_gm (List.mem_append_right _ (lw_t3 (i := 179) rfl)) rfl
theorem qC_X8_apart : Cond.code yX8_apart cX8_apart 3 (some .int) ∈ lw_g := lw_gm (List.mem_append_right _ (lw_t3 (i := 180) rfl)) rfl
theorem qM_X8_241 : Cond.methodLink RX8 241 yX4_idleWeeks ∈ lw_g := lw_gm (List.mem_append_right _ (lw_t3 (i := 181) rfl)) rfl
theorem qI_X4_idleWeeks : Cond.instanceMethod yX4_idleWeeks ∈ lw_g := lw_gm (List.mem_append_right _ (lw_t3 (i := 182) rfl)) rfl
theorem qS_X4_idleWeeks : Cond.selects RX4 yX4_idleWeeks yX4_idleWeeks ∈ lw_g := lw_gm (List.mem_append_right _ (lw_t3 (i := 183) rfl)) rfl
theorem qC_X4_idleWeeks : Cond.code yX4_idleWeeks cX4_idleWeeks 4 (some .int) ∈ lw_g := lw_gm (List.mem_append_right _ (lw_t3 (i := 184) rfl)) rfl
theorem qM_L_131 : Cond.methodLink RL 131 yX8_two ∈ lw_g := lw_gm (List.mem_append_right _ (lw_t3 (i := 185) rfl)) rfl
theorem qI_X8_two : Cond.instanceMethod yX8_two ∈ lw_g := lw_gm (List.mem_append_right _ (lw_t3 (i := 186) rfl)) rfl
theorem qS_X8_two : Cond.selects RX8 yX8_two yX8_two ∈ lw_g := lw_gm (List.mem_append_right _ (lw_t3 (i := 187) rfl)) rfl
theorem qC_X8_two : Cond.code yX8_two cX8_two 4 (some .int) ∈ lw_g := lw_gm (List.mem_append_right _ (lw_t3 (i := 188) rfl)) rfl
theorem qM_X8_244 : Cond.methodLink RX8 244 yX4_settled ∈ lw_g := lw_gm (List.mem_append_right _ (lw_t3 (i := 189) rfl)) rfl
theorem qI_X4_settled : Cond.instanceMethod yX4_settled ∈ lw_g := lw_gm (List.mem_append_right _ (lw_t3 (i := 190) rfl)) rfl
theorem qS_X4_settled : Cond.selects RX4 yX4_settled yX4_settled ∈ lw_g := lw_gm (List.mem_append_right _ (lw_t3 (i := 191) rfl)) rfl
theorem qC_X4_settled : Cond.code yX4_settled cX4_settled 10 (some .int) ∈ lw_g := lw_gm (List.mem_append_right _ (lw_t3 (i := 192) rfl)) rfl
theorem qM_X4_116 : Cond.methodLink RX4 116 yX4_hateAfter ∈ lw_g := lw_gm (List.mem_append_right _ (lw_t3 (i := 193) rfl)) rfl
theorem qM_X4_120 : Cond.methodLink RX4 120 yX4_hateMadeUp ∈ lw_g := lw_gm (List.mem_append_right _ (lw_t3 (i := 194) rfl)) rfl
theorem qI_X4_hateMadeUp : Cond.instanceMethod yX4_hateMadeUp ∈ lw_g := lw_gm (List.mem_append_right _ (lw_t3 (i := 196) rfl)) rfl
theorem qC_X4_hateMadeUp : Cond.code yX4_hateMadeUp cX4_hateMadeUp 3 (some .int) ∈ lw_g := lw_gm (List.mem_append_right _ (lw_t3 (i := 197) rfl)) rfl
theorem qM_X4_123 : Cond.methodLink RX4 123 yX4_gain ∈ lw_g := lw_gm (List.mem_append_right _ (lw_t3 (i := 198) rfl)) rfl
theorem qI_X4_gain : Cond.instanceMethod yX4_gain ∈ lw_g := lw_gm (List.mem_append_right _ (lw_t3 (i := 200) rfl)) rfl
theorem qC_X4_gain : Cond.code yX4_gain cX4_gain 8 (some .int) ∈ lw_g := lw_gm (List.mem_append_right _ (lw_t3 (i := 201) rfl)) rfl
theorem qM_X4_126 : Cond.methodLink RX4 126 yX1_wageOf ∈ lw_g := lw_gm (List.mem_append_right _ (lw_t3 (i := 202) rfl)) rfl
theorem qM_L_89 : Cond.methodLink RL 89 yX8_send ∈ lw_g := lw_gm (List.mem_append_right _ (lw_t3 (i := 203) rfl)) rfl
theorem qI_X8_send : Cond.instanceMethod yX8_send ∈ lw_g := lw_gm (List.mem_append_right _ (lw_t3 (i := 204) rfl)) rfl
theorem qS_X8_send : Cond.selects RX8 yX8_send yX8_send ∈ lw_g := lw_gm (List.mem_append_right _ (lw_t3 (i := 205) rfl)) rfl
theorem qC_X8_send : Cond.code yX8_send cX8_send 3 (some .int) ∈ lw_g := lw_gm (List.mem_append_right _ (lw_t3 (i := 206) rfl)) rfl
theorem qM_X8_247 : Cond.methodLink RX8 247 yX4_bestSending ∈ lw_g := lw_gm (List.mem_append_right _ (lw_t3 (i := 207) rfl)) rfl
theorem qI_X4_bestSending : Cond.instanceMethod yX4_bestSending ∈ lw_g := lw_gm (List.mem_append_right _ (lw_t3 (i := 208) rfl)) rfl
theorem qS_X4_bestSending : Cond.selects RX4 yX4_bestSending yX4_bestSending ∈ lw_g := lw_gm (List.mem_append_right _ (lw_t3 (i := 209) rfl)) rfl
theorem qC_X4_bestSending : Cond.code yX4_bestSending cX4_bestSending 7 (some .int) ∈ lw_g := lw_gm (List.mem_append_right _ (lw_t3 (i := 210) rfl)) rfl
theorem qM_X4_66 : Cond.methodLink RX4 66 yX4_openAsAllIs ∈ lw_g := lw_gm (List.mem_append_right _ (lw_t3 (i := 211) rfl)) rfl
theorem qI_X4_openAsAllIs : Cond.instanceMethod yX4_openAsAllIs ∈ lw_g := lw_gm (List.mem_append_right _ (lw_t3 (i := 213) rfl)) rfl
theorem qC_X4_openAsAllIs : Cond.code yX4_openAsAllIs cX4_openAsAllIs 2 (some .int) ∈ lw_g := lw_gm (List.mem_append_right _ (lw_t3 (i := 214) rfl)) rfl
theorem qM_X4_69 : Cond.methodLink RX4 69 yX1_keeperCount ∈ lw_g := lw_gm (List.mem_append_right _ (lw_t3 (i := 215) rfl)) rfl
theorem qM_X4_72 : Cond.methodLink RX4 72 yX1_townOf ∈ lw_g := lw_gm (List.mem_append_right _ (lw_t3 (i := 216) rfl)) rfl
theorem qM_X4_75 : Cond.methodLink RX4 75 yX1_move ∈ lw_g := lw_gm (List.mem_append_right _ (lw_t3 (i := 217) rfl)) rfl
theorem qM_L_165 : Cond.methodLink RL 165 yX8_swap ∈ lw_g := lw_gm (List.mem_append_right _ (lw_t3 (i := 218) rfl)) rfl
theorem qI_X8_swap : Cond.instanceMethod yX8_swap ∈ lw_g := lw_gm (List.mem_append_right _ (lw_t3 (i := 219) rfl)) rfl
theorem qS_X8_swap : Cond.selects RX8 yX8_swap yX8_swap ∈ lw_g := lw_gm (List.mem_append_right _ (lw_t3 (i := 220) rfl)) rfl
theorem qC_X8_swap : Cond.code yX8_swap cX8_swap 3 (some .int) ∈ lw_g := lw_gm (List.mem_append_right _ (lw_t3 (i := 221) rfl)) rfl
theorem qM_X8_250 : Cond.methodLink RX8 250 yX4_bestSwap ∈ lw_g := lw_gm (List.mem_append_right _ (lw_t3 (i := 222) rfl)) rfl
theorem qI_X4_bestSwap : Cond.instanceMethod yX4_bestSwap ∈ lw_g := lw_gm (List.mem_append_right _ (lw_t3 (i := 223) rfl)) rfl
theorem qS_X4_bestSwap : Cond.selects RX4 yX4_bestSwap yX4_bestSwap ∈ lw_g := lw_gm (List.mem_append_right _ (lw_t3 (i := 224) rfl)) rfl
theorem qC_X4_bestSwap : Cond.code yX4_bestSwap cX4_bestSwap 7 (some .int) ∈ lw_g := lw_gm (List.mem_append_right _ (lw_t3 (i := 225) rfl)) rfl
theorem qM_L_93 : Cond.methodLink RL 93 yX8_places ∈ lw_g := lw_gm (List.mem_append_right _ (lw_t3 (i := 226) rfl)) rfl
theorem qI_X8_places : Cond.instanceMethod yX8_places ∈ lw_g := lw_gm (List.mem_append_right _ (lw_t3 (i := 227) rfl)) rfl
theorem qS_X8_places : Cond.selects RX8 yX8_places yX8_places ∈ lw_g := lw_gm (List.mem_append_right _ (lw_t3 (i := 228) rfl)) rfl
theorem qC_X8_places : Cond.code yX8_places cX8_places 9 (some .int) ∈ lw_g := lw_gm (List.mem_append_right _ (lw_t3 (i := 229) rfl)) rfl
theorem qM_X8_253 : Cond.methodLink RX8 253 yX4_bestPlaces ∈ lw_g := lw_gm (List.mem_append_right _ (lw_t3 (i := 230) rfl)) rfl
theorem qI_X4_bestPlaces : Cond.instanceMethod yX4_bestPlaces ∈ lw_g := lw_gm (List.mem_append_right _ (lw_t3 (i := 231) rfl)) rfl
theorem qS_X4_bestPlaces : Cond.selects RX4 yX4_bestPlaces yX4_bestPlaces ∈ lw_g := lw_gm (List.mem_append_right _ (lw_t3 (i := 232) rfl)) rfl
theorem qC_X4_bestPlaces : Cond.code yX4_bestPlaces cX4_bestPlaces 10 (some .int) ∈ lw_g := lw_gm (List.mem_append_right _ (lw_t3 (i := 233) rfl)) rfl
theorem qM_X4_79 : Cond.methodLink RX4 79 yX4_openPlaced ∈ lw_g := lw_gm (List.mem_append_right _ (lw_t3 (i := 234) rfl)) rfl
theorem qI_X4_openPlaced : Cond.instanceMethod yX4_openPlaced ∈ lw_g := lw_gm (List.mem_append_right _ (lw_t3 (i := 235) rfl)) rfl
theorem qS_X4_openPlaced : Cond.selects RX4 yX4_openPlaced yX4_openPlaced ∈ lw_g := lw_gm (List.mem_append_right _ (lw_t3 (i := 236) rfl)) rfl
theorem qC_X4_openPlaced : Cond.code yX4_openPlaced cX4_openPlaced 6 (some .int) ∈ lw_g := lw_gm (List.mem_append_right _ (lw_t3 (i := 237) rfl)) rfl
theorem qM_X8_257 : Cond.methodLink RX8 257 yX4_openPlaced ∈ lw_g := lw_gm (List.mem_append_right _ (lw_t3 (i := 238) rfl)) rfl
theorem qM_L_98 : Cond.methodLink RL 98 yX8_fewest ∈ lw_g := lw_gm (List.mem_append_right _ (lw_t3 (i := 239) rfl)) rfl
theorem qI_X8_fewest : Cond.instanceMethod yX8_fewest ∈ lw_g := lw_gm (List.mem_append_right _ (lw_t4 (i := 0) rfl)) rfl
theorem qS_X8_fewest : Cond.selects RX8 yX8_fewest yX8_fewest ∈ lw_g := lw_gm (List.mem_append_right _ (lw_t4 (i := 1) rfl)) rfl
theorem qC_X8_fewest : Cond.code yX8_fewest cX8_fewest 5 (some .int) ∈ lw_g := lw_gm (List.mem_append_right _ (lw_t4 (i := 2) rfl)) rfl
theorem qM_X8_261 : Cond.methodLink RX8 261 yX4_fewestKept ∈ lw_g := lw_gm (List.mem_append_right _ (lw_t4 (i := 3) rfl)) rfl
theorem qI_X4_fewestKept : Cond.instanceMethod yX4_fewestKept ∈ lw_g := lw_gm (List.mem_append_right _ (lw_t4 (i := 4) rfl)) rfl
theorem qS_X4_fewestKept : Cond.selects RX4 yX4_fewestKept yX4_fewestKept ∈ lw_g := lw_gm (List.mem_append_right _ (lw_t4 (i := 5) rfl)) rfl
theorem qC_X4_fewestKept : Cond.code yX4_fewestKept cX4_fewestKept 7 (some .int) ∈ lw_g := lw_gm (List.mem_append_right _ (lw_t4 (i := 6) rfl)) rfl
theorem qM_X4_83 : Cond.methodLink RX4 83 yJ6_bitCount_0f7a4 ∈ lw_g := lw_gm (List.mem_append_right _ (lw_t4 (i := 7) rfl)) rfl
theorem qM_X4_88 : Cond.methodLink RX4 88 yX4_openKept ∈ lw_g := lw_gm (List.mem_append_right _ (lw_t4 (i := 8) rfl)) rfl
theorem qI_X4_openKept : Cond.instanceMethod yX4_openKept ∈ lw_g := lw_gm (List.mem_append_right _ (lw_t4 (i := 10) rfl)) rfl
theorem qC_X4_openKept : Cond.code yX4_openKept cX4_openKept 4 (some .int) ∈ lw_g := lw_gm (List.mem_append_right _ (lw_t4 (i := 11) rfl)) rfl
theorem qM_X8_264 : Cond.methodLink RX8 264 yX3_wages ∈ lw_g := lw_gm (List.mem_append_right _ (lw_t4 (i := 12) rfl)) rfl
theorem qI_X3_wages : Cond.instanceMethod yX3_wages ∈ lw_g := lw_gm (List.mem_append_right _ (lw_t4 (i := 13) rfl)) rfl
theorem qS_X3_wages : Cond.selects RX3 yX3_wages yX3_wages ∈ lw_g := lw_gm (List.mem_append_right _ (lw_t4 (i := 14) rfl)) rfl
theorem qC_X3_wages : Cond.code yX3_wages cX3_wages 4 (some .int) ∈ lw_g := lw_gm (List.mem_append_right _ (lw_t4 (i := 15) rfl)) rfl
theorem qM_X3_19 : Cond.methodLink RX3 19 yX1_keeperCount ∈ lw_g := lw_gm (List.mem_append_right _ (lw_t4 (i := 16) rfl)) rfl
theorem qM_X3_29 : Cond.methodLinkNest RX3 29 yX8_bit RX8 ∈ lw_tbl := (List.mem_append_right _ (lw_t4 (i := 17) rfl))
theorem qM_X3_33 : Cond.methodLink RX3 33 yX1_wageOf ∈ lw_g := lw_gm (List.mem_append_right _ (lw_t4 (i := 18) rfl)) rfl
theorem qM_L_102 : Cond.methodLink RL 102 yX8_pay ∈ lw_g := lw_gm (List.mem_append_right _ (lw_t4 (i := 19) rfl)) rfl
theorem qI_X8_pay : Cond.instanceMethod yX8_pay ∈ lw_g := lw_gm (List.mem_append_right _ (lw_t4 (i := 20) rfl)) rfl
theorem qS_X8_pay : Cond.selects RX8 yX8_pay yX8_pay ∈ lw_g := lw_gm (List.mem_append_right _ (lw_t4 (i := 21) rfl)) rfl
theorem qC_X8_pay : Cond.code yX8_pay cX8_pay 4 (some .int) ∈ lw_g := lw_gm (List.mem_append_right _ (lw_t4 (i := 22) rfl)) rfl
theorem qM_X8_267 : Cond.methodLink RX8 267 yX3_keepersIn ∈ lw_g := lw_gm (List.mem_append_right _ (lw_t4 (i := 23) rfl)) rfl
theorem qI_X3_keepersIn : Cond.instanceMethod yX3_keepersIn ∈ lw_g := lw_gm (List.mem_append_right _ (lw_t4 (i := 24) rfl)) rfl
theorem qS_X3_keepersIn : Cond.selects RX3 yX3_keepersIn yX3_keepersIn ∈ lw_g := lw_gm (List.mem_append_right _ (lw_t4 (i := 25) rfl)) rfl
theorem qC_X3_keepersIn : Cond.code yX3_keepersIn cX3_keepersIn 4 (some .int) ∈ lw_g := lw_gm (List.mem_append_right _ (lw_t4 (i := 26) rfl)) rfl
theorem qM_X3_25 : Cond.methodLink RX3 25 yX1_townOf ∈ lw_g := lw_gm (List.mem_append_right _ (lw_t4 (i := 27) rfl)) rfl
theorem qM_L_118 : Cond.methodLink RL 118 yX8_whoHates ∈ lw_g := lw_gm (List.mem_append_right _ (lw_t4 (i := 28) rfl)) rfl
theorem qI_X8_whoHates : Cond.instanceMethod yX8_whoHates ∈ lw_g := lw_gm (List.mem_append_right _ (lw_t4 (i := 29) rfl)) rfl
theorem qS_X8_whoHates : Cond.selects RX8 yX8_whoHates yX8_whoHates ∈ lw_g := lw_gm (List.mem_append_right _ (lw_t4 (i := 30) rfl)) rfl
theorem qC_X8_whoHates : Cond.code yX8_whoHates cX8_whoHates 5 (some .int) ∈ lw_g := lw_gm (List.mem_append_right _ (lw_t4 (i := 31) rfl)) rfl
theorem qM_X8_270 : Cond.methodLink RX8 270 yX4_fittingHate ∈ lw_g := lw_gm (List.mem_append_right _ (lw_t4 (i := 32) rfl)) rfl
theorem qI_X4_fittingHate : Cond.instanceMethod yX4_fittingHate ∈ lw_g := lw_gm (List.mem_append_right _ (lw_t4 (i := 33) rfl)) rfl
theorem qS_X4_fittingHate : Cond.selects RX4 yX4_fittingHate yX4_fittingHate ∈ lw_g := lw_gm (List.mem_append_right _ (lw_t4 (i := 34) rfl)) rfl
theorem qC_X4_fittingHate : Cond.code yX4_fittingHate cX4_fittingHate 9 (some .int) ∈ lw_g := lw_gm (List.mem_append_right _ (lw_t4 (i := 35) rfl)) rfl
theorem qM_X4_91 : Cond.methodLink RX4 91 yX4_opensAsTold ∈ lw_g := lw_gm (List.mem_append_right _ (lw_t4 (i := 36) rfl)) rfl
theorem qI_X4_opensAsTold : Cond.instanceMethod yX4_opensAsTold ∈ lw_g := lw_gm (List.mem_append_right _ (lw_t4 (i := 38) rfl)) rfl
theorem qC_X4_opensAsTold : Cond.code yX4_opensAsTold cX4_opensAsTold 3 (some .boolean) ∈ lw_g := lw_gm (List.mem_append_right _ (lw_t4 (i := 39) rfl)) rfl
theorem qM_X4_95 : Cond.methodLink RX4 95 yX6_size ∈ lw_g := lw_gm (List.mem_append_right _ (lw_t4 (i := 40) rfl)) rfl
theorem qM_X4_100 : Cond.methodLink RX4 100 yX1_openCount ∈ lw_g := lw_gm (List.mem_append_right _ (lw_t4 (i := 41) rfl)) rfl
theorem qM_X4_103 : Cond.methodLink RX4 103 yX6_number ∈ lw_g := lw_gm (List.mem_append_right _ (lw_t4 (i := 42) rfl)) rfl
theorem qM_L_122 : Cond.methodLink RL 122 yX8_whatKind ∈ lw_g := lw_gm (List.mem_append_right _ (lw_t4 (i := 43) rfl)) rfl
theorem qI_X8_whatKind : Cond.instanceMethod yX8_whatKind ∈ lw_g := lw_gm (List.mem_append_right _ (lw_t4 (i := 44) rfl)) rfl
theorem qS_X8_whatKind : Cond.selects RX8 yX8_whatKind yX8_whatKind ∈ lw_g := lw_gm (List.mem_append_right _ (lw_t4 (i := 45) rfl)) rfl
theorem qC_X8_whatKind : Cond.code yX8_whatKind cX8_whatKind 5 (some .int) ∈ lw_g := lw_gm (List.mem_append_right _ (lw_t4 (i := 46) rfl)) rfl
theorem qM_X8_274 : Cond.methodLink RX8 274 yX4_fittingKinds ∈ lw_g := lw_gm (List.mem_append_right _ (lw_t4 (i := 47) rfl)) rfl
theorem qI_X4_fittingKinds : Cond.instanceMethod yX4_fittingKinds ∈ lw_g := lw_gm (List.mem_append_right _ (lw_t4 (i := 48) rfl)) rfl
theorem qS_X4_fittingKinds : Cond.selects RX4 yX4_fittingKinds yX4_fittingKinds ∈ lw_g := lw_gm (List.mem_append_right _ (lw_t4 (i := 49) rfl)) rfl
theorem qC_X4_fittingKinds : Cond.code yX4_fittingKinds cX4_fittingKinds 6 (some .int) ∈ lw_g := lw_gm (List.mem_append_right _ (lw_t4 (i := 50) rfl)) rfl
theorem qM_X4_106 : Cond.methodLink RX4 106 yX1_setKind ∈ lw_g := lw_gm (List.mem_append_right _ (lw_t4 (i := 51) rfl)) rfl
theorem qI_X1_setKind : Cond.instanceMethod yX1_setKind ∈ lw_g := lw_gm (List.mem_append_right _ (lw_t4 (i := 52) rfl)) rfl
theorem qS_X1_setKind : Cond.selects RX1 yX1_setKind yX1_setKind ∈ lw_g := lw_gm (List.mem_append_right _ (lw_t4 (i := 53) rfl)) rfl
theorem qC_X1_setKind : Cond.code yX1_setKind cX1_setKind 3 none ∈ lw_g := lw_gm (List.mem_append_right _ (lw_t4 (i := 54) rfl)) rfl
theorem qM_X4_109 : Cond.methodLink RX4 109 yX4_hatesAsTold ∈ lw_g := lw_gm (List.mem_append_right _ (lw_t4 (i := 55) rfl)) rfl
theorem qI_X4_hatesAsTold : Cond.instanceMethod yX4_hatesAsTold ∈ lw_g := lw_gm (List.mem_append_right _ (lw_t4 (i := 57) rfl)) rfl
theorem qC_X4_hatesAsTold : Cond.code yX4_hatesAsTold cX4_hatesAsTold 5 (some .boolean) ∈ lw_g := lw_gm (List.mem_append_right _ (lw_t4 (i := 58) rfl)) rfl
theorem qM_X8_278 : Cond.methodLink RX8 278 yX4_fittingFigures ∈ lw_g := lw_gm (List.mem_append_right _ (lw_t4 (i := 59) rfl)) rfl
theorem qI_X4_fittingFigures : Cond.instanceMethod yX4_fittingFigures ∈ lw_g := lw_gm (List.mem_append_right _ (lw_t4 (i := 60) rfl)) rfl
theorem qS_X4_fittingFigures : Cond.selects RX4 yX4_fittingFigures yX4_fittingFigures ∈ lw_g := lw_gm (List.mem_append_right _ (lw_t4 (i := 61) rfl)) rfl
theorem qC_X4_fittingFigures : Cond.code yX4_fittingFigures cX4_fittingFigures 6 (some .int) ∈ lw_g := lw_gm (List.mem_append_right _ (lw_t4 (i := 62) rfl)) rfl
theorem qM_X4_113 : Cond.methodLink RX4 113 yX1_setFigure ∈ lw_g := lw_gm (List.mem_append_right _ (lw_t4 (i := 63) rfl)) rfl
theorem qI_X1_setFigure : Cond.instanceMethod yX1_setFigure ∈ lw_g := lw_gm (List.mem_append_right _ (lw_t4 (i := 64) rfl)) rfl
theorem qS_X1_setFigure : Cond.selects RX1 yX1_setFigure yX1_setFigure ∈ lw_g := lw_gm (List.mem_append_right _ (lw_t4 (i := 65) rfl)) rfl
theorem qC_X1_setFigure : Cond.code yX1_setFigure cX1_setFigure 3 none ∈ lw_g := lw_gm (List.mem_append_right _ (lw_t4 (i := 66) rfl)) rfl
theorem qM_L_126 : Cond.methodLink RL 126 yX8_jug ∈ lw_g := lw_gm (List.mem_append_right _ (lw_t4 (i := 67) rfl)) rfl
theorem qI_X8_jug : Cond.instanceMethod yX8_jug ∈ lw_g := lw_gm (List.mem_append_right _ (lw_t4 (i := 68) rfl)) rfl
theorem qS_X8_jug : Cond.selects RX8 yX8_jug yX8_jug ∈ lw_g := lw_gm (List.mem_append_right _ (lw_t4 (i := 69) rfl)) rfl
theorem qC_X8_jug : Cond.code yX8_jug cX8_jug 8 (some .long) ∈ lw_g := lw_gm (List.mem_append_right _ (lw_t4 (i := 70) rfl)) rfl
theorem qK_X8_281 : Cond.constantLong RX8 281 (4000000000000000000) ∈ lw_g := lw_gm (List.mem_append_right _ (lw_t4 (i := 71) rfl)) rfl
theorem qM_X8_283 : Cond.methodLink RX8 283 yX0_ways ∈ lw_g := lw_gm (List.mem_append_right _ (lw_t4 (i := 72) rfl)) rfl
theorem qT_X0_ways : Cond.static yX0_ways ∈ lw_g := lw_gm (List.mem_append_right _ (lw_t4 (i := 73) rfl)) rfl
theorem qC_X0_ways : Cond.code yX0_ways cX0_ways 6 (some .long) ∈ lw_g := lw_gm (List.mem_append_right _ (lw_t4 (i := 74) rfl)) rfl
theorem qM_X0_7 : Cond.methodLink RX0 7 yJ6_bitCount_0f7a4 ∈ lw_g := lw_gm (List.mem_append_right _ (lw_t4 (i := 75) rfl)) rfl
theorem qM_X0_13 : Cond.methodLink RX0 13 yX0_power ∈ lw_g := lw_gm (List.mem_append_right _ (lw_t4 (i := 76) rfl)) rfl
theorem qT_X0_power : Cond.static yX0_power ∈ lw_g := lw_gm (List.mem_append_right _ (lw_t4 (i := 77) rfl)) rfl
theorem qC_X0_power : Cond.code yX0_power cX0_power 5 (some .long) ∈ lw_g := lw_gm (List.mem_append_right _ (lw_t4 (i := 78) rfl)) rfl
theorem qM_X8_289 : Cond.methodLink RX8 289 yX0_power ∈ lw_g := lw_gm (List.mem_append_right _ (lw_t4 (i := 79) rfl)) rfl
theorem qM_X8_293 : Cond.methodLink RX8 293 yX0_part ∈ lw_g := lw_gm (List.mem_append_right _ (lw_t4 (i := 80) rfl)) rfl
theorem qT_X0_part : Cond.static yX0_part ∈ lw_g := lw_gm (List.mem_append_right _ (lw_t4 (i := 81) rfl)) rfl
theorem qC_X0_part : Cond.code yX0_part cX0_part 9 (some .long) ∈ lw_g := lw_gm (List.mem_append_right _ (lw_t4 (i := 82) rfl)) rfl
theorem qM_X0_19 : Cond.methodLink RX0 19 yX0_commonDivisor ∈ lw_g := lw_gm (List.mem_append_right _ (lw_t4 (i := 83) rfl)) rfl
theorem qT_X0_commonDivisor : Cond.static yX0_commonDivisor ∈ lw_g := lw_gm (List.mem_append_right _ (lw_t4 (i := 84) rfl)) rfl
theorem qC_X0_commonDivisor : Cond.code yX0_commonDivisor cX0_commonDivisor 11 (some .long) ∈ lw_g := lw_gm (List.mem_append_right _ (lw_t4 (i := 85) rfl)) rfl
theorem qM_L_135 : Cond.methodLink RL 135 yX8_meetings ∈ lw_g := lw_gm (List.mem_append_right _ (lw_t4 (i := 86) rfl)) rfl
theorem qI_X8_meetings : Cond.instanceMethod yX8_meetings ∈ lw_g := lw_gm (List.mem_append_right _ (lw_t4 (i := 87) rfl)) rfl
theorem qS_X8_meetings : Cond.selects RX8 yX8_meetings yX8_meetings ∈ lw_g := lw_gm (List.mem_append_right _ (lw_t4 (i := 88) rfl)) rfl
theorem qC_X8_meetings : Cond.code yX8_meetings cX8_meetings 11 (some .long) ∈ lw_g := lw_gm (List.mem_append_right _ (lw_t4 (i := 89) rfl)) rfl
theorem qM_X8_297 : Cond.methodLink RX8 297 yX4_meetingWays ∈ lw_g := lw_gm (List.mem_append_right _ (lw_t4 (i := 90) rfl)) rfl
theorem qI_X4_meetingWays : Cond.instanceMethod yX4_meetingWays ∈ lw_g := lw_gm (List.mem_append_right _ (lw_t4 (i := 91) rfl)) rfl
theorem qS_X4_meetingWays : Cond.selects RX4 yX4_meetingWays yX4_meetingWays ∈ lw_g := lw_gm (List.mem_append_right _ (lw_t4 (i := 92) rfl)) rfl
theorem qC_X4_meetingWays : Cond.code yX4_meetingWays cX4_meetingWays 10 (some .long) ∈ lw_g := lw_gm (List.mem_append_right _ (lw_t4 (i := 93) rfl)) rfl
theorem qM_X4_129 : Cond.methodLink RX4 129 yX0_power ∈ lw_g := lw_gm (List.mem_append_right _ (lw_t4 (i := 94) rfl)) rfl
theorem qM_L_193 : Cond.methodLink RL 193 yX8_lots ∈ lw_g := lw_gm (List.mem_append_right _ (lw_t4 (i := 95) rfl)) rfl
theorem qI_X8_lots : Cond.instanceMethod yX8_lots ∈ lw_g := lw_gm (List.mem_append_right _ (lw_t4 (i := 96) rfl)) rfl
theorem qS_X8_lots : Cond.selects RX8 yX8_lots yX8_lots ∈ lw_g := lw_gm (List.mem_append_right _ (lw_t4 (i := 97) rfl)) rfl
theorem qC_X8_lots : Cond.code yX8_lots cX8_lots 5 (some .int) ∈ lw_g := lw_gm (List.mem_append_right _ (lw_t4 (i := 98) rfl)) rfl
theorem qM_X8_301 : Cond.methodLink RX8 301 yX4_byLot ∈ lw_g := lw_gm (List.mem_append_right _ (lw_t4 (i := 99) rfl)) rfl
theorem qI_X4_byLot : Cond.instanceMethod yX4_byLot ∈ lw_g := lw_gm (List.mem_append_right _ (lw_t4 (i := 100) rfl)) rfl
theorem qS_X4_byLot : Cond.selects RX4 yX4_byLot yX4_byLot ∈ lw_g := lw_gm (List.mem_append_right _ (lw_t4 (i := 101) rfl)) rfl
theorem qC_X4_byLot : Cond.code yX4_byLot cX4_byLot 10 (some .int) ∈ lw_g := lw_gm (List.mem_append_right _ (lw_t4 (i := 102) rfl)) rfl
theorem qK_X4_135 : Cond.constant RX4 135 (1103515245) ∈ lw_g := lw_gm (List.mem_append_right _ (lw_t4 (i := 103) rfl)) rfl
theorem qK_X4_136 : Cond.constant RX4 136 (2147483647) ∈ lw_g := lw_gm (List.mem_append_right _ (lw_t4 (i := 104) rfl)) rfl
theorem qK_X4_137 : Cond.constant RX4 137 (65536) ∈ lw_g := lw_gm (List.mem_append_right _ (lw_t4 (i := 105) rfl)) rfl
theorem qM_L_106 : Cond.methodLink RL 106 yX8_deepest ∈ lw_g := lw_gm (List.mem_append_right _ (lw_t4 (i := 106) rfl)) rfl
theorem qI_X8_deepest : Cond.instanceMethod yX8_deepest ∈ lw_g := lw_gm (List.mem_append_right _ (lw_t4 (i := 107) rfl)) rfl
theorem qS_X8_deepest : Cond.selects RX8 yX8_deepest yX8_deepest ∈ lw_g := lw_gm (List.mem_append_right _ (lw_t4 (i := 108) rfl)) rfl
theorem qC_X8_deepest : Cond.code yX8_deepest cX8_deepest 3 (some .int) ∈ lw_g := lw_gm (List.mem_append_right _ (lw_t4 (i := 109) rfl)) rfl
theorem qM_X8_304 : Cond.methodLink RX8 304 yX3_mostHateIn ∈ lw_g := lw_gm (List.mem_append_right _ (lw_t4 (i := 110) rfl)) rfl
theorem qI_X3_mostHateIn : Cond.instanceMethod yX3_mostHateIn ∈ lw_g := lw_gm (List.mem_append_right _ (lw_t4 (i := 111) rfl)) rfl
theorem qS_X3_mostHateIn : Cond.selects RX3 yX3_mostHateIn yX3_mostHateIn ∈ lw_g := lw_gm (List.mem_append_right _ (lw_t4 (i := 112) rfl)) rfl
theorem qC_X3_mostHateIn : Cond.code yX3_mostHateIn cX3_mostHateIn 5 (some .int) ∈ lw_g := lw_gm (List.mem_append_right _ (lw_t4 (i := 113) rfl)) rfl
theorem qM_X3_47 : Cond.methodLink RX3 47 yX1_areBothIn ∈ lw_g := lw_gm (List.mem_append_right _ (lw_t4 (i := 114) rfl)) rfl
theorem qM_X3_54 : Cond.methodLink RX3 54 Lib.Math.max.name ∈ lw_g := lw_gm (List.mem_append_right _ (lw_t4 (i := 115) rfl)) rfl
theorem qM_L_177 : Cond.methodLink RL 177 yX8_can ∈ lw_g := lw_gm (List.mem_append_right _ (lw_t4 (i := 116) rfl)) rfl
theorem qI_X8_can : Cond.instanceMethod yX8_can ∈ lw_g := lw_gm (List.mem_append_right _ (lw_t4 (i := 117) rfl)) rfl
theorem qS_X8_can : Cond.selects RX8 yX8_can yX8_can ∈ lw_g := lw_gm (List.mem_append_right _ (lw_t4 (i := 118) rfl)) rfl
theorem qC_X8_can : Cond.code yX8_can cX8_can 3 (some .int) ∈ lw_g := lw_gm (List.mem_append_right _ (lw_t4 (i := 119) rfl)) rfl
theorem qM_X8_307 : Cond.methodLink RX8 307 yX3_townsThatOpen ∈ lw_g := lw_gm (List.mem_append_right _ (lw_t4 (i := 120) rfl)) rfl
theorem qI_X3_townsThatOpen : Cond.instanceMethod yX3_townsThatOpen ∈ lw_g := lw_gm (List.mem_append_right _ (lw_t4 (i := 121) rfl)) rfl
theorem qS_X3_townsThatOpen : Cond.selects RX3 yX3_townsThatOpen yX3_townsThatOpen ∈ lw_g := lw_gm (List.mem_append_right _ (lw_t4 (i := 122) rfl)) rfl
theorem qC_X3_townsThatOpen : Cond.code yX3_townsThatOpen cX3_townsThatOpen 4 (some .int) ∈ lw_g := lw_gm (List.mem_append_right _ (lw_t4 (i := 123) rfl)) rfl
theorem qM_X3_59 : Cond.methodLink RX3 59 yX3_mostHateIn ∈ lw_g := lw_gm (List.mem_append_right _ (lw_t4 (i := 124) rfl)) rfl
theorem qM_L_110 : Cond.methodLink RL 110 yX8_pairs ∈ lw_g := lw_gm (List.mem_append_right _ (lw_t4 (i := 125) rfl)) rfl
theorem qI_X8_pairs : Cond.instanceMethod yX8_pairs ∈ lw_g := lw_gm (List.mem_append_right _ (lw_t4 (i := 126) rfl)) rfl
theorem qS_X8_pairs : Cond.selects RX8 yX8_pairs yX8_pairs ∈ lw_g := lw_gm (List.mem_append_right _ (lw_t4 (i := 127) rfl)) rfl
theorem qC_X8_pairs : Cond.code yX8_pairs cX8_pairs 3 (some .int) ∈ lw_g := lw_gm (List.mem_append_right _ (lw_t4 (i := 128) rfl)) rfl
theorem qM_X8_310 : Cond.methodLink RX8 310 yX3_mostTwos ∈ lw_g := lw_gm (List.mem_append_right _ (lw_t4 (i := 129) rfl)) rfl
theorem qI_X3_mostTwos : Cond.instanceMethod yX3_mostTwos ∈ lw_g := lw_gm (List.mem_append_right _ (lw_t4 (i := 130) rfl)) rfl
theorem qS_X3_mostTwos : Cond.selects RX3 yX3_mostTwos yX3_mostTwos ∈ lw_g := lw_gm (List.mem_append_right _ (lw_t4 (i := 131) rfl)) rfl
theorem qC_X3_mostTwos : Cond.code yX3_mostTwos cX3_mostTwos 4 (some .int) ∈ lw_g := lw_gm (List.mem_append_right _ (lw_t4 (i := 132) rfl)) rfl
theorem qM_X3_62 : Cond.methodLink RX3 62 yX3_mostTwosWith ∈ lw_g := lw_gm (List.mem_append_right _ (lw_t4 (i := 133) rfl)) rfl
theorem qI_X3_mostTwosWith : Cond.instanceMethod yX3_mostTwosWith ∈ lw_g := lw_gm (List.mem_append_right _ (lw_t4 (i := 135) rfl)) rfl
theorem qC_X3_mostTwosWith : Cond.code yX3_mostTwosWith cX3_mostTwosWith 7 (some .int) ∈ lw_g := lw_gm (List.mem_append_right _ (lw_t4 (i := 136) rfl)) rfl
theorem qM_X3_70 : Cond.methodLinkNest RX3 70 yX8_at RX8 ∈ lw_tbl := (List.mem_append_right _ (lw_t4 (i := 137) rfl))
theorem qM_X3_66 : Cond.methodLinkNest RX3 66 yX8_put RX8 ∈ lw_tbl := (List.mem_append_right _ (lw_t4 (i := 138) rfl))
theorem qM_L_114 : Cond.methodLink RL 114 yX8_worst ∈ lw_g := lw_gm (List.mem_append_right _ (lw_t4 (i := 139) rfl)) rfl
theorem qI_X8_worst : Cond.instanceMethod yX8_worst ∈ lw_g := lw_gm (List.mem_append_right _ (lw_t4 (i := 140) rfl)) rfl
theorem qS_X8_worst : Cond.selects RX8 yX8_worst yX8_worst ∈ lw_g := lw_gm (List.mem_append_right _ (lw_t4 (i := 141) rfl)) rfl
theorem qC_X8_worst : Cond.code yX8_worst cX8_worst 3 (some .int) ∈ lw_g := lw_gm (List.mem_append_right _ (lw_t4 (i := 142) rfl)) rfl
theorem qM_X8_313 : Cond.methodLink RX8 313 yX3_friends ∈ lw_g := lw_gm (List.mem_append_right _ (lw_t4 (i := 143) rfl)) rfl
theorem qI_X3_friends : Cond.instanceMethod yX3_friends ∈ lw_g := lw_gm (List.mem_append_right _ (lw_t4 (i := 144) rfl)) rfl
theorem qS_X3_friends : Cond.selects RX3 yX3_friends yX3_friends ∈ lw_g := lw_gm (List.mem_append_right _ (lw_t4 (i := 145) rfl)) rfl
theorem qC_X3_friends : Cond.code yX3_friends cX3_friends 4 (some .int) ∈ lw_g := lw_gm (List.mem_append_right _ (lw_t4 (i := 146) rfl)) rfl
theorem qM_X8_316 : Cond.methodLink RX8 316 yX3_worstTwo ∈ lw_g := lw_gm (List.mem_append_right _ (lw_t4 (i := 147) rfl)) rfl
theorem qI_X3_worstTwo : Cond.instanceMethod yX3_worstTwo ∈ lw_g := lw_gm (List.mem_append_right _ (lw_t4 (i := 148) rfl)) rfl
theorem qS_X3_worstTwo : Cond.selects RX3 yX3_worstTwo yX3_worstTwo ∈ lw_g := lw_gm (List.mem_append_right _ (lw_t4 (i := 149) rfl)) rfl
theorem qC_X3_worstTwo : Cond.code yX3_worstTwo cX3_worstTwo 6 (some .int) ∈ lw_g := lw_gm (List.mem_append_right _ (lw_t4 (i := 150) rfl)) rfl
theorem qM_X3_74 : Cond.methodLinkNest RX3 74 yX8_twoName RX8 ∈ lw_tbl := (List.mem_append_right _ (lw_t4 (i := 151) rfl))
theorem qM_L_140 : Cond.methodLink RL 140 yX8_fullest ∈ lw_g := lw_gm (List.mem_append_right _ (lw_t4 (i := 152) rfl)) rfl
theorem qI_X8_fullest : Cond.instanceMethod yX8_fullest ∈ lw_g := lw_gm (List.mem_append_right _ (lw_t4 (i := 153) rfl)) rfl
theorem qS_X8_fullest : Cond.selects RX8 yX8_fullest yX8_fullest ∈ lw_g := lw_gm (List.mem_append_right _ (lw_t4 (i := 154) rfl)) rfl
theorem qC_X8_fullest : Cond.code yX8_fullest cX8_fullest 4 (some .int) ∈ lw_g := lw_gm (List.mem_append_right _ (lw_t4 (i := 155) rfl)) rfl
theorem qM_X8_320 : Cond.methodLink RX8 320 yX3_townOfMost ∈ lw_g := lw_gm (List.mem_append_right _ (lw_t4 (i := 156) rfl)) rfl
theorem qI_X3_townOfMost : Cond.instanceMethod yX3_townOfMost ∈ lw_g := lw_gm (List.mem_append_right _ (lw_t4 (i := 157) rfl)) rfl
theorem qS_X3_townOfMost : Cond.selects RX3 yX3_townOfMost yX3_townOfMost ∈ lw_g := lw_gm (List.mem_append_right _ (lw_t4 (i := 158) rfl)) rfl
theorem qC_X3_townOfMost : Cond.code yX3_townOfMost cX3_townOfMost 3 (some .int) ∈ lw_g := lw_gm (List.mem_append_right _ (lw_t4 (i := 159) rfl)) rfl
theorem qM_X3_44 : Cond.methodLink RX3 44 yX3_crowd ∈ lw_g := lw_gm (List.mem_append_right _ (lw_t4 (i := 160) rfl)) rfl
theorem qI_X3_crowd : Cond.instanceMethod yX3_crowd ∈ lw_g := lw_gm (List.mem_append_right _ (lw_t4 (i := 161) rfl)) rfl
theorem qS_X3_crowd : Cond.selects RX3 yX3_crowd yX3_crowd ∈ lw_g := lw_gm (List.mem_append_right _ (lw_t4 (i := 162) rfl)) rfl
theorem qC_X3_crowd : Cond.code yX3_crowd cX3_crowd 2 (some .int) ∈ lw_g := lw_gm (List.mem_append_right _ (lw_t4 (i := 163) rfl)) rfl
theorem qM_X3_36 : Cond.methodLink RX3 36 yX3_keepersIn ∈ lw_g := lw_gm (List.mem_append_right _ (lw_t4 (i := 164) rfl)) rfl
theorem qM_X3_39 : Cond.methodLink RX3 39 yJ6_bitCount_0f7a4 ∈ lw_g := lw_gm (List.mem_append_right _ (lw_t4 (i := 165) rfl)) rfl
theorem qM_X8_323 : Cond.methodLink RX8 323 yX3_crowd ∈ lw_g := lw_gm (List.mem_append_right _ (lw_t4 (i := 166) rfl)) rfl
theorem qM_L_144 : Cond.methodLink RL 144 yX8_thickest ∈ lw_g := lw_gm (List.mem_append_right _ (lw_t4 (i := 167) rfl)) rfl
theorem qI_X8_thickest : Cond.instanceMethod yX8_thickest ∈ lw_g := lw_gm (List.mem_append_right _ (lw_t4 (i := 168) rfl)) rfl
theorem qS_X8_thickest : Cond.selects RX8 yX8_thickest yX8_thickest ∈ lw_g := lw_gm (List.mem_append_right _ (lw_t4 (i := 169) rfl)) rfl
theorem qC_X8_thickest : Cond.code yX8_thickest cX8_thickest 1 (some .int) ∈ lw_g := lw_gm (List.mem_append_right _ (lw_t4 (i := 170) rfl)) rfl
theorem qM_X8_326 : Cond.methodLink RX8 326 yX3_deepestSealed ∈ lw_g := lw_gm (List.mem_append_right _ (lw_t4 (i := 171) rfl)) rfl
theorem qI_X3_deepestSealed : Cond.instanceMethod yX3_deepestSealed ∈ lw_g := lw_gm (List.mem_append_right _ (lw_t4 (i := 172) rfl)) rfl
theorem qS_X3_deepestSealed : Cond.selects RX3 yX3_deepestSealed yX3_deepestSealed ∈ lw_g := lw_gm (List.mem_append_right _ (lw_t4 (i := 173) rfl)) rfl
theorem qC_X3_deepestSealed : Cond.code yX3_deepestSealed cX3_deepestSealed 4 (some .int) ∈ lw_g := lw_gm (List.mem_append_right _ (lw_t4 (i := 174) rfl)) rfl
theorem qM_X3_77 : Cond.methodLink RX3 77 yX1_letterCount ∈ lw_g := lw_gm (List.mem_append_right _ (lw_t4 (i := 175) rfl)) rfl
theorem qM_X3_80 : Cond.methodLink RX3 80 yX1_depthOf ∈ lw_g := lw_gm (List.mem_append_right _ (lw_t4 (i := 176) rfl)) rfl
theorem qM_X3_83 : Cond.methodLink RX3 83 yX1_isOpen ∈ lw_g := lw_gm (List.mem_append_right _ (lw_t4 (i := 177) rfl)) rfl
theorem qM_L_148 : Cond.methodLink RL 148 yX8_mildest ∈ lw_g := lw_gm (List.mem_append_right _ (lw_t4 (i := 178) rfl)) rfl
theorem qI_X8_mildest : Cond.instanceMethod yX8_mildest ∈ lw_g := lw_gm (List.mem_append_right _ (lw_t4 (i := 179) rfl)) rfl
theorem qS_X8_mildest : Cond.selects RX8 yX8_mildest yX8_mildest ∈ lw_g := lw_gm (List.mem_append_right _ (lw_t4 (i := 180) rfl)) rfl
theorem qC_X8_mildest : Cond.code yX8_mildest cX8_mildest 1 (some .int) ∈ lw_g := lw_gm (List.mem_append_right _ (lw_t4 (i := 181) rfl)) rfl
theorem qM_X8_329 : Cond.methodLink RX8 329 yX3_leastHating ∈ lw_g := lw_gm (List.mem_append_right _ (lw_t4 (i := 182) rfl)) rfl
theorem qI_X3_leastHating : Cond.instanceMethod yX3_leastHating ∈ lw_g := lw_gm (List.mem_append_right _ (lw_t4 (i := 183) rfl)) rfl
theorem qS_X3_leastHating : Cond.selects RX3 yX3_leastHating yX3_leastHating ∈ lw_g := lw_gm (List.mem_append_right _ (lw_t4 (i := 184) rfl)) rfl
theorem qC_X3_leastHating : Cond.code yX3_leastHating cX3_leastHating 3 (some .int) ∈ lw_g := lw_gm (List.mem_append_right _ (lw_t4 (i := 185) rfl)) rfl
theorem qM_X3_87 : Cond.methodLink RX3 87 yX3_hatesTogether ∈ lw_g := lw_gm (List.mem_append_right _ (lw_t4 (i := 186) rfl)) rfl
theorem qI_X3_hatesTogether : Cond.instanceMethod yX3_hatesTogether ∈ lw_g := lw_gm (List.mem_append_right _ (lw_t4 (i := 188) rfl)) rfl
theorem qC_X3_hatesTogether : Cond.code yX3_hatesTogether cX3_hatesTogether 4 (some .int) ∈ lw_g := lw_gm (List.mem_append_right _ (lw_t4 (i := 189) rfl)) rfl
theorem qM_L_152 : Cond.methodLink RL 152 yX8_bare ∈ lw_g := lw_gm (List.mem_append_right _ (lw_t4 (i := 190) rfl)) rfl
theorem qI_X8_bare : Cond.instanceMethod yX8_bare ∈ lw_g := lw_gm (List.mem_append_right _ (lw_t4 (i := 191) rfl)) rfl
theorem qS_X8_bare : Cond.selects RX8 yX8_bare yX8_bare ∈ lw_g := lw_gm (List.mem_append_right _ (lw_t4 (i := 192) rfl)) rfl
theorem qC_X8_bare : Cond.code yX8_bare cX8_bare 1 (some .int) ∈ lw_g := lw_gm (List.mem_append_right _ (lw_t4 (i := 193) rfl)) rfl
theorem qM_X8_332 : Cond.methodLink RX8 332 yX3_bareTowns ∈ lw_g := lw_gm (List.mem_append_right _ (lw_t4 (i := 194) rfl)) rfl
theorem qI_X3_bareTowns : Cond.instanceMethod yX3_bareTowns ∈ lw_g := lw_gm (List.mem_append_right _ (lw_t4 (i := 195) rfl)) rfl
theorem qS_X3_bareTowns : Cond.selects RX3 yX3_bareTowns yX3_bareTowns ∈ lw_g := lw_gm (List.mem_append_right _ (lw_t4 (i := 196) rfl)) rfl
theorem qC_X3_bareTowns : Cond.code yX3_bareTowns cX3_bareTowns 3 (some .int) ∈ lw_g := lw_gm (List.mem_append_right _ (lw_t4 (i := 197) rfl)) rfl
theorem qM_X3_93 : Cond.methodLink RX3 93 yX1_letterTownOf ∈ lw_g := lw_gm (List.mem_append_right _ (lw_t4 (i := 198) rfl)) rfl
theorem qM_L_173 : Cond.methodLink RL 173 yX8_enemy ∈ lw_g := lw_gm (List.mem_append_right _ (lw_t4 (i := 199) rfl)) rfl
theorem qI_X8_enemy : Cond.instanceMethod yX8_enemy ∈ lw_g := lw_gm (List.mem_append_right _ (lw_t4 (i := 200) rfl)) rfl
theorem qS_X8_enemy : Cond.selects RX8 yX8_enemy yX8_enemy ∈ lw_g := lw_gm (List.mem_append_right _ (lw_t4 (i := 201) rfl)) rfl
theorem qC_X8_enemy : Cond.code yX8_enemy cX8_enemy 3 (some .int) ∈ lw_g := lw_gm (List.mem_append_right _ (lw_t4 (i := 202) rfl)) rfl
theorem qM_X8_335 : Cond.methodLink RX8 335 yX3_mostHated ∈ lw_g := lw_gm (List.mem_append_right _ (lw_t4 (i := 203) rfl)) rfl
theorem qI_X3_mostHated : Cond.instanceMethod yX3_mostHated ∈ lw_g := lw_gm (List.mem_append_right _ (lw_t4 (i := 204) rfl)) rfl
theorem qS_X3_mostHated : Cond.selects RX3 yX3_mostHated yX3_mostHated ∈ lw_g := lw_gm (List.mem_append_right _ (lw_t4 (i := 205) rfl)) rfl
theorem qC_X3_mostHated : Cond.code yX3_mostHated cX3_mostHated 5 (some .int) ∈ lw_g := lw_gm (List.mem_append_right _ (lw_t4 (i := 206) rfl)) rfl
theorem qM_L_156 : Cond.methodLink RL 156 yX8_mean ∈ lw_g := lw_gm (List.mem_append_right _ (lw_t4 (i := 207) rfl)) rfl
theorem qI_X8_mean : Cond.instanceMethod yX8_mean ∈ lw_g := lw_gm (List.mem_append_right _ (lw_t4 (i := 208) rfl)) rfl
theorem qS_X8_mean : Cond.selects RX8 yX8_mean yX8_mean ∈ lw_g := lw_gm (List.mem_append_right _ (lw_t4 (i := 209) rfl)) rfl
theorem qC_X8_mean : Cond.code yX8_mean cX8_mean 4 (some .long) ∈ lw_g := lw_gm (List.mem_append_right _ (lw_t4 (i := 210) rfl)) rfl
theorem qL_L_10 : Cond.classLink RL 10 RX9 ∈ lw_g := lw_gm (List.mem_append_right _ (lw_t4 (i := 211) rfl)) rfl
theorem qB_X9 : Cond.instantiable RX9 31 ∈ lw_g := lw_gm (List.mem_append_right _ (lw_t4 (i := 212) rfl)) rfl
theorem qM_L_12 : Cond.methodLink RL 12 yX9_init ∈ lw_g := lw_gm (List.mem_append_right _ (lw_t4 (i := 213) rfl)) rfl
theorem qI_X9_init : Cond.instanceMethod yX9_init ∈ lw_g := lw_gm (List.mem_append_right _ (lw_t4 (i := 214) rfl)) rfl
theorem qC_X9_init : Cond.code yX9_init cX9_init 1 none ∈ lw_g := lw_gm (List.mem_append_right _ (lw_t4 (i := 215) rfl)) rfl
theorem qM_X9_1 : Cond.methodLink RX9 1 objectInit ∈ lw_g := lw_gm (List.mem_append_right _ (lw_t4 (i := 216) rfl)) rfl
theorem qF_X9_7 : Cond.fieldLink RX9 7 "OnlyTwoEnemiesModel" "refused" "[I" ∈ lw_g := lw_gm (List.mem_append_right _ (lw_t4 (i := 217) rfl)) rfl
theorem qF_X9_13 : Cond.fieldLink RX9 13 "OnlyTwoEnemiesModel" "kind" "[I" ∈ lw_g := lw_gm (List.mem_append_right _ (lw_t4 (i := 218) rfl)) rfl
theorem qF_X9_16 : Cond.fieldLink RX9 16 "OnlyTwoEnemiesModel" "figure" "[I" ∈ lw_g := lw_gm (List.mem_append_right _ (lw_t4 (i := 219) rfl)) rfl
theorem qF_X9_19 : Cond.fieldLink RX9 19 "OnlyTwoEnemiesModel" "town" "[I" ∈ lw_g := lw_gm (List.mem_append_right _ (lw_t4 (i := 220) rfl)) rfl
theorem qF_X9_22 : Cond.fieldLink RX9 22 "OnlyTwoEnemiesModel" "hate" "[I" ∈ lw_g := lw_gm (List.mem_append_right _ (lw_t4 (i := 221) rfl)) rfl
theorem qF_X9_25 : Cond.fieldLink RX9 25 "OnlyTwoEnemiesModel" "depth" "[I" ∈ lw_g := lw_gm (List.mem_append_right _ (lw_t4 (i := 222) rfl)) rfl
theorem qF_X9_28 : Cond.fieldLink RX9 28 "OnlyTwoEnemiesModel" "lies" "[I" ∈ lw_g := lw_gm (List.mem_append_right _ (lw_t4 (i := 223) rfl)) rfl
theorem qF_X9_31 : Cond.fieldLink RX9 31 "OnlyTwoEnemiesModel" "open" "[I" ∈ lw_g := lw_gm (List.mem_append_right _ (lw_t4 (i := 224) rfl)) rfl
theorem qF_X9_65 : Cond.fieldLink RX9 65 "OnlyTwoEnemiesModel" "keepers" "I" ∈ lw_g := lw_gm (List.mem_append_right _ (lw_t4 (i := 225) rfl)) rfl
theorem qF_X9_58 : Cond.fieldLink RX9 58 "OnlyTwoEnemiesModel" "letters" "I" ∈ lw_g := lw_gm (List.mem_append_right _ (lw_t4 (i := 226) rfl)) rfl
theorem qF_X9_115 : Cond.fieldLink RX9 115 "OnlyTwoEnemiesModel" "week" "I" ∈ lw_g := lw_gm (List.mem_append_right _ (lw_t4 (i := 227) rfl)) rfl
theorem qF_X9_171 : Cond.fieldLink RX9 171 "OnlyTwoEnemiesModel" "out" "I" ∈ lw_g := lw_gm (List.mem_append_right _ (lw_t4 (i := 228) rfl)) rfl
theorem qF_X9_34 : Cond.fieldLink RX9 34 "OnlyTwoEnemiesModel" "tape" "[I" ∈ lw_g := lw_gm (List.mem_append_right _ (lw_t4 (i := 229) rfl)) rfl
theorem qF_X9_37 : Cond.fieldLink RX9 37 "OnlyTwoEnemiesModel" "mark" "[I" ∈ lw_g := lw_gm (List.mem_append_right _ (lw_t4 (i := 230) rfl)) rfl
theorem qF_X9_40 : Cond.fieldLink RX9 40 "OnlyTwoEnemiesModel" "markAt" "[I" ∈ lw_g := lw_gm (List.mem_append_right _ (lw_t4 (i := 231) rfl)) rfl
theorem qF_X9_43 : Cond.fieldLink RX9 43 "OnlyTwoEnemiesModel" "told" "[I" ∈ lw_g := lw_gm (List.mem_append_right _ (lw_t4 (i := 232) rfl)) rfl
theorem qF_X9_76 : Cond.fieldLink RX9 76 "OnlyTwoEnemiesModel" "taped" "I" ∈ lw_g := lw_gm (List.mem_append_right _ (lw_t4 (i := 233) rfl)) rfl
theorem qF_X9_83 : Cond.fieldLink RX9 83 "OnlyTwoEnemiesModel" "reading" "I" ∈ lw_g := lw_gm (List.mem_append_right _ (lw_t4 (i := 234) rfl)) rfl
theorem qF_X9_98 : Cond.fieldLink RX9 98 "OnlyTwoEnemiesModel" "statements" "I" ∈ lw_g := lw_gm (List.mem_append_right _ (lw_t4 (i := 235) rfl)) rfl
theorem qF_X9_46 : Cond.fieldLink RX9 46 "OnlyTwoEnemiesModel" "kept" "[I" ∈ lw_g := lw_gm (List.mem_append_right _ (lw_t4 (i := 236) rfl)) rfl
theorem qF_X9_168 : Cond.fieldLink RX9 168 "OnlyTwoEnemiesModel" "hasImage" "Z" ∈ lw_g := lw_gm (List.mem_append_right _ (lw_t4 (i := 237) rfl)) rfl
theorem qF_X9_154 : Cond.fieldLink RX9 154 "OnlyTwoEnemiesModel" "isKeeping" "Z" ∈ lw_g := lw_gm (List.mem_append_right _ (lw_t4 (i := 238) rfl)) rfl
theorem qF_X9_158 : Cond.fieldLink RX9 158 "OnlyTwoEnemiesModel" "cursor" "I" ∈ lw_g := lw_gm (List.mem_append_right _ (lw_t4 (i := 239) rfl)) rfl
theorem qF_X9_151 : Cond.fieldLink RX9 151 "OnlyTwoEnemiesModel" "backs" "I" ∈ lw_g := lw_gm (List.mem_append_right _ (lw_t5 (i := 0) rfl)) rfl
theorem qF_X9_49 : Cond.fieldLink RX9 49 "OnlyTwoEnemiesModel" "openedBy" "[I" ∈ lw_g := lw_gm (List.mem_append_right _ (lw_t5 (i := 1) rfl)) rfl
theorem qF_X9_193 : Cond.fieldLink RX9 193 "OnlyTwoEnemiesModel" "openedNow" "I" ∈ lw_g := lw_gm (List.mem_append_right _ (lw_t5 (i := 2) rfl)) rfl
theorem qF_X9_235 : Cond.fieldLink RX9 235 "OnlyTwoEnemiesModel" "byWhom" "I" ∈ lw_g := lw_gm (List.mem_append_right _ (lw_t5 (i := 3) rfl)) rfl
theorem qF_X9_52 : Cond.fieldLink RX9 52 "OnlyTwoEnemiesModel" "twosOf" "[I" ∈ lw_g := lw_gm (List.mem_append_right _ (lw_t5 (i := 4) rfl)) rfl
theorem qF_X9_55 : Cond.fieldLink RX9 55 "OnlyTwoEnemiesModel" "row" "[I" ∈ lw_g := lw_gm (List.mem_append_right _ (lw_t5 (i := 5) rfl)) rfl
theorem qF_X9_268 : Cond.fieldLink RX9 268 "OnlyTwoEnemiesModel" "rowMany" "I" ∈ lw_g := lw_gm (List.mem_append_right _ (lw_t5 (i := 6) rfl)) rfl
theorem qF_X9_318 : Cond.fieldLink RX9 318 "OnlyTwoEnemiesModel" "lots" "I" ∈ lw_g := lw_gm (List.mem_append_right _ (lw_t5 (i := 7) rfl)) rfl
theorem qM_L_17 : Cond.methodLink RL 17 yX9_feed ∈ lw_g := lw_gm (List.mem_append_right _ (lw_t5 (i := 71) rfl)) rfl
theorem qI_X9_feed : Cond.instanceMethod yX9_feed ∈ lw_g := lw_gm (List.mem_append_right _ (lw_t5 (i := 72) rfl)) rfl
theorem qS_X9_feed : Cond.selects RX9 yX9_feed yX9_feed ∈ lw_g := lw_gm (List.mem_append_right _ (lw_t5 (i := 73) rfl)) rfl
theorem qC_X9_feed : Cond.code yX9_feed cX9_feed 3 (some .int) ∈ lw_g := lw_gm (List.mem_append_right _ (lw_t5 (i := 74) rfl)) rfl
theorem qM_X9_72 : Cond.methodLink RX9 72 yX9_bound ∈ lw_g := lw_gm (List.mem_append_right _ (lw_t5 (i := 75) rfl)) rfl
theorem qT_X9_bound : Cond.static yX9_bound ∈ lw_g := lw_gm (List.mem_append_right _ (lw_t5 (i := 76) rfl)) rfl
theorem qC_X9_bound : Cond.code yX9_bound cX9_bound 3 (some .int) ∈ lw_g := lw_gm (List.mem_append_right _ (lw_t5 (i := 77) rfl)) rfl
theorem qM_X9_79 : Cond.methodLink RX9 79 yX9_no ∈ lw_g := lw_gm (List.mem_append_right _ (lw_t5 (i := 78) rfl)) rfl
theorem qI_X9_no : Cond.instanceMethod yX9_no ∈ lw_g := lw_gm (List.mem_append_right _ (lw_t5 (i := 80) rfl)) rfl
theorem qC_X9_no : Cond.code yX9_no cX9_no 2 (some .int) ∈ lw_g := lw_gm (List.mem_append_right _ (lw_t5 (i := 81) rfl)) rfl
theorem qM_L_22 : Cond.methodLink RL 22 yX9_land ∈ lw_g := lw_gm (List.mem_append_right _ (lw_t5 (i := 82) rfl)) rfl
theorem qI_X9_land : Cond.instanceMethod yX9_land ∈ lw_g := lw_gm (List.mem_append_right _ (lw_t5 (i := 83) rfl)) rfl
theorem qS_X9_land : Cond.selects RX9 yX9_land yX9_land ∈ lw_g := lw_gm (List.mem_append_right _ (lw_t5 (i := 84) rfl)) rfl
theorem qC_X9_land : Cond.code yX9_land cX9_land 3 (some .int) ∈ lw_g := lw_gm (List.mem_append_right _ (lw_t5 (i := 85) rfl)) rfl
theorem qM_X9_140 : Cond.methodLink RX9 140 yX9_statement ∈ lw_g := lw_gm (List.mem_append_right _ (lw_t5 (i := 86) rfl)) rfl
theorem qI_X9_statement : Cond.instanceMethod yX9_statement ∈ lw_g := lw_gm (List.mem_append_right _ (lw_t5 (i := 88) rfl)) rfl
theorem qC_X9_statement : Cond.code yX9_statement cX9_statement 2 (some .boolean) ∈ lw_g := lw_gm (List.mem_append_right _ (lw_t5 (i := 89) rfl)) rfl
theorem qM_X9_86 : Cond.methodLink RX9 86 yX9_next ∈ lw_g := lw_gm (List.mem_append_right _ (lw_t5 (i := 90) rfl)) rfl
theorem qI_X9_next : Cond.instanceMethod yX9_next ∈ lw_g := lw_gm (List.mem_append_right _ (lw_t5 (i := 92) rfl)) rfl
theorem qC_X9_next : Cond.code yX9_next cX9_next 1 (some .int) ∈ lw_g := lw_gm (List.mem_append_right _ (lw_t5 (i := 93) rfl)) rfl
theorem qM_X9_101 : Cond.methodLink RX9 101 yX9_readsAll ∈ lw_g := lw_gm (List.mem_append_right _ (lw_t5 (i := 94) rfl)) rfl
theorem qI_X9_readsAll : Cond.instanceMethod yX9_readsAll ∈ lw_g := lw_gm (List.mem_append_right _ (lw_t5 (i := 96) rfl)) rfl
theorem qC_X9_readsAll : Cond.code yX9_readsAll cX9_readsAll 3 (some .boolean) ∈ lw_g := lw_gm (List.mem_append_right _ (lw_t5 (i := 97) rfl)) rfl
theorem qM_X9_94 : Cond.methodLink RX9 94 yX9_readsDigits ∈ lw_g := lw_gm (List.mem_append_right _ (lw_t5 (i := 98) rfl)) rfl
theorem qI_X9_readsDigits : Cond.instanceMethod yX9_readsDigits ∈ lw_g := lw_gm (List.mem_append_right _ (lw_t5 (i := 100) rfl)) rfl
theorem qC_X9_readsDigits : Cond.code yX9_readsDigits cX9_readsDigits 5 (some .boolean) ∈ lw_g := lw_gm (List.mem_append_right _ (lw_t5 (i := 101) rfl)) rfl
theorem qM_X9_90 : Cond.methodLink RX9 90 yX9_isIn ∈ lw_g := lw_gm (List.mem_append_right _ (lw_t5 (i := 102) rfl)) rfl
theorem qT_X9_isIn : Cond.static yX9_isIn ∈ lw_g := lw_gm (List.mem_append_right _ (lw_t5 (i := 103) rfl)) rfl
theorem qC_X9_isIn : Cond.code yX9_isIn cX9_isIn 3 (some .boolean) ∈ lw_g := lw_gm (List.mem_append_right _ (lw_t5 (i := 104) rfl)) rfl
theorem qM_X9_144 : Cond.methodLink RX9 144 yX9_passesAll ∈ lw_g := lw_gm (List.mem_append_right _ (lw_t5 (i := 105) rfl)) rfl
theorem qI_X9_passesAll : Cond.instanceMethod yX9_passesAll ∈ lw_g := lw_gm (List.mem_append_right _ (lw_t5 (i := 107) rfl)) rfl
theorem qC_X9_passesAll : Cond.code yX9_passesAll cX9_passesAll 3 none ∈ lw_g := lw_gm (List.mem_append_right _ (lw_t5 (i := 108) rfl)) rfl
theorem qM_X9_161 : Cond.methodLink RX9 161 yX9_passes ∈ lw_g := lw_gm (List.mem_append_right _ (lw_t5 (i := 109) rfl)) rfl
theorem qI_X9_passes : Cond.instanceMethod yX9_passes ∈ lw_g := lw_gm (List.mem_append_right _ (lw_t5 (i := 111) rfl)) rfl
theorem qC_X9_passes : Cond.code yX9_passes cX9_passes 3 none ∈ lw_g := lw_gm (List.mem_append_right _ (lw_t5 (i := 112) rfl)) rfl
theorem qM_X9_165 : Cond.methodLink RX9 165 yX9_passOne ∈ lw_g := lw_gm (List.mem_append_right _ (lw_t5 (i := 113) rfl)) rfl
theorem qI_X9_passOne : Cond.instanceMethod yX9_passOne ∈ lw_g := lw_gm (List.mem_append_right _ (lw_t5 (i := 115) rfl)) rfl
theorem qC_X9_passOne : Cond.code yX9_passOne cX9_passOne 3 (some .int) ∈ lw_g := lw_gm (List.mem_append_right _ (lw_t5 (i := 116) rfl)) rfl
theorem qM_X9_148 : Cond.methodLink RX9 148 yX9_comes ∈ lw_g := lw_gm (List.mem_append_right _ (lw_t5 (i := 117) rfl)) rfl
theorem qI_X9_comes : Cond.instanceMethod yX9_comes ∈ lw_g := lw_gm (List.mem_append_right _ (lw_t5 (i := 119) rfl)) rfl
theorem qC_X9_comes : Cond.code yX9_comes cX9_comes 3 (some .boolean) ∈ lw_g := lw_gm (List.mem_append_right _ (lw_t5 (i := 120) rfl)) rfl
theorem qM_X9_122 : Cond.methodLink RX9 122 yX9_comesKeeper ∈ lw_g := lw_gm (List.mem_append_right _ (lw_t5 (i := 121) rfl)) rfl
theorem qI_X9_comesKeeper : Cond.instanceMethod yX9_comesKeeper ∈ lw_g := lw_gm (List.mem_append_right _ (lw_t5 (i := 123) rfl)) rfl
theorem qC_X9_comesKeeper : Cond.code yX9_comesKeeper cX9_comesKeeper 4 (some .boolean) ∈ lw_g := lw_gm (List.mem_append_right _ (lw_t5 (i := 124) rfl)) rfl
theorem qM_X9_104 : Cond.methodLink RX9 104 yX9_isTown ∈ lw_g := lw_gm (List.mem_append_right _ (lw_t5 (i := 125) rfl)) rfl
theorem qT_X9_isTown : Cond.static yX9_isTown ∈ lw_g := lw_gm (List.mem_append_right _ (lw_t5 (i := 126) rfl)) rfl
theorem qC_X9_isTown : Cond.code yX9_isTown cX9_isTown 1 (some .boolean) ∈ lw_g := lw_gm (List.mem_append_right _ (lw_t5 (i := 127) rfl)) rfl
theorem qM_X9_107 : Cond.methodLink RX9 107 yX9_addsKeeper ∈ lw_g := lw_gm (List.mem_append_right _ (lw_t5 (i := 128) rfl)) rfl
theorem qI_X9_addsKeeper : Cond.instanceMethod yX9_addsKeeper ∈ lw_g := lw_gm (List.mem_append_right _ (lw_t5 (i := 130) rfl)) rfl
theorem qC_X9_addsKeeper : Cond.code yX9_addsKeeper cX9_addsKeeper 5 none ∈ lw_g := lw_gm (List.mem_append_right _ (lw_t5 (i := 131) rfl)) rfl
theorem qM_X9_128 : Cond.methodLink RX9 128 yX9_sets ∈ lw_g := lw_gm (List.mem_append_right _ (lw_t5 (i := 132) rfl)) rfl
theorem qI_X9_sets : Cond.instanceMethod yX9_sets ∈ lw_g := lw_gm (List.mem_append_right _ (lw_t5 (i := 134) rfl)) rfl
theorem qC_X9_sets : Cond.code yX9_sets cX9_sets 4 none ∈ lw_g := lw_gm (List.mem_append_right _ (lw_t5 (i := 135) rfl)) rfl
theorem qM_X9_125 : Cond.methodLink RX9 125 yX9_areTwo ∈ lw_g := lw_gm (List.mem_append_right _ (lw_t5 (i := 136) rfl)) rfl
theorem qI_X9_areTwo : Cond.instanceMethod yX9_areTwo ∈ lw_g := lw_gm (List.mem_append_right _ (lw_t5 (i := 138) rfl)) rfl
theorem qC_X9_areTwo : Cond.code yX9_areTwo cX9_areTwo 3 (some .boolean) ∈ lw_g := lw_gm (List.mem_append_right _ (lw_t5 (i := 139) rfl)) rfl
theorem qM_X9_68 : Cond.methodLink RX9 68 yX9_isKeeper ∈ lw_g := lw_gm (List.mem_append_right _ (lw_t5 (i := 140) rfl)) rfl
theorem qI_X9_isKeeper : Cond.instanceMethod yX9_isKeeper ∈ lw_g := lw_gm (List.mem_append_right _ (lw_t5 (i := 142) rfl)) rfl
theorem qC_X9_isKeeper : Cond.code yX9_isKeeper cX9_isKeeper 2 (some .boolean) ∈ lw_g := lw_gm (List.mem_append_right _ (lw_t5 (i := 143) rfl)) rfl
theorem qM_X9_131 : Cond.methodLink RX9 131 yX9_comesLetter ∈ lw_g := lw_gm (List.mem_append_right _ (lw_t5 (i := 144) rfl)) rfl
theorem qI_X9_comesLetter : Cond.instanceMethod yX9_comesLetter ∈ lw_g := lw_gm (List.mem_append_right _ (lw_t5 (i := 146) rfl)) rfl
theorem qC_X9_comesLetter : Cond.code yX9_comesLetter cX9_comesLetter 3 (some .boolean) ∈ lw_g := lw_gm (List.mem_append_right _ (lw_t5 (i := 147) rfl)) rfl
theorem qM_X9_111 : Cond.methodLink RX9 111 yX9_addsLetter ∈ lw_g := lw_gm (List.mem_append_right _ (lw_t5 (i := 148) rfl)) rfl
theorem qI_X9_addsLetter : Cond.instanceMethod yX9_addsLetter ∈ lw_g := lw_gm (List.mem_append_right _ (lw_t5 (i := 150) rfl)) rfl
theorem qC_X9_addsLetter : Cond.code yX9_addsLetter cX9_addsLetter 3 none ∈ lw_g := lw_gm (List.mem_append_right _ (lw_t5 (i := 151) rfl)) rfl
theorem qM_X9_134 : Cond.methodLink RX9 134 yX9_isLetter ∈ lw_g := lw_gm (List.mem_append_right _ (lw_t5 (i := 152) rfl)) rfl
theorem qI_X9_isLetter : Cond.instanceMethod yX9_isLetter ∈ lw_g := lw_gm (List.mem_append_right _ (lw_t5 (i := 154) rfl)) rfl
theorem qC_X9_isLetter : Cond.code yX9_isLetter cX9_isLetter 2 (some .boolean) ∈ lw_g := lw_gm (List.mem_append_right _ (lw_t5 (i := 155) rfl)) rfl
theorem qM_X9_137 : Cond.methodLink RX9 137 yX9_comesWeeks ∈ lw_g := lw_gm (List.mem_append_right _ (lw_t5 (i := 156) rfl)) rfl
theorem qI_X9_comesWeeks : Cond.instanceMethod yX9_comesWeeks ∈ lw_g := lw_gm (List.mem_append_right _ (lw_t5 (i := 158) rfl)) rfl
theorem qC_X9_comesWeeks : Cond.code yX9_comesWeeks cX9_comesWeeks 2 (some .boolean) ∈ lw_g := lw_gm (List.mem_append_right _ (lw_t5 (i := 159) rfl)) rfl
theorem qM_X9_118 : Cond.methodLink RX9 118 yX9_goesOn ∈ lw_g := lw_gm (List.mem_append_right _ (lw_t5 (i := 160) rfl)) rfl
theorem qI_X9_goesOn : Cond.instanceMethod yX9_goesOn ∈ lw_g := lw_gm (List.mem_append_right _ (lw_t5 (i := 162) rfl)) rfl
theorem qC_X9_goesOn : Cond.code yX9_goesOn cX9_goesOn 3 none ∈ lw_g := lw_gm (List.mem_append_right _ (lw_t5 (i := 163) rfl)) rfl
theorem qM_X9_202 : Cond.methodLink RX9 202 yX9_goesWeek ∈ lw_g := lw_gm (List.mem_append_right _ (lw_t5 (i := 164) rfl)) rfl
theorem qI_X9_goesWeek : Cond.instanceMethod yX9_goesWeek ∈ lw_g := lw_gm (List.mem_append_right _ (lw_t5 (i := 166) rfl)) rfl
theorem qC_X9_goesWeek : Cond.code yX9_goesWeek cX9_goesWeek 4 none ∈ lw_g := lw_gm (List.mem_append_right _ (lw_t5 (i := 167) rfl)) rfl
theorem qM_X9_196 : Cond.methodLink RX9 196 yX9_fadesTwo ∈ lw_g := lw_gm (List.mem_append_right _ (lw_t5 (i := 168) rfl)) rfl
theorem qI_X9_fadesTwo : Cond.instanceMethod yX9_fadesTwo ∈ lw_g := lw_gm (List.mem_append_right _ (lw_t5 (i := 170) rfl)) rfl
theorem qC_X9_fadesTwo : Cond.code yX9_fadesTwo cX9_fadesTwo 4 none ∈ lw_g := lw_gm (List.mem_append_right _ (lw_t5 (i := 171) rfl)) rfl
theorem qM_X9_174 : Cond.methodLink RX9 174 yX9_has ∈ lw_g := lw_gm (List.mem_append_right _ (lw_t5 (i := 172) rfl)) rfl
theorem qT_X9_has : Cond.static yX9_has ∈ lw_g := lw_gm (List.mem_append_right _ (lw_t5 (i := 173) rfl)) rfl
theorem qC_X9_has : Cond.code yX9_has cX9_has 2 (some .boolean) ∈ lw_g := lw_gm (List.mem_append_right _ (lw_t5 (i := 174) rfl)) rfl
theorem qM_X9_180 : Cond.methodLink RX9 180 yX9_hateOf ∈ lw_g := lw_gm (List.mem_append_right _ (lw_t5 (i := 175) rfl)) rfl
theorem qI_X9_hateOf : Cond.instanceMethod yX9_hateOf ∈ lw_g := lw_gm (List.mem_append_right _ (lw_t5 (i := 177) rfl)) rfl
