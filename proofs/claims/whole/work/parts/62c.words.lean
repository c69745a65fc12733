theorem qC_X9_hateOf : Cond.code yX9_hateOf cX9_hateOf 3 (some .int) ∈ lw_g := lw_gm (List.mem_append_right _ (lw_t5 (i := 178) rfl)) rfl
theorem qM_X9_184 : Cond.methodLink RX9 184 yX9_fadesOf ∈ lw_g := lw_gm (List.mem_append_right _ (lw_t5 (i := 179) rfl)) rfl
theorem qI_X9_fadesOf : Cond.instanceMethod yX9_fadesOf ∈ lw_g := lw_gm (List.mem_append_right _ (lw_t5 (i := 181) rfl)) rfl
theorem qC_X9_fadesOf : Cond.code yX9_fadesOf cX9_fadesOf 2 (some .int) ∈ lw_g := lw_gm (List.mem_append_right _ (lw_t5 (i := 182) rfl)) rfl
theorem qM_X9_187 : Cond.methodLink RX9 187 yX9_held ∈ lw_g := lw_gm (List.mem_append_right _ (lw_t5 (i := 183) rfl)) rfl
theorem qT_X9_held : Cond.static yX9_held ∈ lw_g := lw_gm (List.mem_append_right _ (lw_t5 (i := 184) rfl)) rfl
theorem qC_X9_held : Cond.code yX9_held cX9_held 3 (some .int) ∈ lw_g := lw_gm (List.mem_append_right _ (lw_t5 (i := 185) rfl)) rfl
theorem qM_X9_190 : Cond.methodLink RX9 190 yX9_stirsOf ∈ lw_g := lw_gm (List.mem_append_right _ (lw_t5 (i := 186) rfl)) rfl
theorem qI_X9_stirsOf : Cond.instanceMethod yX9_stirsOf ∈ lw_g := lw_gm (List.mem_append_right _ (lw_t5 (i := 188) rfl)) rfl
theorem qC_X9_stirsOf : Cond.code yX9_stirsOf cX9_stirsOf 2 (some .int) ∈ lw_g := lw_gm (List.mem_append_right _ (lw_t5 (i := 189) rfl)) rfl
theorem qM_X9_199 : Cond.methodLink RX9 199 yX9_opensAt ∈ lw_g := lw_gm (List.mem_append_right _ (lw_t5 (i := 190) rfl)) rfl
theorem qI_X9_opensAt : Cond.instanceMethod yX9_opensAt ∈ lw_g := lw_gm (List.mem_append_right _ (lw_t5 (i := 192) rfl)) rfl
theorem qC_X9_opensAt : Cond.code yX9_opensAt cX9_opensAt 7 (some .int) ∈ lw_g := lw_gm (List.mem_append_right _ (lw_t5 (i := 193) rfl)) rfl
theorem qM_X9_177 : Cond.methodLink RX9 177 yX9_areThere ∈ lw_g := lw_gm (List.mem_append_right _ (lw_t5 (i := 194) rfl)) rfl
theorem qI_X9_areThere : Cond.instanceMethod yX9_areThere ∈ lw_g := lw_gm (List.mem_append_right _ (lw_t5 (i := 196) rfl)) rfl
theorem qC_X9_areThere : Cond.code yX9_areThere cX9_areThere 4 (some .boolean) ∈ lw_g := lw_gm (List.mem_append_right _ (lw_t5 (i := 197) rfl)) rfl
theorem qM_L_64 : Cond.methodLink RL 64 yX9_back ∈ lw_g := lw_gm (List.mem_append_right _ (lw_t5 (i := 198) rfl)) rfl
theorem qI_X9_back : Cond.instanceMethod yX9_back ∈ lw_g := lw_gm (List.mem_append_right _ (lw_t5 (i := 199) rfl)) rfl
theorem qS_X9_back : Cond.selects RX9 yX9_back yX9_back ∈ lw_g := lw_gm (List.mem_append_right _ (lw_t5 (i := 200) rfl)) rfl
theorem qC_X9_back : Cond.code yX9_back cX9_back 1 (some .int) ∈ lw_g := lw_gm (List.mem_append_right _ (lw_t5 (i := 201) rfl)) rfl
theorem qM_L_200 : Cond.methodLink RL 200 yX9_image ∈ lw_g := lw_gm (List.mem_append_right _ (lw_t5 (i := 202) rfl)) rfl
theorem qI_X9_image : Cond.instanceMethod yX9_image ∈ lw_g := lw_gm (List.mem_append_right _ (lw_t5 (i := 203) rfl)) rfl
theorem qS_X9_image : Cond.selects RX9 yX9_image yX9_image ∈ lw_g := lw_gm (List.mem_append_right _ (lw_t5 (i := 204) rfl)) rfl
theorem qC_X9_image : Cond.code yX9_image cX9_image 1 (some .int) ∈ lw_g := lw_gm (List.mem_append_right _ (lw_t5 (i := 205) rfl)) rfl
theorem qM_L_204 : Cond.methodLink RL 204 yX9_restore ∈ lw_g := lw_gm (List.mem_append_right _ (lw_t5 (i := 206) rfl)) rfl
theorem qI_X9_restore : Cond.instanceMethod yX9_restore ∈ lw_g := lw_gm (List.mem_append_right _ (lw_t5 (i := 207) rfl)) rfl
theorem qS_X9_restore : Cond.selects RX9 yX9_restore yX9_restore ∈ lw_g := lw_gm (List.mem_append_right _ (lw_t5 (i := 208) rfl)) rfl
theorem qC_X9_restore : Cond.code yX9_restore cX9_restore 1 (some .int) ∈ lw_g := lw_gm (List.mem_append_right _ (lw_t5 (i := 209) rfl)) rfl
theorem qM_L_27 : Cond.methodLink RL 27 yX9_keeperOf ∈ lw_g := lw_gm (List.mem_append_right _ (lw_t5 (i := 210) rfl)) rfl
theorem qI_X9_keeperOf : Cond.instanceMethod yX9_keeperOf ∈ lw_g := lw_gm (List.mem_append_right _ (lw_t5 (i := 211) rfl)) rfl
theorem qS_X9_keeperOf : Cond.selects RX9 yX9_keeperOf yX9_keeperOf ∈ lw_g := lw_gm (List.mem_append_right _ (lw_t5 (i := 212) rfl)) rfl
theorem qC_X9_keeperOf : Cond.code yX9_keeperOf cX9_keeperOf 3 (some .int) ∈ lw_g := lw_gm (List.mem_append_right _ (lw_t5 (i := 213) rfl)) rfl
theorem qM_X9_205 : Cond.methodLink RX9 205 yX9_payOf ∈ lw_g := lw_gm (List.mem_append_right _ (lw_t5 (i := 214) rfl)) rfl
theorem qI_X9_payOf : Cond.instanceMethod yX9_payOf ∈ lw_g := lw_gm (List.mem_append_right _ (lw_t5 (i := 216) rfl)) rfl
theorem qC_X9_payOf : Cond.code yX9_payOf cX9_payOf 2 (some .int) ∈ lw_g := lw_gm (List.mem_append_right _ (lw_t5 (i := 217) rfl)) rfl
theorem qM_L_31 : Cond.methodLink RL 31 yX9_letterOf ∈ lw_g := lw_gm (List.mem_append_right _ (lw_t5 (i := 218) rfl)) rfl
theorem qI_X9_letterOf : Cond.instanceMethod yX9_letterOf ∈ lw_g := lw_gm (List.mem_append_right _ (lw_t5 (i := 219) rfl)) rfl
theorem qS_X9_letterOf : Cond.selects RX9 yX9_letterOf yX9_letterOf ∈ lw_g := lw_gm (List.mem_append_right _ (lw_t5 (i := 220) rfl)) rfl
theorem qC_X9_letterOf : Cond.code yX9_letterOf cX9_letterOf 3 (some .int) ∈ lw_g := lw_gm (List.mem_append_right _ (lw_t5 (i := 221) rfl)) rfl
theorem qM_L_35 : Cond.methodLink RL 35 yX9_hate ∈ lw_g := lw_gm (List.mem_append_right _ (lw_t5 (i := 222) rfl)) rfl
theorem qI_X9_hate : Cond.instanceMethod yX9_hate ∈ lw_g := lw_gm (List.mem_append_right _ (lw_t5 (i := 223) rfl)) rfl
theorem qS_X9_hate : Cond.selects RX9 yX9_hate yX9_hate ∈ lw_g := lw_gm (List.mem_append_right _ (lw_t5 (i := 224) rfl)) rfl
theorem qC_X9_hate : Cond.code yX9_hate cX9_hate 3 (some .int) ∈ lw_g := lw_gm (List.mem_append_right _ (lw_t5 (i := 225) rfl)) rfl
theorem qM_L_40 : Cond.methodLink RL 40 yX9_keeper ∈ lw_g := lw_gm (List.mem_append_right _ (lw_t5 (i := 226) rfl)) rfl
theorem qI_X9_keeper : Cond.instanceMethod yX9_keeper ∈ lw_g := lw_gm (List.mem_append_right _ (lw_t5 (i := 227) rfl)) rfl
theorem qS_X9_keeper : Cond.selects RX9 yX9_keeper yX9_keeper ∈ lw_g := lw_gm (List.mem_append_right _ (lw_t5 (i := 228) rfl)) rfl
theorem qC_X9_keeper : Cond.code yX9_keeper cX9_keeper 5 (some .int) ∈ lw_g := lw_gm (List.mem_append_right _ (lw_t5 (i := 229) rfl)) rfl
theorem qM_L_44 : Cond.methodLink RL 44 yX9_letter ∈ lw_g := lw_gm (List.mem_append_right _ (lw_t5 (i := 230) rfl)) rfl
theorem qI_X9_letter : Cond.instanceMethod yX9_letter ∈ lw_g := lw_gm (List.mem_append_right _ (lw_t5 (i := 231) rfl)) rfl
theorem qS_X9_letter : Cond.selects RX9 yX9_letter yX9_letter ∈ lw_g := lw_gm (List.mem_append_right _ (lw_t5 (i := 232) rfl)) rfl
theorem qC_X9_letter : Cond.code yX9_letter cX9_letter 4 (some .int) ∈ lw_g := lw_gm (List.mem_append_right _ (lw_t5 (i := 233) rfl)) rfl
theorem qM_L_48 : Cond.methodLink RL 48 yX9_hates ∈ lw_g := lw_gm (List.mem_append_right _ (lw_t5 (i := 234) rfl)) rfl
theorem qI_X9_hates : Cond.instanceMethod yX9_hates ∈ lw_g := lw_gm (List.mem_append_right _ (lw_t5 (i := 235) rfl)) rfl
theorem qS_X9_hates : Cond.selects RX9 yX9_hates yX9_hates ∈ lw_g := lw_gm (List.mem_append_right _ (lw_t5 (i := 236) rfl)) rfl
theorem qC_X9_hates : Cond.code yX9_hates cX9_hates 6 (some .int) ∈ lw_g := lw_gm (List.mem_append_right _ (lw_t5 (i := 237) rfl)) rfl
theorem qM_X9_208 : Cond.methodLink RX9 208 yX9_keepsBack ∈ lw_g := lw_gm (List.mem_append_right _ (lw_t5 (i := 238) rfl)) rfl
theorem qI_X9_keepsBack : Cond.instanceMethod yX9_keepsBack ∈ lw_g := lw_gm (List.mem_append_right _ (lw_t6 (i := 0) rfl)) rfl
theorem qC_X9_keepsBack : Cond.code yX9_keepsBack cX9_keepsBack 2 none ∈ lw_g := lw_gm (List.mem_append_right _ (lw_t6 (i := 1) rfl)) rfl
theorem qM_L_52 : Cond.methodLink RL 52 yX9_goes ∈ lw_g := lw_gm (List.mem_append_right _ (lw_t6 (i := 2) rfl)) rfl
theorem qI_X9_goes : Cond.instanceMethod yX9_goes ∈ lw_g := lw_gm (List.mem_append_right _ (lw_t6 (i := 3) rfl)) rfl
theorem qS_X9_goes : Cond.selects RX9 yX9_goes yX9_goes ∈ lw_g := lw_gm (List.mem_append_right _ (lw_t6 (i := 4) rfl)) rfl
theorem qC_X9_goes : Cond.code yX9_goes cX9_goes 4 (some .int) ∈ lw_g := lw_gm (List.mem_append_right _ (lw_t6 (i := 5) rfl)) rfl
theorem qM_L_56 : Cond.methodLink RL 56 yX9_seals ∈ lw_g := lw_gm (List.mem_append_right _ (lw_t6 (i := 6) rfl)) rfl
theorem qI_X9_seals : Cond.instanceMethod yX9_seals ∈ lw_g := lw_gm (List.mem_append_right _ (lw_t6 (i := 7) rfl)) rfl
theorem qS_X9_seals : Cond.selects RX9 yX9_seals yX9_seals ∈ lw_g := lw_gm (List.mem_append_right _ (lw_t6 (i := 8) rfl)) rfl
theorem qC_X9_seals : Cond.code yX9_seals cX9_seals 2 (some .int) ∈ lw_g := lw_gm (List.mem_append_right _ (lw_t6 (i := 9) rfl)) rfl
theorem qM_L_60 : Cond.methodLink RL 60 yX9_weeks ∈ lw_g := lw_gm (List.mem_append_right _ (lw_t6 (i := 10) rfl)) rfl
theorem qI_X9_weeks : Cond.instanceMethod yX9_weeks ∈ lw_g := lw_gm (List.mem_append_right _ (lw_t6 (i := 11) rfl)) rfl
theorem qS_X9_weeks : Cond.selects RX9 yX9_weeks yX9_weeks ∈ lw_g := lw_gm (List.mem_append_right _ (lw_t6 (i := 12) rfl)) rfl
theorem qC_X9_weeks : Cond.code yX9_weeks cX9_weeks 3 (some .int) ∈ lw_g := lw_gm (List.mem_append_right _ (lw_t6 (i := 13) rfl)) rfl
theorem qM_X9_211 : Cond.methodLink RX9 211 yX9_openOnes ∈ lw_g := lw_gm (List.mem_append_right _ (lw_t6 (i := 14) rfl)) rfl
theorem qI_X9_openOnes : Cond.instanceMethod yX9_openOnes ∈ lw_g := lw_gm (List.mem_append_right _ (lw_t6 (i := 16) rfl)) rfl
theorem qC_X9_openOnes : Cond.code yX9_openOnes cX9_openOnes 3 (some .int) ∈ lw_g := lw_gm (List.mem_append_right _ (lw_t6 (i := 17) rfl)) rfl
theorem qM_X9_214 : Cond.methodLink RX9 214 yX9_bits ∈ lw_g := lw_gm (List.mem_append_right _ (lw_t6 (i := 18) rfl)) rfl
theorem qT_X9_bits : Cond.static yX9_bits ∈ lw_g := lw_gm (List.mem_append_right _ (lw_t6 (i := 19) rfl)) rfl
theorem qC_X9_bits : Cond.code yX9_bits cX9_bits 3 (some .int) ∈ lw_g := lw_gm (List.mem_append_right _ (lw_t6 (i := 20) rfl)) rfl
theorem qM_L_68 : Cond.methodLink RL 68 yX9_behind ∈ lw_g := lw_gm (List.mem_append_right _ (lw_t6 (i := 21) rfl)) rfl
theorem qI_X9_behind : Cond.instanceMethod yX9_behind ∈ lw_g := lw_gm (List.mem_append_right _ (lw_t6 (i := 22) rfl)) rfl
theorem qS_X9_behind : Cond.selects RX9 yX9_behind yX9_behind ∈ lw_g := lw_gm (List.mem_append_right _ (lw_t6 (i := 23) rfl)) rfl
theorem qC_X9_behind : Cond.code yX9_behind cX9_behind 5 (some .int) ∈ lw_g := lw_gm (List.mem_append_right _ (lw_t6 (i := 24) rfl)) rfl
theorem qM_X9_223 : Cond.methodLink RX9 223 yX9_notWeeks ∈ lw_g := lw_gm (List.mem_append_right _ (lw_t6 (i := 25) rfl)) rfl
theorem qT_X9_notWeeks : Cond.static yX9_notWeeks ∈ lw_g := lw_gm (List.mem_append_right _ (lw_t6 (i := 26) rfl)) rfl
theorem qC_X9_notWeeks : Cond.code yX9_notWeeks cX9_notWeeks 1 (some .int) ∈ lw_g := lw_gm (List.mem_append_right _ (lw_t6 (i := 27) rfl)) rfl
theorem qM_X9_226 : Cond.methodLink RX9 226 yX9_hateIn ∈ lw_g := lw_gm (List.mem_append_right _ (lw_t6 (i := 28) rfl)) rfl
theorem qI_X9_hateIn : Cond.instanceMethod yX9_hateIn ∈ lw_g := lw_gm (List.mem_append_right _ (lw_t6 (i := 30) rfl)) rfl
theorem qC_X9_hateIn : Cond.code yX9_hateIn cX9_hateIn 5 (some .int) ∈ lw_g := lw_gm (List.mem_append_right _ (lw_t6 (i := 31) rfl)) rfl
theorem qM_X9_217 : Cond.methodLink RX9 217 yX9_thinks ∈ lw_g := lw_gm (List.mem_append_right _ (lw_t6 (i := 32) rfl)) rfl
theorem qI_X9_thinks : Cond.instanceMethod yX9_thinks ∈ lw_g := lw_gm (List.mem_append_right _ (lw_t6 (i := 34) rfl)) rfl
theorem qC_X9_thinks : Cond.code yX9_thinks cX9_thinks 1 none ∈ lw_g := lw_gm (List.mem_append_right _ (lw_t6 (i := 35) rfl)) rfl
theorem qM_X9_220 : Cond.methodLink RX9 220 yX9_forgets ∈ lw_g := lw_gm (List.mem_append_right _ (lw_t6 (i := 36) rfl)) rfl
theorem qI_X9_forgets : Cond.instanceMethod yX9_forgets ∈ lw_g := lw_gm (List.mem_append_right _ (lw_t6 (i := 38) rfl)) rfl
theorem qC_X9_forgets : Cond.code yX9_forgets cX9_forgets 1 none ∈ lw_g := lw_gm (List.mem_append_right _ (lw_t6 (i := 39) rfl)) rfl
theorem qM_L_72 : Cond.methodLink RL 72 yX9_then ∈ lw_g := lw_gm (List.mem_append_right _ (lw_t6 (i := 40) rfl)) rfl
theorem qI_X9_then : Cond.instanceMethod yX9_then ∈ lw_g := lw_gm (List.mem_append_right _ (lw_t6 (i := 41) rfl)) rfl
theorem qS_X9_then : Cond.selects RX9 yX9_then yX9_then ∈ lw_g := lw_gm (List.mem_append_right _ (lw_t6 (i := 42) rfl)) rfl
theorem qC_X9_then : Cond.code yX9_then cX9_then 5 (some .int) ∈ lw_g := lw_gm (List.mem_append_right _ (lw_t6 (i := 43) rfl)) rfl
theorem qM_X9_229 : Cond.methodLink RX9 229 yX9_openIn ∈ lw_g := lw_gm (List.mem_append_right _ (lw_t6 (i := 44) rfl)) rfl
theorem qI_X9_openIn : Cond.instanceMethod yX9_openIn ∈ lw_g := lw_gm (List.mem_append_right _ (lw_t6 (i := 46) rfl)) rfl
theorem qC_X9_openIn : Cond.code yX9_openIn cX9_openIn 3 (some .int) ∈ lw_g := lw_gm (List.mem_append_right _ (lw_t6 (i := 47) rfl)) rfl
theorem qM_X9_232 : Cond.methodLink RX9 232 yX9_allHate ∈ lw_g := lw_gm (List.mem_append_right _ (lw_t6 (i := 48) rfl)) rfl
theorem qI_X9_allHate : Cond.instanceMethod yX9_allHate ∈ lw_g := lw_gm (List.mem_append_right _ (lw_t6 (i := 50) rfl)) rfl
theorem qC_X9_allHate : Cond.code yX9_allHate cX9_allHate 4 (some .int) ∈ lw_g := lw_gm (List.mem_append_right _ (lw_t6 (i := 51) rfl)) rfl
theorem qM_L_76 : Cond.methodLink RL 76 yX9_when ∈ lw_g := lw_gm (List.mem_append_right _ (lw_t6 (i := 52) rfl)) rfl
theorem qI_X9_when : Cond.instanceMethod yX9_when ∈ lw_g := lw_gm (List.mem_append_right _ (lw_t6 (i := 53) rfl)) rfl
theorem qS_X9_when : Cond.selects RX9 yX9_when yX9_when ∈ lw_g := lw_gm (List.mem_append_right _ (lw_t6 (i := 54) rfl)) rfl
theorem qC_X9_when : Cond.code yX9_when cX9_when 5 (some .int) ∈ lw_g := lw_gm (List.mem_append_right _ (lw_t6 (i := 55) rfl)) rfl
theorem qM_X9_238 : Cond.methodLink RX9 238 yX9_whenOf ∈ lw_g := lw_gm (List.mem_append_right _ (lw_t6 (i := 56) rfl)) rfl
theorem qI_X9_whenOf : Cond.instanceMethod yX9_whenOf ∈ lw_g := lw_gm (List.mem_append_right _ (lw_t6 (i := 58) rfl)) rfl
theorem qC_X9_whenOf : Cond.code yX9_whenOf cX9_whenOf 4 (some .int) ∈ lw_g := lw_gm (List.mem_append_right _ (lw_t6 (i := 59) rfl)) rfl
theorem qM_L_80 : Cond.methodLink RL 80 yX9_lasts ∈ lw_g := lw_gm (List.mem_append_right _ (lw_t6 (i := 60) rfl)) rfl
theorem qI_X9_lasts : Cond.instanceMethod yX9_lasts ∈ lw_g := lw_gm (List.mem_append_right _ (lw_t6 (i := 61) rfl)) rfl
theorem qS_X9_lasts : Cond.selects RX9 yX9_lasts yX9_lasts ∈ lw_g := lw_gm (List.mem_append_right _ (lw_t6 (i := 62) rfl)) rfl
theorem qC_X9_lasts : Cond.code yX9_lasts cX9_lasts 7 (some .int) ∈ lw_g := lw_gm (List.mem_append_right _ (lw_t6 (i := 63) rfl)) rfl
theorem qM_L_84 : Cond.methodLink RL 84 yX9_never ∈ lw_g := lw_gm (List.mem_append_right _ (lw_t6 (i := 64) rfl)) rfl
theorem qI_X9_never : Cond.instanceMethod yX9_never ∈ lw_g := lw_gm (List.mem_append_right _ (lw_t6 (i := 65) rfl)) rfl
theorem qS_X9_never : Cond.selects RX9 yX9_never yX9_never ∈ lw_g := lw_gm (List.mem_append_right _ (lw_t6 (i := 66) rfl)) rfl
theorem qC_X9_never : Cond.code yX9_never cX9_never 2 (some .int) ∈ lw_g := lw_gm (List.mem_append_right _ (lw_t6 (i := 67) rfl)) rfl
theorem qM_X9_241 : Cond.methodLink RX9 241 yX9_firstOne ∈ lw_g := lw_gm (List.mem_append_right _ (lw_t6 (i := 68) rfl)) rfl
theorem qI_X9_firstOne : Cond.instanceMethod yX9_firstOne ∈ lw_g := lw_gm (List.mem_append_right _ (lw_t6 (i := 70) rfl)) rfl
theorem qC_X9_firstOne : Cond.code yX9_firstOne cX9_firstOne 5 (some .int) ∈ lw_g := lw_gm (List.mem_append_right _ (lw_t6 (i := 71) rfl)) rfl
theorem qM_L_88 : Cond.methodLink RL 88 yX9_insult ∈ lw_g := lw_gm (List.mem_append_right _ (lw_t6 (i := 72) rfl)) rfl
theorem qI_X9_insult : Cond.instanceMethod yX9_insult ∈ lw_g := lw_gm (List.mem_append_right _ (lw_t6 (i := 73) rfl)) rfl
theorem qS_X9_insult : Cond.selects RX9 yX9_insult yX9_insult ∈ lw_g := lw_gm (List.mem_append_right _ (lw_t6 (i := 74) rfl)) rfl
theorem qC_X9_insult : Cond.code yX9_insult cX9_insult 8 (some .int) ∈ lw_g := lw_gm (List.mem_append_right _ (lw_t6 (i := 75) rfl)) rfl
theorem qM_X9_244 : Cond.methodLink RX9 244 yX9_isOpenedBy ∈ lw_g := lw_gm (List.mem_append_right _ (lw_t6 (i := 76) rfl)) rfl
theorem qI_X9_isOpenedBy : Cond.instanceMethod yX9_isOpenedBy ∈ lw_g := lw_gm (List.mem_append_right _ (lw_t6 (i := 78) rfl)) rfl
theorem qC_X9_isOpenedBy : Cond.code yX9_isOpenedBy cX9_isOpenedBy 5 (some .boolean) ∈ lw_g := lw_gm (List.mem_append_right _ (lw_t6 (i := 79) rfl)) rfl
theorem qM_L_92 : Cond.methodLink RL 92 yX9_send ∈ lw_g := lw_gm (List.mem_append_right _ (lw_t6 (i := 80) rfl)) rfl
theorem qI_X9_send : Cond.instanceMethod yX9_send ∈ lw_g := lw_gm (List.mem_append_right _ (lw_t6 (i := 81) rfl)) rfl
theorem qS_X9_send : Cond.selects RX9 yX9_send yX9_send ∈ lw_g := lw_gm (List.mem_append_right _ (lw_t6 (i := 82) rfl)) rfl
theorem qC_X9_send : Cond.code yX9_send cX9_send 8 (some .int) ∈ lw_g := lw_gm (List.mem_append_right _ (lw_t6 (i := 83) rfl)) rfl
theorem qM_X9_247 : Cond.methodLink RX9 247 yX9_manyAt ∈ lw_g := lw_gm (List.mem_append_right _ (lw_t6 (i := 84) rfl)) rfl
theorem qI_X9_manyAt : Cond.instanceMethod yX9_manyAt ∈ lw_g := lw_gm (List.mem_append_right _ (lw_t6 (i := 86) rfl)) rfl
theorem qC_X9_manyAt : Cond.code yX9_manyAt cX9_manyAt 6 (some .int) ∈ lw_g := lw_gm (List.mem_append_right _ (lw_t6 (i := 87) rfl)) rfl
theorem qM_L_97 : Cond.methodLink RL 97 yX9_places ∈ lw_g := lw_gm (List.mem_append_right _ (lw_t6 (i := 88) rfl)) rfl
theorem qI_X9_places : Cond.instanceMethod yX9_places ∈ lw_g := lw_gm (List.mem_append_right _ (lw_t6 (i := 89) rfl)) rfl
theorem qS_X9_places : Cond.selects RX9 yX9_places yX9_places ∈ lw_g := lw_gm (List.mem_append_right _ (lw_t6 (i := 90) rfl)) rfl
theorem qC_X9_places : Cond.code yX9_places cX9_places 11 (some .int) ∈ lw_g := lw_gm (List.mem_append_right _ (lw_t6 (i := 91) rfl)) rfl
theorem qM_X9_250 : Cond.methodLink RX9 250 yX9_changes ∈ lw_g := lw_gm (List.mem_append_right _ (lw_t6 (i := 92) rfl)) rfl
theorem qI_X9_changes : Cond.instanceMethod yX9_changes ∈ lw_g := lw_gm (List.mem_append_right _ (lw_t6 (i := 94) rfl)) rfl
theorem qC_X9_changes : Cond.code yX9_changes cX9_changes 1 none ∈ lw_g := lw_gm (List.mem_append_right _ (lw_t6 (i := 95) rfl)) rfl
theorem qM_X9_253 : Cond.methodLink RX9 253 yX9_changesBack ∈ lw_g := lw_gm (List.mem_append_right _ (lw_t6 (i := 96) rfl)) rfl
theorem qI_X9_changesBack : Cond.instanceMethod yX9_changesBack ∈ lw_g := lw_gm (List.mem_append_right _ (lw_t6 (i := 98) rfl)) rfl
theorem qC_X9_changesBack : Cond.code yX9_changesBack cX9_changesBack 1 none ∈ lw_g := lw_gm (List.mem_append_right _ (lw_t6 (i := 99) rfl)) rfl
theorem qM_L_101 : Cond.methodLink RL 101 yX9_fewest ∈ lw_g := lw_gm (List.mem_append_right _ (lw_t6 (i := 100) rfl)) rfl
theorem qI_X9_fewest : Cond.instanceMethod yX9_fewest ∈ lw_g := lw_gm (List.mem_append_right _ (lw_t6 (i := 101) rfl)) rfl
theorem qS_X9_fewest : Cond.selects RX9 yX9_fewest yX9_fewest ∈ lw_g := lw_gm (List.mem_append_right _ (lw_t6 (i := 102) rfl)) rfl
theorem qC_X9_fewest : Cond.code yX9_fewest cX9_fewest 7 (some .int) ∈ lw_g := lw_gm (List.mem_append_right _ (lw_t6 (i := 103) rfl)) rfl
theorem qM_X9_256 : Cond.methodLink RX9 256 yX9_manyBy ∈ lw_g := lw_gm (List.mem_append_right _ (lw_t6 (i := 104) rfl)) rfl
theorem qI_X9_manyBy : Cond.instanceMethod yX9_manyBy ∈ lw_g := lw_gm (List.mem_append_right _ (lw_t6 (i := 106) rfl)) rfl
theorem qC_X9_manyBy : Cond.code yX9_manyBy cX9_manyBy 4 (some .int) ∈ lw_g := lw_gm (List.mem_append_right _ (lw_t6 (i := 107) rfl)) rfl
theorem qM_X9_259 : Cond.methodLink RX9 259 yX9_payOfAll ∈ lw_g := lw_gm (List.mem_append_right _ (lw_t6 (i := 108) rfl)) rfl
theorem qI_X9_payOfAll : Cond.instanceMethod yX9_payOfAll ∈ lw_g := lw_gm (List.mem_append_right _ (lw_t6 (i := 110) rfl)) rfl
theorem qC_X9_payOfAll : Cond.code yX9_payOfAll cX9_payOfAll 4 (some .int) ∈ lw_g := lw_gm (List.mem_append_right _ (lw_t6 (i := 111) rfl)) rfl
theorem qM_L_105 : Cond.methodLink RL 105 yX9_pay ∈ lw_g := lw_gm (List.mem_append_right _ (lw_t6 (i := 112) rfl)) rfl
theorem qI_X9_pay : Cond.instanceMethod yX9_pay ∈ lw_g := lw_gm (List.mem_append_right _ (lw_t6 (i := 113) rfl)) rfl
theorem qS_X9_pay : Cond.selects RX9 yX9_pay yX9_pay ∈ lw_g := lw_gm (List.mem_append_right _ (lw_t6 (i := 114) rfl)) rfl
theorem qC_X9_pay : Cond.code yX9_pay cX9_pay 4 (some .int) ∈ lw_g := lw_gm (List.mem_append_right _ (lw_t6 (i := 115) rfl)) rfl
theorem qM_X9_262 : Cond.methodLink RX9 262 yX9_keepersIn ∈ lw_g := lw_gm (List.mem_append_right _ (lw_t6 (i := 116) rfl)) rfl
theorem qI_X9_keepersIn : Cond.instanceMethod yX9_keepersIn ∈ lw_g := lw_gm (List.mem_append_right _ (lw_t6 (i := 118) rfl)) rfl
theorem qC_X9_keepersIn : Cond.code yX9_keepersIn cX9_keepersIn 4 (some .int) ∈ lw_g := lw_gm (List.mem_append_right _ (lw_t6 (i := 119) rfl)) rfl
theorem qM_L_109 : Cond.methodLink RL 109 yX9_deepest ∈ lw_g := lw_gm (List.mem_append_right _ (lw_t6 (i := 120) rfl)) rfl
theorem qI_X9_deepest : Cond.instanceMethod yX9_deepest ∈ lw_g := lw_gm (List.mem_append_right _ (lw_t6 (i := 121) rfl)) rfl
theorem qS_X9_deepest : Cond.selects RX9 yX9_deepest yX9_deepest ∈ lw_g := lw_gm (List.mem_append_right _ (lw_t6 (i := 122) rfl)) rfl
theorem qC_X9_deepest : Cond.code yX9_deepest cX9_deepest 5 (some .int) ∈ lw_g := lw_gm (List.mem_append_right _ (lw_t6 (i := 123) rfl)) rfl
theorem qM_L_113 : Cond.methodLink RL 113 yX9_pairs ∈ lw_g := lw_gm (List.mem_append_right _ (lw_t6 (i := 124) rfl)) rfl
theorem qI_X9_pairs : Cond.instanceMethod yX9_pairs ∈ lw_g := lw_gm (List.mem_append_right _ (lw_t6 (i := 125) rfl)) rfl
theorem qS_X9_pairs : Cond.selects RX9 yX9_pairs yX9_pairs ∈ lw_g := lw_gm (List.mem_append_right _ (lw_t6 (i := 126) rfl)) rfl
theorem qC_X9_pairs : Cond.code yX9_pairs cX9_pairs 4 (some .int) ∈ lw_g := lw_gm (List.mem_append_right _ (lw_t6 (i := 127) rfl)) rfl
theorem qM_X9_265 : Cond.methodLink RX9 265 yX9_findTwos ∈ lw_g := lw_gm (List.mem_append_right _ (lw_t6 (i := 128) rfl)) rfl
theorem qI_X9_findTwos : Cond.instanceMethod yX9_findTwos ∈ lw_g := lw_gm (List.mem_append_right _ (lw_t6 (i := 130) rfl)) rfl
theorem qC_X9_findTwos : Cond.code yX9_findTwos cX9_findTwos 8 none ∈ lw_g := lw_gm (List.mem_append_right _ (lw_t6 (i := 131) rfl)) rfl
theorem qM_L_117 : Cond.methodLink RL 117 yX9_worst ∈ lw_g := lw_gm (List.mem_append_right _ (lw_t6 (i := 132) rfl)) rfl
theorem qI_X9_worst : Cond.instanceMethod yX9_worst ∈ lw_g := lw_gm (List.mem_append_right _ (lw_t6 (i := 133) rfl)) rfl
theorem qS_X9_worst : Cond.selects RX9 yX9_worst yX9_worst ∈ lw_g := lw_gm (List.mem_append_right _ (lw_t6 (i := 134) rfl)) rfl
theorem qC_X9_worst : Cond.code yX9_worst cX9_worst 8 (some .int) ∈ lw_g := lw_gm (List.mem_append_right _ (lw_t6 (i := 135) rfl)) rfl
theorem qM_L_121 : Cond.methodLink RL 121 yX9_whoHates ∈ lw_g := lw_gm (List.mem_append_right _ (lw_t6 (i := 136) rfl)) rfl
theorem qI_X9_whoHates : Cond.instanceMethod yX9_whoHates ∈ lw_g := lw_gm (List.mem_append_right _ (lw_t6 (i := 137) rfl)) rfl
theorem qS_X9_whoHates : Cond.selects RX9 yX9_whoHates yX9_whoHates ∈ lw_g := lw_gm (List.mem_append_right _ (lw_t6 (i := 138) rfl)) rfl
theorem qC_X9_whoHates : Cond.code yX9_whoHates cX9_whoHates 10 (some .int) ∈ lw_g := lw_gm (List.mem_append_right _ (lw_t6 (i := 139) rfl)) rfl
theorem qM_X9_271 : Cond.methodLink RX9 271 yX9_opensSo ∈ lw_g := lw_gm (List.mem_append_right _ (lw_t6 (i := 140) rfl)) rfl
theorem qI_X9_opensSo : Cond.instanceMethod yX9_opensSo ∈ lw_g := lw_gm (List.mem_append_right _ (lw_t6 (i := 142) rfl)) rfl
theorem qC_X9_opensSo : Cond.code yX9_opensSo cX9_opensSo 3 (some .boolean) ∈ lw_g := lw_gm (List.mem_append_right _ (lw_t6 (i := 143) rfl)) rfl
theorem qM_L_125 : Cond.methodLink RL 125 yX9_whatKind ∈ lw_g := lw_gm (List.mem_append_right _ (lw_t6 (i := 144) rfl)) rfl
theorem qI_X9_whatKind : Cond.instanceMethod yX9_whatKind ∈ lw_g := lw_gm (List.mem_append_right _ (lw_t6 (i := 145) rfl)) rfl
theorem qS_X9_whatKind : Cond.selects RX9 yX9_whatKind yX9_whatKind ∈ lw_g := lw_gm (List.mem_append_right _ (lw_t6 (i := 146) rfl)) rfl
theorem qC_X9_whatKind : Cond.code yX9_whatKind cX9_whatKind 5 (some .int) ∈ lw_g := lw_gm (List.mem_append_right _ (lw_t6 (i := 147) rfl)) rfl
theorem qM_X9_277 : Cond.methodLink RX9 277 yX9_bitsFor ∈ lw_g := lw_gm (List.mem_append_right _ (lw_t6 (i := 148) rfl)) rfl
theorem qI_X9_bitsFor : Cond.instanceMethod yX9_bitsFor ∈ lw_g := lw_gm (List.mem_append_right _ (lw_t6 (i := 150) rfl)) rfl
theorem qC_X9_bitsFor : Cond.code yX9_bitsFor cX9_bitsFor 8 (some .int) ∈ lw_g := lw_gm (List.mem_append_right _ (lw_t6 (i := 151) rfl)) rfl
theorem qM_X9_274 : Cond.methodLink RX9 274 yX9_hatesSo ∈ lw_g := lw_gm (List.mem_append_right _ (lw_t6 (i := 152) rfl)) rfl
theorem qI_X9_hatesSo : Cond.instanceMethod yX9_hatesSo ∈ lw_g := lw_gm (List.mem_append_right _ (lw_t6 (i := 154) rfl)) rfl
theorem qC_X9_hatesSo : Cond.code yX9_hatesSo cX9_hatesSo 5 (some .boolean) ∈ lw_g := lw_gm (List.mem_append_right _ (lw_t6 (i := 155) rfl)) rfl
theorem qM_L_130 : Cond.methodLink RL 130 yX9_jug ∈ lw_g := lw_gm (List.mem_append_right _ (lw_t6 (i := 156) rfl)) rfl
theorem qI_X9_jug : Cond.instanceMethod yX9_jug ∈ lw_g := lw_gm (List.mem_append_right _ (lw_t6 (i := 157) rfl)) rfl
theorem qS_X9_jug : Cond.selects RX9 yX9_jug yX9_jug ∈ lw_g := lw_gm (List.mem_append_right _ (lw_t6 (i := 158) rfl)) rfl
theorem qC_X9_jug : Cond.code yX9_jug cX9_jug 9 (some .long) ∈ lw_g := lw_gm (List.mem_append_right _ (lw_t6 (i := 159) rfl)) rfl
theorem qM_X9_285 : Cond.methodLink RX9 285 yX9_lowestOf ∈ lw_g := lw_gm (List.mem_append_right _ (lw_t6 (i := 160) rfl)) rfl
theorem qI_X9_lowestOf : Cond.instanceMethod yX9_lowestOf ∈ lw_g := lw_gm (List.mem_append_right _ (lw_t6 (i := 162) rfl)) rfl
theorem qC_X9_lowestOf : Cond.code yX9_lowestOf cX9_lowestOf 2 (some .long) ∈ lw_g := lw_gm (List.mem_append_right _ (lw_t6 (i := 163) rfl)) rfl
theorem qK_X9_63 : Cond.constantLong RX9 63 (4000000000000000000) ∈ lw_g := lw_gm (List.mem_append_right _ (lw_t6 (i := 164) rfl)) rfl
theorem qM_X9_289 : Cond.methodLink RX9 289 yX9_partsOf ∈ lw_g := lw_gm (List.mem_append_right _ (lw_t6 (i := 165) rfl)) rfl
theorem qT_X9_partsOf : Cond.static yX9_partsOf ∈ lw_g := lw_gm (List.mem_append_right _ (lw_t6 (i := 166) rfl)) rfl
theorem qC_X9_partsOf : Cond.code yX9_partsOf cX9_partsOf 6 (some .long) ∈ lw_g := lw_gm (List.mem_append_right _ (lw_t6 (i := 167) rfl)) rfl
theorem qM_X9_293 : Cond.methodLink RX9 293 yX9_power ∈ lw_g := lw_gm (List.mem_append_right _ (lw_t6 (i := 168) rfl)) rfl
theorem qT_X9_power : Cond.static yX9_power ∈ lw_g := lw_gm (List.mem_append_right _ (lw_t6 (i := 169) rfl)) rfl
theorem qC_X9_power : Cond.code yX9_power cX9_power 5 (some .long) ∈ lw_g := lw_gm (List.mem_append_right _ (lw_t6 (i := 170) rfl)) rfl
theorem qM_X9_297 : Cond.methodLink RX9 297 yX9_partOf ∈ lw_g := lw_gm (List.mem_append_right _ (lw_t6 (i := 171) rfl)) rfl
theorem qT_X9_partOf : Cond.static yX9_partOf ∈ lw_g := lw_gm (List.mem_append_right _ (lw_t6 (i := 172) rfl)) rfl
theorem qC_X9_partOf : Cond.code yX9_partOf cX9_partOf 5 (some .long) ∈ lw_g := lw_gm (List.mem_append_right _ (lw_t6 (i := 173) rfl)) rfl
theorem qM_X9_281 : Cond.methodLink RX9 281 yX9_divisor ∈ lw_g := lw_gm (List.mem_append_right _ (lw_t6 (i := 174) rfl)) rfl
theorem qT_X9_divisor : Cond.static yX9_divisor ∈ lw_g := lw_gm (List.mem_append_right _ (lw_t6 (i := 175) rfl)) rfl
theorem qC_X9_divisor : Cond.code yX9_divisor cX9_divisor 10 (some .long) ∈ lw_g := lw_gm (List.mem_append_right _ (lw_t6 (i := 176) rfl)) rfl
theorem qM_L_134 : Cond.methodLink RL 134 yX9_two ∈ lw_g := lw_gm (List.mem_append_right _ (lw_t6 (i := 177) rfl)) rfl
theorem qI_X9_two : Cond.instanceMethod yX9_two ∈ lw_g := lw_gm (List.mem_append_right _ (lw_t6 (i := 178) rfl)) rfl
theorem qS_X9_two : Cond.selects RX9 yX9_two yX9_two ∈ lw_g := lw_gm (List.mem_append_right _ (lw_t6 (i := 179) rfl)) rfl
theorem qC_X9_two : Cond.code yX9_two cX9_two 6 (some .int) ∈ lw_g := lw_gm (List.mem_append_right _ (lw_t6 (i := 180) rfl)) rfl
theorem qM_X9_301 : Cond.methodLink RX9 301 yX9_getsOf ∈ lw_g := lw_gm (List.mem_append_right _ (lw_t6 (i := 181) rfl)) rfl
theorem qI_X9_getsOf : Cond.instanceMethod yX9_getsOf ∈ lw_g := lw_gm (List.mem_append_right _ (lw_t6 (i := 183) rfl)) rfl
theorem qC_X9_getsOf : Cond.code yX9_getsOf cX9_getsOf 7 (some .int) ∈ lw_g := lw_gm (List.mem_append_right _ (lw_t6 (i := 184) rfl)) rfl
theorem qM_L_139 : Cond.methodLink RL 139 yX9_meetings ∈ lw_g := lw_gm (List.mem_append_right _ (lw_t6 (i := 185) rfl)) rfl
theorem qI_X9_meetings : Cond.instanceMethod yX9_meetings ∈ lw_g := lw_gm (List.mem_append_right _ (lw_t6 (i := 186) rfl)) rfl
theorem qS_X9_meetings : Cond.selects RX9 yX9_meetings yX9_meetings ∈ lw_g := lw_gm (List.mem_append_right _ (lw_t6 (i := 187) rfl)) rfl
theorem qC_X9_meetings : Cond.code yX9_meetings cX9_meetings 11 (some .long) ∈ lw_g := lw_gm (List.mem_append_right _ (lw_t6 (i := 188) rfl)) rfl
theorem qM_X9_305 : Cond.methodLink RX9 305 yX9_isOpenMeeting ∈ lw_g := lw_gm (List.mem_append_right _ (lw_t6 (i := 189) rfl)) rfl
theorem qI_X9_isOpenMeeting : Cond.instanceMethod yX9_isOpenMeeting ∈ lw_g := lw_gm (List.mem_append_right _ (lw_t6 (i := 191) rfl)) rfl
theorem qC_X9_isOpenMeeting : Cond.code yX9_isOpenMeeting cX9_isOpenMeeting 7 (some .boolean) ∈ lw_g := lw_gm (List.mem_append_right _ (lw_t6 (i := 192) rfl)) rfl
theorem qM_L_143 : Cond.methodLink RL 143 yX9_fullest ∈ lw_g := lw_gm (List.mem_append_right _ (lw_t6 (i := 193) rfl)) rfl
theorem qI_X9_fullest : Cond.instanceMethod yX9_fullest ∈ lw_g := lw_gm (List.mem_append_right _ (lw_t6 (i := 194) rfl)) rfl
theorem qS_X9_fullest : Cond.selects RX9 yX9_fullest yX9_fullest ∈ lw_g := lw_gm (List.mem_append_right _ (lw_t6 (i := 195) rfl)) rfl
theorem qC_X9_fullest : Cond.code yX9_fullest cX9_fullest 4 (some .int) ∈ lw_g := lw_gm (List.mem_append_right _ (lw_t6 (i := 196) rfl)) rfl
theorem qM_L_147 : Cond.methodLink RL 147 yX9_thickest ∈ lw_g := lw_gm (List.mem_append_right _ (lw_t6 (i := 197) rfl)) rfl
theorem qI_X9_thickest : Cond.instanceMethod yX9_thickest ∈ lw_g := lw_gm (List.mem_append_right _ (lw_t6 (i := 198) rfl)) rfl
theorem qS_X9_thickest : Cond.selects RX9 yX9_thickest yX9_thickest ∈ lw_g := lw_gm (List.mem_append_right _ (lw_t6 (i := 199) rfl)) rfl
theorem qC_X9_thickest : Cond.code yX9_thickest cX9_thickest 3 (some .int) ∈ lw_g := lw_gm (List.mem_append_right _ (lw_t6 (i := 200) rfl)) rfl
theorem qM_L_151 : Cond.methodLink RL 151 yX9_mildest ∈ lw_g := lw_gm (List.mem_append_right _ (lw_t6 (i := 201) rfl)) rfl
theorem qI_X9_mildest : Cond.instanceMethod yX9_mildest ∈ lw_g := lw_gm (List.mem_append_right _ (lw_t6 (i := 202) rfl)) rfl
theorem qS_X9_mildest : Cond.selects RX9 yX9_mildest yX9_mildest ∈ lw_g := lw_gm (List.mem_append_right _ (lw_t6 (i := 203) rfl)) rfl
theorem qC_X9_mildest : Cond.code yX9_mildest cX9_mildest 3 (some .int) ∈ lw_g := lw_gm (List.mem_append_right _ (lw_t6 (i := 204) rfl)) rfl
theorem qM_X9_309 : Cond.methodLink RX9 309 yX9_hatesOf ∈ lw_g := lw_gm (List.mem_append_right _ (lw_t6 (i := 205) rfl)) rfl
theorem qI_X9_hatesOf : Cond.instanceMethod yX9_hatesOf ∈ lw_g := lw_gm (List.mem_append_right _ (lw_t6 (i := 207) rfl)) rfl
theorem qC_X9_hatesOf : Cond.code yX9_hatesOf cX9_hatesOf 4 (some .int) ∈ lw_g := lw_gm (List.mem_append_right _ (lw_t6 (i := 208) rfl)) rfl
theorem qM_L_155 : Cond.methodLink RL 155 yX9_bare ∈ lw_g := lw_gm (List.mem_append_right _ (lw_t6 (i := 209) rfl)) rfl
theorem qI_X9_bare : Cond.instanceMethod yX9_bare ∈ lw_g := lw_gm (List.mem_append_right _ (lw_t6 (i := 210) rfl)) rfl
theorem qS_X9_bare : Cond.selects RX9 yX9_bare yX9_bare ∈ lw_g := lw_gm (List.mem_append_right _ (lw_t6 (i := 211) rfl)) rfl
theorem qC_X9_bare : Cond.code yX9_bare cX9_bare 3 (some .int) ∈ lw_g := lw_gm (List.mem_append_right _ (lw_t6 (i := 212) rfl)) rfl
theorem qM_L_160 : Cond.methodLink RL 160 yX9_mean ∈ lw_g := lw_gm (List.mem_append_right _ (lw_t6 (i := 213) rfl)) rfl
theorem qI_X9_mean : Cond.instanceMethod yX9_mean ∈ lw_g := lw_gm (List.mem_append_right _ (lw_t6 (i := 214) rfl)) rfl
theorem qS_X9_mean : Cond.selects RX9 yX9_mean yX9_mean ∈ lw_g := lw_gm (List.mem_append_right _ (lw_t6 (i := 215) rfl)) rfl
theorem qC_X9_mean : Cond.code yX9_mean cX9_mean 2 (some .long) ∈ lw_g := lw_gm (List.mem_append_right _ (lw_t6 (i := 216) rfl)) rfl
theorem qM_L_164 : Cond.methodLink RL 164 yX9_used ∈ lw_g := lw_gm (List.mem_append_right _ (lw_t6 (i := 217) rfl)) rfl
theorem qI_X9_used : Cond.instanceMethod yX9_used ∈ lw_g := lw_gm (List.mem_append_right _ (lw_t6 (i := 218) rfl)) rfl
theorem qS_X9_used : Cond.selects RX9 yX9_used yX9_used ∈ lw_g := lw_gm (List.mem_append_right _ (lw_t6 (i := 219) rfl)) rfl
theorem qC_X9_used : Cond.code yX9_used cX9_used 5 (some .int) ∈ lw_g := lw_gm (List.mem_append_right _ (lw_t6 (i := 220) rfl)) rfl
theorem qM_X9_312 : Cond.methodLink RX9 312 yX9_lower ∈ lw_g := lw_gm (List.mem_append_right _ (lw_t6 (i := 221) rfl)) rfl
theorem qI_X9_lower : Cond.instanceMethod yX9_lower ∈ lw_g := lw_gm (List.mem_append_right _ (lw_t6 (i := 223) rfl)) rfl
theorem qC_X9_lower : Cond.code yX9_lower cX9_lower 2 (some .int) ∈ lw_g := lw_gm (List.mem_append_right _ (lw_t6 (i := 224) rfl)) rfl
theorem qK_X9_62 : Cond.constant RX9 62 (1000000000) ∈ lw_g := lw_gm (List.mem_append_right _ (lw_t6 (i := 225) rfl)) rfl
theorem qM_L_168 : Cond.methodLink RL 168 yX9_swap ∈ lw_g := lw_gm (List.mem_append_right _ (lw_t6 (i := 226) rfl)) rfl
theorem qI_X9_swap : Cond.instanceMethod yX9_swap ∈ lw_g := lw_gm (List.mem_append_right _ (lw_t6 (i := 227) rfl)) rfl
theorem qS_X9_swap : Cond.selects RX9 yX9_swap yX9_swap ∈ lw_g := lw_gm (List.mem_append_right _ (lw_t6 (i := 228) rfl)) rfl
theorem qC_X9_swap : Cond.code yX9_swap cX9_swap 8 (some .int) ∈ lw_g := lw_gm (List.mem_append_right _ (lw_t6 (i := 229) rfl)) rfl
theorem qM_X9_315 : Cond.methodLink RX9 315 yX9_manySwapped ∈ lw_g := lw_gm (List.mem_append_right _ (lw_t6 (i := 230) rfl)) rfl
theorem qI_X9_manySwapped : Cond.instanceMethod yX9_manySwapped ∈ lw_g := lw_gm (List.mem_append_right _ (lw_t6 (i := 232) rfl)) rfl
theorem qC_X9_manySwapped : Cond.code yX9_manySwapped cX9_manySwapped 6 (some .int) ∈ lw_g := lw_gm (List.mem_append_right _ (lw_t6 (i := 233) rfl)) rfl
theorem qM_L_172 : Cond.methodLink RL 172 yX9_apart ∈ lw_g := lw_gm (List.mem_append_right _ (lw_t6 (i := 234) rfl)) rfl
theorem qI_X9_apart : Cond.instanceMethod yX9_apart ∈ lw_g := lw_gm (List.mem_append_right _ (lw_t6 (i := 235) rfl)) rfl
theorem qS_X9_apart : Cond.selects RX9 yX9_apart yX9_apart ∈ lw_g := lw_gm (List.mem_append_right _ (lw_t6 (i := 236) rfl)) rfl
theorem qC_X9_apart : Cond.code yX9_apart cX9_apart 5 (some .int) ∈ lw_g := lw_gm (List.mem_append_right _ (lw_t6 (i := 237) rfl)) rfl
theorem qM_L_176 : Cond.methodLink RL 176 yX9_enemy ∈ lw_g := lw_gm (List.mem_append_right _ (lw_t6 (i := 238) rfl)) rfl
theorem qI_X9_enemy : Cond.instanceMethod yX9_enemy ∈ lw_g := lw_gm (List.mem_append_right _ (lw_t6 (i := 239) rfl)) rfl
theorem qS_X9_enemy : Cond.selects RX9 yX9_enemy yX9_enemy ∈ lw_g := lw_gm (List.mem_append_right _ (lw_t7 (i := 0) rfl)) rfl
theorem qC_X9_enemy : Cond.code yX9_enemy cX9_enemy 4 (some .int) ∈ lw_g := lw_gm (List.mem_append_right _ (lw_t7 (i := 1) rfl)) rfl
theorem qM_L_180 : Cond.methodLink RL 180 yX9_can ∈ lw_g := lw_gm (List.mem_append_right _ (lw_t7 (i := 2) rfl)) rfl
theorem qI_X9_can : Cond.instanceMethod yX9_can ∈ lw_g := lw_gm (List.mem_append_right _ (lw_t7 (i := 3) rfl)) rfl
theorem qS_X9_can : Cond.selects RX9 yX9_can yX9_can ∈ lw_g := lw_gm (List.mem_append_right _ (lw_t7 (i := 4) rfl)) rfl
theorem qC_X9_can : Cond.code yX9_can cX9_can 5 (some .int) ∈ lw_g := lw_gm (List.mem_append_right _ (lw_t7 (i := 5) rfl)) rfl
theorem qM_L_184 : Cond.methodLink RL 184 yX9_row ∈ lw_g := lw_gm (List.mem_append_right _ (lw_t7 (i := 6) rfl)) rfl
theorem qI_X9_row : Cond.instanceMethod yX9_row ∈ lw_g := lw_gm (List.mem_append_right _ (lw_t7 (i := 7) rfl)) rfl
theorem qS_X9_row : Cond.selects RX9 yX9_row yX9_row ∈ lw_g := lw_gm (List.mem_append_right _ (lw_t7 (i := 8) rfl)) rfl
theorem qC_X9_row : Cond.code yX9_row cX9_row 3 (some .int) ∈ lw_g := lw_gm (List.mem_append_right _ (lw_t7 (i := 9) rfl)) rfl
theorem qM_L_188 : Cond.methodLink RL 188 yX9_judge ∈ lw_g := lw_gm (List.mem_append_right _ (lw_t7 (i := 10) rfl)) rfl
theorem qI_X9_judge : Cond.instanceMethod yX9_judge ∈ lw_g := lw_gm (List.mem_append_right _ (lw_t7 (i := 11) rfl)) rfl
theorem qS_X9_judge : Cond.selects RX9 yX9_judge yX9_judge ∈ lw_g := lw_gm (List.mem_append_right _ (lw_t7 (i := 12) rfl)) rfl
theorem qC_X9_judge : Cond.code yX9_judge cX9_judge 4 (some .int) ∈ lw_g := lw_gm (List.mem_append_right _ (lw_t7 (i := 13) rfl)) rfl
theorem qM_L_192 : Cond.methodLink RL 192 yX9_clear ∈ lw_g := lw_gm (List.mem_append_right _ (lw_t7 (i := 14) rfl)) rfl
theorem qI_X9_clear : Cond.instanceMethod yX9_clear ∈ lw_g := lw_gm (List.mem_append_right _ (lw_t7 (i := 15) rfl)) rfl
theorem qS_X9_clear : Cond.selects RX9 yX9_clear yX9_clear ∈ lw_g := lw_gm (List.mem_append_right _ (lw_t7 (i := 16) rfl)) rfl
theorem qC_X9_clear : Cond.code yX9_clear cX9_clear 2 (some .int) ∈ lw_g := lw_gm (List.mem_append_right _ (lw_t7 (i := 17) rfl)) rfl
theorem qM_L_196 : Cond.methodLink RL 196 yX9_lots ∈ lw_g := lw_gm (List.mem_append_right _ (lw_t7 (i := 18) rfl)) rfl
theorem qI_X9_lots : Cond.instanceMethod yX9_lots ∈ lw_g := lw_gm (List.mem_append_right _ (lw_t7 (i := 19) rfl)) rfl
theorem qS_X9_lots : Cond.selects RX9 yX9_lots yX9_lots ∈ lw_g := lw_gm (List.mem_append_right _ (lw_t7 (i := 20) rfl)) rfl
theorem qC_X9_lots : Cond.code yX9_lots cX9_lots 10 (some .int) ∈ lw_g := lw_gm (List.mem_append_right _ (lw_t7 (i := 21) rfl)) rfl
theorem qM_X9_324 : Cond.methodLink RX9 324 yX9_draw ∈ lw_g := lw_gm (List.mem_append_right _ (lw_t7 (i := 22) rfl)) rfl
theorem qI_X9_draw : Cond.instanceMethod yX9_draw ∈ lw_g := lw_gm (List.mem_append_right _ (lw_t7 (i := 24) rfl)) rfl
theorem qC_X9_draw : Cond.code yX9_draw cX9_draw 2 (some .int) ∈ lw_g := lw_gm (List.mem_append_right _ (lw_t7 (i := 25) rfl)) rfl
theorem qK_X9_321 : Cond.constant RX9 321 (1103515245) ∈ lw_g := lw_gm (List.mem_append_right _ (lw_t7 (i := 26) rfl)) rfl
theorem qK_X9_322 : Cond.constant RX9 322 (2147483647) ∈ lw_g := lw_gm (List.mem_append_right _ (lw_t7 (i := 27) rfl)) rfl
theorem qK_X9_323 : Cond.constant RX9 323 (65536) ∈ lw_g := lw_gm (List.mem_append_right _ (lw_t7 (i := 28) rfl)) rfl
theorem qM_L_208 : Cond.methodLink RL 208 yX9_count ∈ lw_g := lw_gm (List.mem_append_right _ (lw_t7 (i := 29) rfl)) rfl
theorem qI_X9_count : Cond.instanceMethod yX9_count ∈ lw_g := lw_gm (List.mem_append_right _ (lw_t7 (i := 30) rfl)) rfl
theorem qS_X9_count : Cond.selects RX9 yX9_count yX9_count ∈ lw_g := lw_gm (List.mem_append_right _ (lw_t7 (i := 31) rfl)) rfl
theorem qC_X9_count : Cond.code yX9_count cX9_count 2 (some .int) ∈ lw_g := lw_gm (List.mem_append_right _ (lw_t7 (i := 32) rfl)) rfl
theorem qS_X8_refused : Cond.selects RX8 yX8_refused yX8_refused ∈ lw_g := lw_gm (List.mem_append_left _ (List.mem_of_getElem? (i := 0) rfl)) rfl
theorem qS_X7_brokenPlace : Cond.selects RX7 yX7_brokenPlace yX7_brokenPlace ∈ lw_g := lw_gm (List.mem_append_left _ (List.mem_of_getElem? (i := 1) rfl)) rfl
theorem qS_X7_sign : Cond.selects RX7 yX7_sign yX7_sign ∈ lw_g := lw_gm (List.mem_append_left _ (List.mem_of_getElem? (i := 2) rfl)) rfl
theorem qS_X7_isDigit : Cond.selects RX7 yX7_isDigit yX7_isDigit ∈ lw_g := lw_gm (List.mem_append_left _ (List.mem_of_getElem? (i := 3) rfl)) rfl
theorem qS_X7_isRight : Cond.selects RX7 yX7_isRight yX7_isRight ∈ lw_g := lw_gm (List.mem_append_left _ (List.mem_of_getElem? (i := 4) rfl)) rfl
theorem qS_X7_digit : Cond.selects RX7 yX7_digit yX7_digit ∈ lw_g := lw_gm (List.mem_append_left _ (List.mem_of_getElem? (i := 5) rfl)) rfl
theorem qS_X7_twoDigits : Cond.selects RX7 yX7_twoDigits yX7_twoDigits ∈ lw_g := lw_gm (List.mem_append_left _ (List.mem_of_getElem? (i := 6) rfl)) rfl
theorem qS_X7_comes : Cond.selects RX7 yX7_comes yX7_comes ∈ lw_g := lw_gm (List.mem_append_left _ (List.mem_of_getElem? (i := 7) rfl)) rfl
theorem qS_X1_change : Cond.selects RX1 yX1_change yX1_change ∈ lw_g := lw_gm (List.mem_append_left _ (List.mem_of_getElem? (i := 8) rfl)) rfl
theorem qS_X8_keeperRefusal : Cond.selects RX8 yX8_keeperRefusal yX8_keeperRefusal ∈ lw_g := lw_gm (List.mem_append_left _ (List.mem_of_getElem? (i := 9) rfl)) rfl
theorem qS_X8_letterRefusal : Cond.selects RX8 yX8_letterRefusal yX8_letterRefusal ∈ lw_g := lw_gm (List.mem_append_left _ (List.mem_of_getElem? (i := 10) rfl)) rfl
theorem qS_X8_twoRefusal : Cond.selects RX8 yX8_twoRefusal yX8_twoRefusal ∈ lw_g := lw_gm (List.mem_append_left _ (List.mem_of_getElem? (i := 11) rfl)) rfl
theorem qS_X5_country : Cond.selects RX5 yX5_country yX5_country ∈ lw_g := lw_gm (List.mem_append_left _ (List.mem_of_getElem? (i := 12) rfl)) rfl
theorem qS_X3_hateOrSelf : Cond.selects RX3 yX3_hateOrSelf yX3_hateOrSelf ∈ lw_g := lw_gm (List.mem_append_left _ (List.mem_of_getElem? (i := 13) rfl)) rfl
theorem qS_X4_hateMadeUp : Cond.selects RX4 yX4_hateMadeUp yX4_hateMadeUp ∈ lw_g := lw_gm (List.mem_append_left _ (List.mem_of_getElem? (i := 14) rfl)) rfl
theorem qS_X4_gain : Cond.selects RX4 yX4_gain yX4_gain ∈ lw_g := lw_gm (List.mem_append_left _ (List.mem_of_getElem? (i := 15) rfl)) rfl
theorem qS_X4_openAsAllIs : Cond.selects RX4 yX4_openAsAllIs yX4_openAsAllIs ∈ lw_g := lw_gm (List.mem_append_left _ (List.mem_of_getElem? (i := 16) rfl)) rfl
theorem qS_X4_openKept : Cond.selects RX4 yX4_openKept yX4_openKept ∈ lw_g := lw_gm (List.mem_append_left _ (List.mem_of_getElem? (i := 17) rfl)) rfl
theorem qS_X4_opensAsTold : Cond.selects RX4 yX4_opensAsTold yX4_opensAsTold ∈ lw_g := lw_gm (List.mem_append_left _ (List.mem_of_getElem? (i := 18) rfl)) rfl
theorem qS_X4_hatesAsTold : Cond.selects RX4 yX4_hatesAsTold yX4_hatesAsTold ∈ lw_g := lw_gm (List.mem_append_left _ (List.mem_of_getElem? (i := 19) rfl)) rfl
theorem qS_X3_mostTwosWith : Cond.selects RX3 yX3_mostTwosWith yX3_mostTwosWith ∈ lw_g := lw_gm (List.mem_append_left _ (List.mem_of_getElem? (i := 20) rfl)) rfl
theorem qS_X3_hatesTogether : Cond.selects RX3 yX3_hatesTogether yX3_hatesTogether ∈ lw_g := lw_gm (List.mem_append_left _ (List.mem_of_getElem? (i := 21) rfl)) rfl
theorem qS_X9_no : Cond.selects RX9 yX9_no yX9_no ∈ lw_g := lw_gm (List.mem_append_left _ (List.mem_of_getElem? (i := 22) rfl)) rfl
theorem qS_X9_statement : Cond.selects RX9 yX9_statement yX9_statement ∈ lw_g := lw_gm (List.mem_append_left _ (List.mem_of_getElem? (i := 23) rfl)) rfl
theorem qS_X9_next : Cond.selects RX9 yX9_next yX9_next ∈ lw_g := lw_gm (List.mem_append_left _ (List.mem_of_getElem? (i := 24) rfl)) rfl
theorem qS_X9_readsAll : Cond.selects RX9 yX9_readsAll yX9_readsAll ∈ lw_g := lw_gm (List.mem_append_left _ (List.mem_of_getElem? (i := 25) rfl)) rfl
theorem qS_X9_readsDigits : Cond.selects RX9 yX9_readsDigits yX9_readsDigits ∈ lw_g := lw_gm (List.mem_append_left _ (List.mem_of_getElem? (i := 26) rfl)) rfl
theorem qS_X9_passesAll : Cond.selects RX9 yX9_passesAll yX9_passesAll ∈ lw_g := lw_gm (List.mem_append_left _ (List.mem_of_getElem? (i := 27) rfl)) rfl
theorem qS_X9_passes : Cond.selects RX9 yX9_passes yX9_passes ∈ lw_g := lw_gm (List.mem_append_left _ (List.mem_of_getElem? (i := 28) rfl)) rfl
theorem qS_X9_passOne : Cond.selects RX9 yX9_passOne yX9_passOne ∈ lw_g := lw_gm (List.mem_append_left _ (List.mem_of_getElem? (i := 29) rfl)) rfl
theorem qS_X9_comes : Cond.selects RX9 yX9_comes yX9_comes ∈ lw_g := lw_gm (List.mem_append_left _ (List.mem_of_getElem? (i := 30) rfl)) rfl
theorem qS_X9_comesKeeper : Cond.selects RX9 yX9_comesKeeper yX9_comesKeeper ∈ lw_g := lw_gm (List.mem_append_left _ (List.mem_of_getElem? (i := 31) rfl)) rfl
theorem qS_X9_addsKeeper : Cond.selects RX9 yX9_addsKeeper yX9_addsKeeper ∈ lw_g := lw_gm (List.mem_append_left _ (List.mem_of_getElem? (i := 32) rfl)) rfl
theorem qS_X9_sets : Cond.selects RX9 yX9_sets yX9_sets ∈ lw_g := lw_gm (List.mem_append_left _ (List.mem_of_getElem? (i := 33) rfl)) rfl
theorem qS_X9_areTwo : Cond.selects RX9 yX9_areTwo yX9_areTwo ∈ lw_g := lw_gm (List.mem_append_left _ (List.mem_of_getElem? (i := 34) rfl)) rfl
theorem qS_X9_isKeeper : Cond.selects RX9 yX9_isKeeper yX9_isKeeper ∈ lw_g := lw_gm (List.mem_append_left _ (List.mem_of_getElem? (i := 35) rfl)) rfl
theorem qS_X9_comesLetter : Cond.selects RX9 yX9_comesLetter yX9_comesLetter ∈ lw_g := lw_gm (List.mem_append_left _ (List.mem_of_getElem? (i := 36) rfl)) rfl
theorem qS_X9_addsLetter : Cond.selects RX9 yX9_addsLetter yX9_addsLetter ∈ lw_g := lw_gm (List.mem_append_left _ (List.mem_of_getElem? (i := 37) rfl)) rfl
theorem qS_X9_isLetter : Cond.selects RX9 yX9_isLetter yX9_isLetter ∈ lw_g := lw_gm (List.mem_append_left _ (List.mem_of_getElem? (i := 38) rfl)) rfl
theorem qS_X9_comesWeeks : Cond.selects RX9 yX9_comesWeeks yX9_comesWeeks ∈ lw_g := lw_gm (List.mem_append_left _ (List.mem_of_getElem? (i := 39) rfl)) rfl
theorem qS_X9_goesOn : Cond.selects RX9 yX9_goesOn yX9_goesOn ∈ lw_g := lw_gm (List.mem_append_left _ (List.mem_of_getElem? (i := 40) rfl)) rfl
theorem qS_X9_goesWeek : Cond.selects RX9 yX9_goesWeek yX9_goesWeek ∈ lw_g := lw_gm (List.mem_append_left _ (List.mem_of_getElem? (i := 41) rfl)) rfl
theorem qS_X9_fadesTwo : Cond.selects RX9 yX9_fadesTwo yX9_fadesTwo ∈ lw_g := lw_gm (List.mem_append_left _ (List.mem_of_getElem? (i := 42) rfl)) rfl
theorem qS_X9_hateOf : Cond.selects RX9 yX9_hateOf yX9_hateOf ∈ lw_g := lw_gm (List.mem_append_left _ (List.mem_of_getElem? (i := 43) rfl)) rfl
theorem qS_X9_fadesOf : Cond.selects RX9 yX9_fadesOf yX9_fadesOf ∈ lw_g := lw_gm (List.mem_append_left _ (List.mem_of_getElem? (i := 44) rfl)) rfl
theorem qS_X9_stirsOf : Cond.selects RX9 yX9_stirsOf yX9_stirsOf ∈ lw_g := lw_gm (List.mem_append_left _ (List.mem_of_getElem? (i := 45) rfl)) rfl
theorem qS_X9_opensAt : Cond.selects RX9 yX9_opensAt yX9_opensAt ∈ lw_g := lw_gm (List.mem_append_left _ (List.mem_of_getElem? (i := 46) rfl)) rfl
theorem qS_X9_areThere : Cond.selects RX9 yX9_areThere yX9_areThere ∈ lw_g := lw_gm (List.mem_append_left _ (List.mem_of_getElem? (i := 47) rfl)) rfl
theorem qS_X9_payOf : Cond.selects RX9 yX9_payOf yX9_payOf ∈ lw_g := lw_gm (List.mem_append_left _ (List.mem_of_getElem? (i := 48) rfl)) rfl
theorem qS_X9_keepsBack : Cond.selects RX9 yX9_keepsBack yX9_keepsBack ∈ lw_g := lw_gm (List.mem_append_left _ (List.mem_of_getElem? (i := 49) rfl)) rfl
theorem qS_X9_openOnes : Cond.selects RX9 yX9_openOnes yX9_openOnes ∈ lw_g := lw_gm (List.mem_append_left _ (List.mem_of_getElem? (i := 50) rfl)) rfl
theorem qS_X9_hateIn : Cond.selects RX9 yX9_hateIn yX9_hateIn ∈ lw_g := lw_gm (List.mem_append_left _ (List.mem_of_getElem? (i := 51) rfl)) rfl
theorem qS_X9_thinks : Cond.selects RX9 yX9_thinks yX9_thinks ∈ lw_g := lw_gm (List.mem_append_left _ (List.mem_of_getElem? (i := 52) rfl)) rfl
theorem qS_X9_forgets : Cond.selects RX9 yX9_forgets yX9_forgets ∈ lw_g := lw_gm (List.mem_append_left _ (List.mem_of_getElem? (i := 53) rfl)) rfl
theorem qS_X9_openIn : Cond.selects RX9 yX9_openIn yX9_openIn ∈ lw_g := lw_gm (List.mem_append_left _ (List.mem_of_getElem? (i := 54) rfl)) rfl
theorem qS_X9_allHate : Cond.selects RX9 yX9_allHate yX9_allHate ∈ lw_g := lw_gm (List.mem_append_left _ (List.mem_of_getElem? (i := 55) rfl)) rfl
theorem qS_X9_whenOf : Cond.selects RX9 yX9_whenOf yX9_whenOf ∈ lw_g := lw_gm (List.mem_append_left _ (List.mem_of_getElem? (i := 56) rfl)) rfl
theorem qS_X9_firstOne : Cond.selects RX9 yX9_firstOne yX9_firstOne ∈ lw_g := lw_gm (List.mem_append_left _ (List.mem_of_getElem? (i := 57) rfl)) rfl
theorem qS_X9_isOpenedBy : Cond.selects RX9 yX9_isOpenedBy yX9_isOpenedBy ∈ lw_g := lw_gm (List.mem_append_left _ (List.mem_of_getElem? (i := 58) rfl)) rfl
theorem qS_X9_manyAt : Cond.selects RX9 yX9_manyAt yX9_manyAt ∈ lw_g := lw_gm (List.mem_append_left _ (List.mem_of_getElem? (i := 59) rfl)) rfl
theorem qS_X9_changes : Cond.selects RX9 yX9_changes yX9_changes ∈ lw_g := lw_gm (List.mem_append_left _ (List.mem_of_getElem? (i := 60) rfl)) rfl
theorem qS_X9_changesBack : Cond.selects RX9 yX9_changesBack yX9_changesBack ∈ lw_g := lw_gm (List.mem_append_left _ (List.mem_of_getElem? (i := 61) rfl)) rfl
theorem qS_X9_manyBy : Cond.selects RX9 yX9_manyBy yX9_manyBy ∈ lw_g := lw_gm (List.mem_append_left _ (List.mem_of_getElem? (i := 62) rfl)) rfl
theorem qS_X9_payOfAll : Cond.selects RX9 yX9_payOfAll yX9_payOfAll ∈ lw_g := lw_gm (List.mem_append_left _ (List.mem_of_getElem? (i := 63) rfl)) rfl
theorem qS_X9_keepersIn : Cond.selects RX9 yX9_keepersIn yX9_keepersIn ∈ lw_g := lw_gm (List.mem_append_left _ (List.mem_of_getElem? (i := 64) rfl)) rfl
theorem qS_X9_findTwos : Cond.selects RX9 yX9_findTwos yX9_findTwos ∈ lw_g := lw_gm (List.mem_append_left _ (List.mem_of_getElem? (i := 65) rfl)) rfl
theorem qS_X9_opensSo : Cond.selects RX9 yX9_opensSo yX9_opensSo ∈ lw_g := lw_gm (List.mem_append_left _ (List.mem_of_getElem? (i := 66) rfl)) rfl
theorem qS_X9_bitsFor : Cond.selects RX9 yX9_bitsFor yX9_bitsFor ∈ lw_g := lw_gm (List.mem_append_left _ (List.mem_of_getElem? (i := 67) rfl)) rfl
theorem qS_X9_hatesSo : Cond.selects RX9 yX9_hatesSo yX9_hatesSo ∈ lw_g := lw_gm (List.mem_append_left _ (List.mem_of_getElem? (i := 68) rfl)) rfl
theorem qS_X9_lowestOf : Cond.selects RX9 yX9_lowestOf yX9_lowestOf ∈ lw_g := lw_gm (List.mem_append_left _ (List.mem_of_getElem? (i := 69) rfl)) rfl
theorem qS_X9_getsOf : Cond.selects RX9 yX9_getsOf yX9_getsOf ∈ lw_g := lw_gm (List.mem_append_left _ (List.mem_of_getElem? (i := 70) rfl)) rfl
theorem qS_X9_isOpenMeeting : Cond.selects RX9 yX9_isOpenMeeting yX9_isOpenMeeting ∈ lw_g := lw_gm (List.mem_append_left _ (List.mem_of_getElem? (i := 71) rfl)) rfl
theorem qS_X9_hatesOf : Cond.selects RX9 yX9_hatesOf yX9_hatesOf ∈ lw_g := lw_gm (List.mem_append_left _ (List.mem_of_getElem? (i := 72) rfl)) rfl
theorem qS_X9_lower : Cond.selects RX9 yX9_lower yX9_lower ∈ lw_g := lw_gm (List.mem_append_left _ (List.mem_of_getElem? (i := 73) rfl)) rfl
theorem qS_X9_manySwapped : Cond.selects RX9 yX9_manySwapped yX9_manySwapped ∈ lw_g := lw_gm (List.mem_append_left _ (List.mem_of_getElem? (i := 74) rfl)) rfl
theorem qS_X9_draw : Cond.selects RX9 yX9_draw yX9_draw ∈ lw_g := lw_gm (List.mem_append_left _ (List.mem_of_getElem? (i := 75) rfl)) rfl
