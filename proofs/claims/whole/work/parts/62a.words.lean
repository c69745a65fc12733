theorem qN_L : Cond.initialized RL ∈ lw_g := lw_gm (List.mem_append_right _ (lw_t1 (i := 0) rfl)) rfl
theorem qN_X8 : Cond.initialized RX8 ∈ lw_g := lw_gm (List.mem_append_right _ (lw_t1 (i := 1) rfl)) rfl
theorem qN_X1 : Cond.initialized RX1 ∈ lw_g := lw_gm (List.mem_append_right _ (lw_t1 (i := 2) rfl)) rfl
theorem qN_X5 : Cond.initialized RX5 ∈ lw_g := lw_gm (List.mem_append_right _ (lw_t1 (i := 3) rfl)) rfl
theorem qN_X7 : Cond.initialized RX7 ∈ lw_g := lw_gm (List.mem_append_right _ (lw_t1 (i := 4) rfl)) rfl
theorem qN_X6 : Cond.initialized RX6 ∈ lw_g := lw_gm (List.mem_append_right _ (lw_t1 (i := 5) rfl)) rfl
theorem qN_X3 : Cond.initialized RX3 ∈ lw_g := lw_gm (List.mem_append_right _ (lw_t1 (i := 6) rfl)) rfl
theorem qN_X4 : Cond.initialized RX4 ∈ lw_g := lw_gm (List.mem_append_right _ (lw_t1 (i := 7) rfl)) rfl
theorem qN_X9 : Cond.initialized RX9 ∈ lw_g := lw_gm (List.mem_append_right _ (lw_t1 (i := 8) rfl)) rfl
theorem qN_J9 : Cond.initialized "java/lang/Math" ∈ lw_g := lw_gm (List.mem_append_right _ (lw_t1 (i := 9) rfl)) rfl
theorem qN_J10 : Cond.initialized "java/lang/System" ∈ lw_g := lw_gm (List.mem_append_right _ (lw_t1 (i := 10) rfl)) rfl
theorem qN_J7 : Cond.initialized "java/util/Arrays" ∈ lw_g := lw_gm (List.mem_append_right _ (lw_t1 (i := 11) rfl)) rfl
theorem qN_X2 : Cond.initialized RX2 ∈ lw_g := lw_gm (List.mem_append_right _ (lw_t1 (i := 12) rfl)) rfl
theorem qN_J6 : Cond.initialized "java/lang/Integer" ∈ lw_g := lw_gm (List.mem_append_right _ (lw_t1 (i := 13) rfl)) rfl
theorem qN_X0 : Cond.initialized RX0 ∈ lw_g := lw_gm (List.mem_append_right _ (lw_t1 (i := 14) rfl)) rfl
theorem qL_L_7 : Cond.classLink RL 7 RX8 ∈ lw_g := lw_gm (List.mem_append_right _ (lw_t1 (i := 15) rfl)) rfl
theorem qB_X8 : Cond.instantiable RX8 10 ∈ lw_g := lw_gm (List.mem_append_right _ (lw_t1 (i := 16) rfl)) rfl
theorem qM_L_9 : Cond.methodLink RL 9 yX8_init ∈ lw_g := lw_gm (List.mem_append_right _ (lw_t1 (i := 17) rfl)) rfl
theorem qI_X8_init : Cond.instanceMethod yX8_init ∈ lw_g := lw_gm (List.mem_append_right _ (lw_t1 (i := 18) rfl)) rfl
theorem qC_X8_init : Cond.code yX8_init cX8_init 2 none ∈ lw_g := lw_gm (List.mem_append_right _ (lw_t1 (i := 19) rfl)) rfl
theorem qM_X8_1 : Cond.methodLink RX8 1 objectInit ∈ lw_g := lw_gm (List.mem_append_right _ (lw_t1 (i := 20) rfl)) rfl
theorem qI_objectInit : Cond.instanceMethod objectInit ∈ lw_g := lw_gm (List.mem_append_right _ (lw_t1 (i := 21) rfl)) rfl
theorem qC_objectInit : Cond.code objectInit ⟨#[0xb1]⟩ 1 none ∈ lw_g := lw_gm (List.mem_append_right _ (lw_t1 (i := 22) rfl)) rfl
theorem qL_X8_7 : Cond.classLink RX8 7 RX1 ∈ lw_g := lw_gm (List.mem_append_right _ (lw_t1 (i := 23) rfl)) rfl
theorem qB_X1 : Cond.instantiable RX1 11 ∈ lw_g := lw_gm (List.mem_append_right _ (lw_t1 (i := 24) rfl)) rfl
theorem qM_X8_9 : Cond.methodLinkNest RX8 9 yX1_init RX8 ∈ lw_tbl := (List.mem_append_right _ (lw_t1 (i := 25) rfl))
theorem qI_X1_init : Cond.instanceMethod yX1_init ∈ lw_g := lw_gm (List.mem_append_right _ (lw_t1 (i := 26) rfl)) rfl
theorem qC_X1_init : Cond.code yX1_init cX1_init 1 none ∈ lw_g := lw_gm (List.mem_append_right _ (lw_t1 (i := 27) rfl)) rfl
theorem qM_X1_3 : Cond.methodLink RX1 3 objectInit ∈ lw_g := lw_gm (List.mem_append_right _ (lw_t1 (i := 28) rfl)) rfl
theorem qF_X1_9 : Cond.fieldLink RX1 9 "OnlyTwoEnemies$Country" "kinds" "[I" ∈ lw_g := lw_gm (List.mem_append_right _ (lw_t1 (i := 29) rfl)) rfl
theorem qF_X1_15 : Cond.fieldLink RX1 15 "OnlyTwoEnemies$Country" "figures" "[I" ∈ lw_g := lw_gm (List.mem_append_right _ (lw_t1 (i := 30) rfl)) rfl
theorem qF_X1_18 : Cond.fieldLink RX1 18 "OnlyTwoEnemies$Country" "towns" "[I" ∈ lw_g := lw_gm (List.mem_append_right _ (lw_t1 (i := 31) rfl)) rfl
theorem qF_X1_21 : Cond.fieldLink RX1 21 "OnlyTwoEnemies$Country" "hatreds" "[I" ∈ lw_g := lw_gm (List.mem_append_right _ (lw_t1 (i := 32) rfl)) rfl
theorem qF_X1_24 : Cond.fieldLink RX1 24 "OnlyTwoEnemies$Country" "depths" "[I" ∈ lw_g := lw_gm (List.mem_append_right _ (lw_t1 (i := 33) rfl)) rfl
theorem qF_X1_27 : Cond.fieldLink RX1 27 "OnlyTwoEnemies$Country" "letterTowns" "[I" ∈ lw_g := lw_gm (List.mem_append_right _ (lw_t1 (i := 34) rfl)) rfl
theorem qF_X1_30 : Cond.fieldLink RX1 30 "OnlyTwoEnemies$Country" "openers" "[I" ∈ lw_g := lw_gm (List.mem_append_right _ (lw_t1 (i := 35) rfl)) rfl
theorem qF_X1_43 : Cond.fieldLink RX1 43 "OnlyTwoEnemies$Country" "keepers" "I" ∈ lw_g := lw_gm (List.mem_append_right _ (lw_t1 (i := 36) rfl)) rfl
theorem qF_X1_47 : Cond.fieldLink RX1 47 "OnlyTwoEnemies$Country" "letters" "I" ∈ lw_g := lw_gm (List.mem_append_right _ (lw_t1 (i := 37) rfl)) rfl
theorem qF_X1_50 : Cond.fieldLink RX1 50 "OnlyTwoEnemies$Country" "open" "I" ∈ lw_g := lw_gm (List.mem_append_right _ (lw_t1 (i := 38) rfl)) rfl
theorem qF_X1_53 : Cond.fieldLink RX1 53 "OnlyTwoEnemies$Country" "week" "I" ∈ lw_g := lw_gm (List.mem_append_right _ (lw_t1 (i := 39) rfl)) rfl
theorem qA_int : Cond.arrayClass .int ∈ lw_g := lw_gm (List.mem_append_right _ (lw_t1 (i := 63) rfl)) rfl
theorem qL_X8_19 : Cond.classLink RX8 19 RX5 ∈ lw_g := lw_gm (List.mem_append_right _ (lw_t1 (i := 64) rfl)) rfl
theorem qB_X5 : Cond.instantiable RX5 3 ∈ lw_g := lw_gm (List.mem_append_right _ (lw_t1 (i := 65) rfl)) rfl
theorem qM_X8_21 : Cond.methodLink RX8 21 yX5_init ∈ lw_g := lw_gm (List.mem_append_right _ (lw_t1 (i := 66) rfl)) rfl
theorem qI_X5_init : Cond.instanceMethod yX5_init ∈ lw_g := lw_gm (List.mem_append_right _ (lw_t1 (i := 67) rfl)) rfl
theorem qC_X5_init : Cond.code yX5_init cX5_init 2 none ∈ lw_g := lw_gm (List.mem_append_right _ (lw_t1 (i := 68) rfl)) rfl
theorem qM_X5_1 : Cond.methodLink RX5 1 objectInit ∈ lw_g := lw_gm (List.mem_append_right _ (lw_t1 (i := 69) rfl)) rfl
theorem qL_X5_9 : Cond.classLink RX5 9 RX1 ∈ lw_g := lw_gm (List.mem_append_right _ (lw_t1 (i := 70) rfl)) rfl
theorem qA_Country : Cond.arrayOver (.object "OnlyTwoEnemies$Country") ∈ lw_tbl := (List.mem_append_right _ (lw_t1 (i := 71) rfl))
theorem qM_X5_15 : Cond.methodLinkNest RX5 15 yX1_init RX8 ∈ lw_tbl := (List.mem_append_right _ (lw_t1 (i := 72) rfl))
theorem qF_X5_11 : Cond.fieldLink RX5 11 "OnlyTwoEnemies$Past" "earlier" "[LOnlyTwoEnemies$Country;" ∈ lw_g := lw_gm (List.mem_append_right _ (lw_t1 (i := 73) rfl)) rfl
theorem qF_X5_20 : Cond.fieldLink RX5 20 "OnlyTwoEnemies$Past" "next" "I" ∈ lw_g := lw_gm (List.mem_append_right _ (lw_t1 (i := 74) rfl)) rfl
theorem qF_X5_16 : Cond.fieldLink RX5 16 "OnlyTwoEnemies$Past" "size" "I" ∈ lw_g := lw_gm (List.mem_append_right _ (lw_t1 (i := 75) rfl)) rfl
theorem qL_X8_26 : Cond.classLink RX8 26 RX7 ∈ lw_g := lw_gm (List.mem_append_right _ (lw_t1 (i := 83) rfl)) rfl
theorem qB_X7 : Cond.instantiable RX7 2 ∈ lw_g := lw_gm (List.mem_append_right _ (lw_t1 (i := 84) rfl)) rfl
theorem qM_X8_28 : Cond.methodLinkNest RX8 28 yX7_init RX8 ∈ lw_tbl := (List.mem_append_right _ (lw_t1 (i := 85) rfl))
theorem qI_X7_init : Cond.instanceMethod yX7_init ∈ lw_g := lw_gm (List.mem_append_right _ (lw_t1 (i := 86) rfl)) rfl
theorem qC_X7_init : Cond.code yX7_init cX7_init 1 none ∈ lw_g := lw_gm (List.mem_append_right _ (lw_t1 (i := 87) rfl)) rfl
theorem qM_X7_3 : Cond.methodLink RX7 3 objectInit ∈ lw_g := lw_gm (List.mem_append_right _ (lw_t1 (i := 88) rfl)) rfl
theorem qF_X7_11 : Cond.fieldLink RX7 11 "OnlyTwoEnemies$Telling" "signs" "[I" ∈ lw_g := lw_gm (List.mem_append_right _ (lw_t1 (i := 89) rfl)) rfl
theorem qF_X7_15 : Cond.fieldLink RX7 15 "OnlyTwoEnemies$Telling" "size" "I" ∈ lw_g := lw_gm (List.mem_append_right _ (lw_t1 (i := 90) rfl)) rfl
theorem qL_X8_33 : Cond.classLink RX8 33 RX6 ∈ lw_g := lw_gm (List.mem_append_right _ (lw_t1 (i := 96) rfl)) rfl
theorem qB_X6 : Cond.instantiable RX6 2 ∈ lw_g := lw_gm (List.mem_append_right _ (lw_t1 (i := 97) rfl)) rfl
theorem qM_X8_35 : Cond.methodLinkNest RX8 35 yX6_init RX8 ∈ lw_tbl := (List.mem_append_right _ (lw_t1 (i := 98) rfl))
theorem qI_X6_init : Cond.instanceMethod yX6_init ∈ lw_g := lw_gm (List.mem_append_right _ (lw_t1 (i := 99) rfl)) rfl
theorem qC_X6_init : Cond.code yX6_init cX6_init 1 none ∈ lw_g := lw_gm (List.mem_append_right _ (lw_t1 (i := 100) rfl)) rfl
theorem qM_X6_1 : Cond.methodLink RX6 1 objectInit ∈ lw_g := lw_gm (List.mem_append_right _ (lw_t1 (i := 101) rfl)) rfl
theorem qF_X6_9 : Cond.fieldLink RX6 9 "OnlyTwoEnemies$Row" "numbers" "[I" ∈ lw_g := lw_gm (List.mem_append_right _ (lw_t1 (i := 102) rfl)) rfl
theorem qF_X6_13 : Cond.fieldLink RX6 13 "OnlyTwoEnemies$Row" "size" "I" ∈ lw_g := lw_gm (List.mem_append_right _ (lw_t1 (i := 103) rfl)) rfl
theorem qL_X8_47 : Cond.classLink RX8 47 RX3 ∈ lw_g := lw_gm (List.mem_append_right _ (lw_t1 (i := 109) rfl)) rfl
theorem qB_X3 : Cond.instantiable RX3 2 ∈ lw_g := lw_gm (List.mem_append_right _ (lw_t1 (i := 110) rfl)) rfl
theorem qM_X8_49 : Cond.methodLink RX8 49 yX3_init ∈ lw_g := lw_gm (List.mem_append_right _ (lw_t1 (i := 111) rfl)) rfl
theorem qI_X3_init : Cond.instanceMethod yX3_init ∈ lw_g := lw_gm (List.mem_append_right _ (lw_t1 (i := 112) rfl)) rfl
theorem qC_X3_init : Cond.code yX3_init cX3_init 2 none ∈ lw_g := lw_gm (List.mem_append_right _ (lw_t1 (i := 113) rfl)) rfl
theorem qM_X3_3 : Cond.methodLink RX3 3 objectInit ∈ lw_g := lw_gm (List.mem_append_right _ (lw_t1 (i := 114) rfl)) rfl
theorem qF_X3_15 : Cond.fieldLink RX3 15 "OnlyTwoEnemies$Look" "now" "LOnlyTwoEnemies$Country;" ∈ lw_g := lw_gm (List.mem_append_right _ (lw_t1 (i := 115) rfl)) rfl
theorem qF_X3_9 : Cond.fieldLink RX3 9 "OnlyTwoEnemies$Look" "twosAmong" "[I" ∈ lw_g := lw_gm (List.mem_append_right _ (lw_t1 (i := 116) rfl)) rfl
theorem qL_X8_56 : Cond.classLink RX8 56 RX4 ∈ lw_g := lw_gm (List.mem_append_right _ (lw_t1 (i := 122) rfl)) rfl
theorem qB_X4 : Cond.instantiable RX4 2 ∈ lw_g := lw_gm (List.mem_append_right _ (lw_t1 (i := 123) rfl)) rfl
theorem qM_X8_58 : Cond.methodLink RX8 58 yX4_init ∈ lw_g := lw_gm (List.mem_append_right _ (lw_t1 (i := 124) rfl)) rfl
theorem qI_X4_init : Cond.instanceMethod yX4_init ∈ lw_g := lw_gm (List.mem_append_right _ (lw_t1 (i := 125) rfl)) rfl
theorem qC_X4_init : Cond.code yX4_init cX4_init 2 none ∈ lw_g := lw_gm (List.mem_append_right _ (lw_t1 (i := 126) rfl)) rfl
theorem qM_X4_3 : Cond.methodLink RX4 3 objectInit ∈ lw_g := lw_gm (List.mem_append_right _ (lw_t1 (i := 127) rfl)) rfl
theorem qL_X4_9 : Cond.classLink RX4 9 RX1 ∈ lw_g := lw_gm (List.mem_append_right _ (lw_t1 (i := 128) rfl)) rfl
theorem qM_X4_11 : Cond.methodLinkNest RX4 11 yX1_init RX8 ∈ lw_tbl := (List.mem_append_right _ (lw_t1 (i := 129) rfl))
theorem qF_X4_18 : Cond.fieldLink RX4 18 "OnlyTwoEnemies$Mind" "now" "LOnlyTwoEnemies$Country;" ∈ lw_g := lw_gm (List.mem_append_right _ (lw_t1 (i := 130) rfl)) rfl
theorem qF_X4_12 : Cond.fieldLink RX4 12 "OnlyTwoEnemies$Mind" "ahead" "LOnlyTwoEnemies$Country;" ∈ lw_g := lw_gm (List.mem_append_right _ (lw_t1 (i := 131) rfl)) rfl
theorem qF_X8_44 : Cond.fieldLink RX8 44 "OnlyTwoEnemies" "now" "LOnlyTwoEnemies$Country;" ∈ lw_g := lw_gm (List.mem_append_right _ (lw_t1 (i := 137) rfl)) rfl
theorem qF_X8_10 : Cond.fieldLink RX8 10 "OnlyTwoEnemies" "draft" "LOnlyTwoEnemies$Country;" ∈ lw_g := lw_gm (List.mem_append_right _ (lw_t1 (i := 138) rfl)) rfl
theorem qF_X8_16 : Cond.fieldLink RX8 16 "OnlyTwoEnemies" "kept" "LOnlyTwoEnemies$Country;" ∈ lw_g := lw_gm (List.mem_append_right _ (lw_t1 (i := 139) rfl)) rfl
theorem qF_X8_202 : Cond.fieldLink RX8 202 "OnlyTwoEnemies" "isKept" "Z" ∈ lw_g := lw_gm (List.mem_append_right _ (lw_t1 (i := 140) rfl)) rfl
theorem qF_X8_22 : Cond.fieldLink RX8 22 "OnlyTwoEnemies" "past" "LOnlyTwoEnemies$Past;" ∈ lw_g := lw_gm (List.mem_append_right _ (lw_t1 (i := 141) rfl)) rfl
theorem qF_X8_29 : Cond.fieldLink RX8 29 "OnlyTwoEnemies" "telling" "LOnlyTwoEnemies$Telling;" ∈ lw_g := lw_gm (List.mem_append_right _ (lw_t1 (i := 142) rfl)) rfl
theorem qF_X8_36 : Cond.fieldLink RX8 36 "OnlyTwoEnemies" "numbers" "LOnlyTwoEnemies$Row;" ∈ lw_g := lw_gm (List.mem_append_right _ (lw_t1 (i := 143) rfl)) rfl
theorem qF_X8_52 : Cond.fieldLink RX8 52 "OnlyTwoEnemies" "look" "LOnlyTwoEnemies$Look;" ∈ lw_g := lw_gm (List.mem_append_right _ (lw_t1 (i := 144) rfl)) rfl
theorem qF_X8_59 : Cond.fieldLink RX8 59 "OnlyTwoEnemies" "mind" "LOnlyTwoEnemies$Mind;" ∈ lw_g := lw_gm (List.mem_append_right _ (lw_t1 (i := 145) rfl)) rfl
theorem qF_X8_40 : Cond.fieldLink RX8 40 "OnlyTwoEnemies" "refusals" "[I" ∈ lw_g := lw_gm (List.mem_append_right _ (lw_t1 (i := 146) rfl)) rfl
theorem qM_L_13 : Cond.methodLink RL 13 yX8_feed ∈ lw_g := lw_gm (List.mem_append_right _ (lw_t1 (i := 168) rfl)) rfl
theorem qI_X8_feed : Cond.instanceMethod yX8_feed ∈ lw_g := lw_gm (List.mem_append_right _ (lw_t1 (i := 169) rfl)) rfl
theorem qS_X8_feed : Cond.selects RX8 yX8_feed yX8_feed ∈ lw_g := lw_gm (List.mem_append_right _ (lw_t1 (i := 170) rfl)) rfl
theorem qC_X8_feed : Cond.code yX8_feed cX8_feed 3 (some .int) ∈ lw_g := lw_gm (List.mem_append_right _ (lw_t1 (i := 171) rfl)) rfl
theorem qM_X8_63 : Cond.methodLink RX8 63 yX8_range ∈ lw_g := lw_gm (List.mem_append_right _ (lw_t1 (i := 172) rfl)) rfl
theorem qT_X8_range : Cond.static yX8_range ∈ lw_g := lw_gm (List.mem_append_right _ (lw_t1 (i := 173) rfl)) rfl
theorem qC_X8_range : Cond.code yX8_range cX8_range 3 (some .int) ∈ lw_g := lw_gm (List.mem_append_right _ (lw_t1 (i := 174) rfl)) rfl
theorem qM_X8_67 : Cond.methodLink RX8 67 yX7_isFull ∈ lw_g := lw_gm (List.mem_append_right _ (lw_t1 (i := 175) rfl)) rfl
theorem qI_X7_isFull : Cond.instanceMethod yX7_isFull ∈ lw_g := lw_gm (List.mem_append_right _ (lw_t1 (i := 176) rfl)) rfl
theorem qS_X7_isFull : Cond.selects RX7 yX7_isFull yX7_isFull ∈ lw_g := lw_gm (List.mem_append_right _ (lw_t1 (i := 177) rfl)) rfl
theorem qC_X7_isFull : Cond.code yX7_isFull cX7_isFull 1 (some .boolean) ∈ lw_g := lw_gm (List.mem_append_right _ (lw_t1 (i := 178) rfl)) rfl
theorem qM_X8_71 : Cond.methodLink RX8 71 yX8_firstOf ∈ lw_g := lw_gm (List.mem_append_right _ (lw_t1 (i := 179) rfl)) rfl
theorem qT_X8_firstOf : Cond.static yX8_firstOf ∈ lw_g := lw_gm (List.mem_append_right _ (lw_t1 (i := 180) rfl)) rfl
theorem qC_X8_firstOf : Cond.code yX8_firstOf cX8_firstOf 3 (some .int) ∈ lw_g := lw_gm (List.mem_append_right _ (lw_t1 (i := 181) rfl)) rfl
theorem qM_X8_74 : Cond.methodLink RX8 74 yX8_refused ∈ lw_g := lw_gm (List.mem_append_right _ (lw_t1 (i := 182) rfl)) rfl
theorem qI_X8_refused : Cond.instanceMethod yX8_refused ∈ lw_g := lw_gm (List.mem_append_right _ (lw_t1 (i := 184) rfl)) rfl
theorem qC_X8_refused : Cond.code yX8_refused cX8_refused 2 (some .int) ∈ lw_g := lw_gm (List.mem_append_right _ (lw_t1 (i := 185) rfl)) rfl
theorem qM_X8_162 : Cond.methodLink RX8 162 yX8_at ∈ lw_g := lw_gm (List.mem_append_right _ (lw_t1 (i := 186) rfl)) rfl
theorem qT_X8_at : Cond.static yX8_at ∈ lw_g := lw_gm (List.mem_append_right _ (lw_t1 (i := 187) rfl)) rfl
theorem qC_X8_at : Cond.code yX8_at cX8_at 2 (some .int) ∈ lw_g := lw_gm (List.mem_append_right _ (lw_t1 (i := 188) rfl)) rfl
theorem qM_X8_343 : Cond.methodLink RX8 343 yX8_put ∈ lw_g := lw_gm (List.mem_append_right _ (lw_t1 (i := 189) rfl)) rfl
theorem qT_X8_put : Cond.static yX8_put ∈ lw_g := lw_gm (List.mem_append_right _ (lw_t1 (i := 190) rfl)) rfl
theorem qC_X8_put : Cond.code yX8_put cX8_put 3 none ∈ lw_g := lw_gm (List.mem_append_right _ (lw_t1 (i := 191) rfl)) rfl
theorem qM_X8_78 : Cond.methodLink RX8 78 yX7_add ∈ lw_g := lw_gm (List.mem_append_right _ (lw_t1 (i := 192) rfl)) rfl
theorem qI_X7_add : Cond.instanceMethod yX7_add ∈ lw_g := lw_gm (List.mem_append_right _ (lw_t1 (i := 193) rfl)) rfl
theorem qS_X7_add : Cond.selects RX7 yX7_add yX7_add ∈ lw_g := lw_gm (List.mem_append_right _ (lw_t1 (i := 194) rfl)) rfl
theorem qC_X7_add : Cond.code yX7_add cX7_add 2 (some .int) ∈ lw_g := lw_gm (List.mem_append_right _ (lw_t1 (i := 195) rfl)) rfl
theorem qM_X7_19 : Cond.methodLinkNest RX7 19 yX8_put RX8 ∈ lw_tbl := (List.mem_append_right _ (lw_t1 (i := 196) rfl))
theorem qM_X7_23 : Cond.methodLink RX7 23 Lib.Math.min.name ∈ lw_g := lw_gm (List.mem_append_right _ (lw_t1 (i := 197) rfl)) rfl
theorem qT_Lib_Math_min_name : Cond.static Lib.Math.min.name ∈ lw_g := lw_gm (List.mem_append_right _ (lw_t1 (i := 198) rfl)) rfl
theorem qC_Lib_Math_min_name : Cond.code Lib.Math.min.name Lib.Math.min.code 2 (some .int) ∈ lw_g := lw_gm (List.mem_append_right _ (lw_t1 (i := 199) rfl)) rfl
theorem qM_L_18 : Cond.methodLink RL 18 yX8_land ∈ lw_g := lw_gm (List.mem_append_right _ (lw_t1 (i := 200) rfl)) rfl
theorem qI_X8_land : Cond.instanceMethod yX8_land ∈ lw_g := lw_gm (List.mem_append_right _ (lw_t1 (i := 201) rfl)) rfl
theorem qS_X8_land : Cond.selects RX8 yX8_land yX8_land ∈ lw_g := lw_gm (List.mem_append_right _ (lw_t1 (i := 202) rfl)) rfl
theorem qC_X8_land : Cond.code yX8_land cX8_land 2 (some .int) ∈ lw_g := lw_gm (List.mem_append_right _ (lw_t1 (i := 203) rfl)) rfl
theorem qM_X8_81 : Cond.methodLink RX8 81 yX1_become ∈ lw_g := lw_gm (List.mem_append_right _ (lw_t1 (i := 204) rfl)) rfl
theorem qI_X1_become : Cond.instanceMethod yX1_become ∈ lw_g := lw_gm (List.mem_append_right _ (lw_t1 (i := 205) rfl)) rfl
theorem qS_X1_become : Cond.selects RX1 yX1_become yX1_become ∈ lw_g := lw_gm (List.mem_append_right _ (lw_t1 (i := 206) rfl)) rfl
theorem qC_X1_become : Cond.code yX1_become cX1_become 2 none ∈ lw_g := lw_gm (List.mem_append_right _ (lw_t1 (i := 207) rfl)) rfl
theorem qM_X1_33 : Cond.methodLinkNest RX1 33 yX8_copy RX8 ∈ lw_tbl := (List.mem_append_right _ (lw_t1 (i := 208) rfl))
theorem qT_X8_copy : Cond.static yX8_copy ∈ lw_g := lw_gm (List.mem_append_right _ (lw_t1 (i := 209) rfl)) rfl
theorem qC_X8_copy : Cond.code yX8_copy cX8_copy 2 none ∈ lw_g := lw_gm (List.mem_append_right _ (lw_t1 (i := 210) rfl)) rfl
theorem qM_X8_360 : Cond.methodLink RX8 360 Lib.Math.min.name ∈ lw_g := lw_gm (List.mem_append_right _ (lw_t1 (i := 211) rfl)) rfl
theorem qM_X8_363 : Cond.methodLink RX8 363 arraycopyName ∈ lw_g := lw_gm (List.mem_append_right _ (lw_t1 (i := 212) rfl)) rfl
theorem qT_arraycopyName : Cond.static arraycopyName ∈ lw_g := lw_gm (List.mem_append_right _ (lw_t1 (i := 213) rfl)) rfl
theorem qV_arraycopyName : Cond.native arraycopyName ∈ lw_g := lw_gm (List.mem_append_right _ (lw_t1 (i := 214) rfl)) rfl
theorem qM_X1_37 : Cond.methodLink RX1 37 yJ7_fill_53178 ∈ lw_g := lw_gm (List.mem_append_right _ (lw_t1 (i := 215) rfl)) rfl
theorem qT_J7_fill_53178 : Cond.static yJ7_fill_53178 ∈ lw_g := lw_gm (List.mem_append_right _ (lw_t1 (i := 216) rfl)) rfl
theorem qC_J7_fill_53178 : Cond.code yJ7_fill_53178 cJ7_fill_53178 4 none ∈ lw_g := lw_gm (List.mem_append_right _ (lw_t1 (i := 217) rfl)) rfl
theorem qM_X8_84 : Cond.methodLink RX8 84 yX7_tellTo ∈ lw_g := lw_gm (List.mem_append_right _ (lw_t1 (i := 218) rfl)) rfl
theorem qI_X7_tellTo : Cond.instanceMethod yX7_tellTo ∈ lw_g := lw_gm (List.mem_append_right _ (lw_t1 (i := 219) rfl)) rfl
theorem qS_X7_tellTo : Cond.selects RX7 yX7_tellTo yX7_tellTo ∈ lw_g := lw_gm (List.mem_append_right _ (lw_t1 (i := 220) rfl)) rfl
theorem qC_X7_tellTo : Cond.code yX7_tellTo cX7_tellTo 6 (some .int) ∈ lw_g := lw_gm (List.mem_append_right _ (lw_t1 (i := 221) rfl)) rfl
theorem qM_X7_29 : Cond.methodLink RX7 29 yX7_brokenPlace ∈ lw_g := lw_gm (List.mem_append_right _ (lw_t1 (i := 222) rfl)) rfl
theorem qI_X7_brokenPlace : Cond.instanceMethod yX7_brokenPlace ∈ lw_g := lw_gm (List.mem_append_right _ (lw_t1 (i := 224) rfl)) rfl
theorem qC_X7_brokenPlace : Cond.code yX7_brokenPlace cX7_brokenPlace 6 (some .int) ∈ lw_g := lw_gm (List.mem_append_right _ (lw_t1 (i := 225) rfl)) rfl
theorem qM_X7_41 : Cond.methodLink RX7 41 yX7_sign ∈ lw_g := lw_gm (List.mem_append_right _ (lw_t1 (i := 226) rfl)) rfl
theorem qI_X7_sign : Cond.instanceMethod yX7_sign ∈ lw_g := lw_gm (List.mem_append_right _ (lw_t1 (i := 228) rfl)) rfl
theorem qC_X7_sign : Cond.code yX7_sign cX7_sign 2 (some .int) ∈ lw_g := lw_gm (List.mem_append_right _ (lw_t1 (i := 229) rfl)) rfl
theorem qM_X7_105 : Cond.methodLinkNest RX7 105 yX8_at RX8 ∈ lw_tbl := (List.mem_append_right _ (lw_t1 (i := 230) rfl))
theorem qM_X7_45 : Cond.methodLink RX7 45 yX7_digitsBehind ∈ lw_g := lw_gm (List.mem_append_right _ (lw_t1 (i := 231) rfl)) rfl
theorem qT_X7_digitsBehind : Cond.static yX7_digitsBehind ∈ lw_g := lw_gm (List.mem_append_right _ (lw_t1 (i := 232) rfl)) rfl
theorem qC_X7_digitsBehind : Cond.code yX7_digitsBehind cX7_digitsBehind 1 (some .int) ∈ lw_g := lw_gm (List.mem_append_right _ (lw_t1 (i := 233) rfl)) rfl
theorem qM_X7_48 : Cond.methodLink RX7 48 yX7_isDigit ∈ lw_g := lw_gm (List.mem_append_right _ (lw_t1 (i := 234) rfl)) rfl
theorem qI_X7_isDigit : Cond.instanceMethod yX7_isDigit ∈ lw_g := lw_gm (List.mem_append_right _ (lw_t1 (i := 236) rfl)) rfl
theorem qC_X7_isDigit : Cond.code yX7_isDigit cX7_isDigit 2 (some .boolean) ∈ lw_g := lw_gm (List.mem_append_right _ (lw_t1 (i := 237) rfl)) rfl
theorem qM_X7_33 : Cond.methodLink RX7 33 yX7_isRight ∈ lw_g := lw_gm (List.mem_append_right _ (lw_t1 (i := 238) rfl)) rfl
theorem qI_X7_isRight : Cond.instanceMethod yX7_isRight ∈ lw_g := lw_gm (List.mem_append_right _ (lw_t2 (i := 0) rfl)) rfl
theorem qC_X7_isRight : Cond.code yX7_isRight cX7_isRight 7 (some .boolean) ∈ lw_g := lw_gm (List.mem_append_right _ (lw_t2 (i := 1) rfl)) rfl
theorem qM_X7_52 : Cond.methodLink RX7 52 yX7_digit ∈ lw_g := lw_gm (List.mem_append_right _ (lw_t2 (i := 2) rfl)) rfl
theorem qI_X7_digit : Cond.instanceMethod yX7_digit ∈ lw_g := lw_gm (List.mem_append_right _ (lw_t2 (i := 4) rfl)) rfl
theorem qC_X7_digit : Cond.code yX7_digit cX7_digit 2 (some .int) ∈ lw_g := lw_gm (List.mem_append_right _ (lw_t2 (i := 5) rfl)) rfl
theorem qM_X7_55 : Cond.methodLink RX7 55 yX7_twoDigits ∈ lw_g := lw_gm (List.mem_append_right _ (lw_t2 (i := 6) rfl)) rfl
theorem qI_X7_twoDigits : Cond.instanceMethod yX7_twoDigits ∈ lw_g := lw_gm (List.mem_append_right _ (lw_t2 (i := 8) rfl)) rfl
theorem qC_X7_twoDigits : Cond.code yX7_twoDigits cX7_twoDigits 2 (some .int) ∈ lw_g := lw_gm (List.mem_append_right _ (lw_t2 (i := 9) rfl)) rfl
theorem qM_X7_58 : Cond.methodLinkNest RX7 58 yX8_isTown RX8 ∈ lw_tbl := (List.mem_append_right _ (lw_t2 (i := 10) rfl))
theorem qT_X8_isTown : Cond.static yX8_isTown ∈ lw_g := lw_gm (List.mem_append_right _ (lw_t2 (i := 11) rfl)) rfl
theorem qC_X8_isTown : Cond.code yX8_isTown cX8_isTown 1 (some .boolean) ∈ lw_g := lw_gm (List.mem_append_right _ (lw_t2 (i := 12) rfl)) rfl
theorem qM_X7_61 : Cond.methodLink RX7 61 yX1_hasKeeperRoom ∈ lw_g := lw_gm (List.mem_append_right _ (lw_t2 (i := 13) rfl)) rfl
theorem qI_X1_hasKeeperRoom : Cond.instanceMethod yX1_hasKeeperRoom ∈ lw_g := lw_gm (List.mem_append_right _ (lw_t2 (i := 14) rfl)) rfl
theorem qS_X1_hasKeeperRoom : Cond.selects RX1 yX1_hasKeeperRoom yX1_hasKeeperRoom ∈ lw_g := lw_gm (List.mem_append_right _ (lw_t2 (i := 15) rfl)) rfl
theorem qC_X1_hasKeeperRoom : Cond.code yX1_hasKeeperRoom cX1_hasKeeperRoom 1 (some .boolean) ∈ lw_g := lw_gm (List.mem_append_right _ (lw_t2 (i := 16) rfl)) rfl
theorem qM_X7_67 : Cond.methodLink RX7 67 yX1_areTwo ∈ lw_g := lw_gm (List.mem_append_right _ (lw_t2 (i := 17) rfl)) rfl
theorem qI_X1_areTwo : Cond.instanceMethod yX1_areTwo ∈ lw_g := lw_gm (List.mem_append_right _ (lw_t2 (i := 18) rfl)) rfl
theorem qS_X1_areTwo : Cond.selects RX1 yX1_areTwo yX1_areTwo ∈ lw_g := lw_gm (List.mem_append_right _ (lw_t2 (i := 19) rfl)) rfl
theorem qC_X1_areTwo : Cond.code yX1_areTwo cX1_areTwo 3 (some .boolean) ∈ lw_g := lw_gm (List.mem_append_right _ (lw_t2 (i := 20) rfl)) rfl
theorem qM_X1_62 : Cond.methodLink RX1 62 yX1_hasKeeper ∈ lw_g := lw_gm (List.mem_append_right _ (lw_t2 (i := 21) rfl)) rfl
theorem qI_X1_hasKeeper : Cond.instanceMethod yX1_hasKeeper ∈ lw_g := lw_gm (List.mem_append_right _ (lw_t2 (i := 22) rfl)) rfl
theorem qS_X1_hasKeeper : Cond.selects RX1 yX1_hasKeeper yX1_hasKeeper ∈ lw_g := lw_gm (List.mem_append_right _ (lw_t2 (i := 23) rfl)) rfl
theorem qC_X1_hasKeeper : Cond.code yX1_hasKeeper cX1_hasKeeper 2 (some .boolean) ∈ lw_g := lw_gm (List.mem_append_right _ (lw_t2 (i := 24) rfl)) rfl
theorem qM_X7_71 : Cond.methodLink RX7 71 yX1_hasLetterRoom ∈ lw_g := lw_gm (List.mem_append_right _ (lw_t2 (i := 25) rfl)) rfl
theorem qI_X1_hasLetterRoom : Cond.instanceMethod yX1_hasLetterRoom ∈ lw_g := lw_gm (List.mem_append_right _ (lw_t2 (i := 26) rfl)) rfl
theorem qS_X1_hasLetterRoom : Cond.selects RX1 yX1_hasLetterRoom yX1_hasLetterRoom ∈ lw_g := lw_gm (List.mem_append_right _ (lw_t2 (i := 27) rfl)) rfl
theorem qC_X1_hasLetterRoom : Cond.code yX1_hasLetterRoom cX1_hasLetterRoom 1 (some .boolean) ∈ lw_g := lw_gm (List.mem_append_right _ (lw_t2 (i := 28) rfl)) rfl
theorem qM_X7_74 : Cond.methodLink RX7 74 yX1_hasKeeper ∈ lw_g := lw_gm (List.mem_append_right _ (lw_t2 (i := 29) rfl)) rfl
theorem qM_X7_77 : Cond.methodLink RX7 77 yX1_hasLetter ∈ lw_g := lw_gm (List.mem_append_right _ (lw_t2 (i := 30) rfl)) rfl
theorem qI_X1_hasLetter : Cond.instanceMethod yX1_hasLetter ∈ lw_g := lw_gm (List.mem_append_right _ (lw_t2 (i := 31) rfl)) rfl
theorem qS_X1_hasLetter : Cond.selects RX1 yX1_hasLetter yX1_hasLetter ∈ lw_g := lw_gm (List.mem_append_right _ (lw_t2 (i := 32) rfl)) rfl
theorem qC_X1_hasLetter : Cond.code yX1_hasLetter cX1_hasLetter 2 (some .boolean) ∈ lw_g := lw_gm (List.mem_append_right _ (lw_t2 (i := 33) rfl)) rfl
theorem qM_X7_80 : Cond.methodLink RX7 80 yX1_weekNow ∈ lw_g := lw_gm (List.mem_append_right _ (lw_t2 (i := 34) rfl)) rfl
theorem qI_X1_weekNow : Cond.instanceMethod yX1_weekNow ∈ lw_g := lw_gm (List.mem_append_right _ (lw_t2 (i := 35) rfl)) rfl
theorem qS_X1_weekNow : Cond.selects RX1 yX1_weekNow yX1_weekNow ∈ lw_g := lw_gm (List.mem_append_right _ (lw_t2 (i := 36) rfl)) rfl
theorem qC_X1_weekNow : Cond.code yX1_weekNow cX1_weekNow 1 (some .int) ∈ lw_g := lw_gm (List.mem_append_right _ (lw_t2 (i := 37) rfl)) rfl
theorem qM_X7_37 : Cond.methodLink RX7 37 yX7_comes ∈ lw_g := lw_gm (List.mem_append_right _ (lw_t2 (i := 38) rfl)) rfl
theorem qI_X7_comes : Cond.instanceMethod yX7_comes ∈ lw_g := lw_gm (List.mem_append_right _ (lw_t2 (i := 40) rfl)) rfl
theorem qC_X7_comes : Cond.code yX7_comes cX7_comes 5 none ∈ lw_g := lw_gm (List.mem_append_right _ (lw_t2 (i := 41) rfl)) rfl
theorem qM_X7_83 : Cond.methodLink RX7 83 yX1_addKeeper ∈ lw_g := lw_gm (List.mem_append_right _ (lw_t2 (i := 42) rfl)) rfl
theorem qI_X1_addKeeper : Cond.instanceMethod yX1_addKeeper ∈ lw_g := lw_gm (List.mem_append_right _ (lw_t2 (i := 43) rfl)) rfl
theorem qS_X1_addKeeper : Cond.selects RX1 yX1_addKeeper yX1_addKeeper ∈ lw_g := lw_gm (List.mem_append_right _ (lw_t2 (i := 44) rfl)) rfl
theorem qC_X1_addKeeper : Cond.code yX1_addKeeper cX1_addKeeper 6 (some .int) ∈ lw_g := lw_gm (List.mem_append_right _ (lw_t2 (i := 45) rfl)) rfl
theorem qM_X1_96 : Cond.methodLinkNest RX1 96 yX8_put RX8 ∈ lw_tbl := (List.mem_append_right _ (lw_t2 (i := 46) rfl))
theorem qM_X1_100 : Cond.methodLink RX1 100 yX1_setHate ∈ lw_g := lw_gm (List.mem_append_right _ (lw_t2 (i := 47) rfl)) rfl
theorem qI_X1_setHate : Cond.instanceMethod yX1_setHate ∈ lw_g := lw_gm (List.mem_append_right _ (lw_t2 (i := 48) rfl)) rfl
theorem qS_X1_setHate : Cond.selects RX1 yX1_setHate yX1_setHate ∈ lw_g := lw_gm (List.mem_append_right _ (lw_t2 (i := 49) rfl)) rfl
theorem qC_X1_setHate : Cond.code yX1_setHate cX1_setHate 5 none ∈ lw_g := lw_gm (List.mem_append_right _ (lw_t2 (i := 50) rfl)) rfl
theorem qM_X1_85 : Cond.methodLink RX1 85 Lib.Math.min.name ∈ lw_g := lw_gm (List.mem_append_right _ (lw_t2 (i := 51) rfl)) rfl
theorem qM_X1_90 : Cond.methodLink RX1 90 Lib.Math.max.name ∈ lw_g := lw_gm (List.mem_append_right _ (lw_t2 (i := 52) rfl)) rfl
theorem qT_Lib_Math_max_name : Cond.static Lib.Math.max.name ∈ lw_g := lw_gm (List.mem_append_right _ (lw_t2 (i := 53) rfl)) rfl
theorem qC_Lib_Math_max_name : Cond.code Lib.Math.max.name Lib.Math.max.code 2 (some .int) ∈ lw_g := lw_gm (List.mem_append_right _ (lw_t2 (i := 54) rfl)) rfl
theorem qM_X7_87 : Cond.methodLink RX7 87 yX1_setHate ∈ lw_g := lw_gm (List.mem_append_right _ (lw_t2 (i := 55) rfl)) rfl
theorem qM_X7_91 : Cond.methodLink RX7 91 yX1_addLetter ∈ lw_g := lw_gm (List.mem_append_right _ (lw_t2 (i := 56) rfl)) rfl
theorem qI_X1_addLetter : Cond.instanceMethod yX1_addLetter ∈ lw_g := lw_gm (List.mem_append_right _ (lw_t2 (i := 57) rfl)) rfl
theorem qS_X1_addLetter : Cond.selects RX1 yX1_addLetter yX1_addLetter ∈ lw_g := lw_gm (List.mem_append_right _ (lw_t2 (i := 58) rfl)) rfl
theorem qC_X1_addLetter : Cond.code yX1_addLetter cX1_addLetter 4 (some .int) ∈ lw_g := lw_gm (List.mem_append_right _ (lw_t2 (i := 59) rfl)) rfl
theorem qM_X7_94 : Cond.methodLink RX7 94 yX1_move ∈ lw_g := lw_gm (List.mem_append_right _ (lw_t2 (i := 60) rfl)) rfl
theorem qI_X1_move : Cond.instanceMethod yX1_move ∈ lw_g := lw_gm (List.mem_append_right _ (lw_t2 (i := 61) rfl)) rfl
theorem qS_X1_move : Cond.selects RX1 yX1_move yX1_move ∈ lw_g := lw_gm (List.mem_append_right _ (lw_t2 (i := 62) rfl)) rfl
theorem qC_X1_move : Cond.code yX1_move cX1_move 3 none ∈ lw_g := lw_gm (List.mem_append_right _ (lw_t2 (i := 63) rfl)) rfl
theorem qM_X7_98 : Cond.methodLink RX7 98 yX1_turnSeal ∈ lw_g := lw_gm (List.mem_append_right _ (lw_t2 (i := 64) rfl)) rfl
theorem qI_X1_turnSeal : Cond.instanceMethod yX1_turnSeal ∈ lw_g := lw_gm (List.mem_append_right _ (lw_t2 (i := 65) rfl)) rfl
theorem qS_X1_turnSeal : Cond.selects RX1 yX1_turnSeal yX1_turnSeal ∈ lw_g := lw_gm (List.mem_append_right _ (lw_t2 (i := 66) rfl)) rfl
theorem qC_X1_turnSeal : Cond.code yX1_turnSeal cX1_turnSeal 2 none ∈ lw_g := lw_gm (List.mem_append_right _ (lw_t2 (i := 67) rfl)) rfl
theorem qM_X1_104 : Cond.methodLink RX1 104 yX1_hasLetter ∈ lw_g := lw_gm (List.mem_append_right _ (lw_t2 (i := 68) rfl)) rfl
theorem qM_X7_102 : Cond.methodLink RX7 102 yX1_passWeeks ∈ lw_g := lw_gm (List.mem_append_right _ (lw_t2 (i := 69) rfl)) rfl
theorem qI_X1_passWeeks : Cond.instanceMethod yX1_passWeeks ∈ lw_g := lw_gm (List.mem_append_right _ (lw_t2 (i := 70) rfl)) rfl
theorem qS_X1_passWeeks : Cond.selects RX1 yX1_passWeeks yX1_passWeeks ∈ lw_g := lw_gm (List.mem_append_right _ (lw_t2 (i := 71) rfl)) rfl
theorem qC_X1_passWeeks : Cond.code yX1_passWeeks cX1_passWeeks 3 (some .int) ∈ lw_g := lw_gm (List.mem_append_right _ (lw_t2 (i := 72) rfl)) rfl
theorem qM_X1_114 : Cond.methodLink RX1 114 yX1_passWeek ∈ lw_g := lw_gm (List.mem_append_right _ (lw_t2 (i := 73) rfl)) rfl
theorem qI_X1_passWeek : Cond.instanceMethod yX1_passWeek ∈ lw_g := lw_gm (List.mem_append_right _ (lw_t2 (i := 74) rfl)) rfl
theorem qS_X1_passWeek : Cond.selects RX1 yX1_passWeek yX1_passWeek ∈ lw_g := lw_gm (List.mem_append_right _ (lw_t2 (i := 75) rfl)) rfl
theorem qC_X1_passWeek : Cond.code yX1_passWeek cX1_passWeek 4 (some .int) ∈ lw_g := lw_gm (List.mem_append_right _ (lw_t2 (i := 76) rfl)) rfl
theorem qM_X1_93 : Cond.methodLink RX1 93 yX1_hateOf ∈ lw_g := lw_gm (List.mem_append_right _ (lw_t2 (i := 77) rfl)) rfl
theorem qI_X1_hateOf : Cond.instanceMethod yX1_hateOf ∈ lw_g := lw_gm (List.mem_append_right _ (lw_t2 (i := 78) rfl)) rfl
theorem qS_X1_hateOf : Cond.selects RX1 yX1_hateOf yX1_hateOf ∈ lw_g := lw_gm (List.mem_append_right _ (lw_t2 (i := 79) rfl)) rfl
theorem qC_X1_hateOf : Cond.code yX1_hateOf cX1_hateOf 3 (some .int) ∈ lw_g := lw_gm (List.mem_append_right _ (lw_t2 (i := 80) rfl)) rfl
theorem qM_X1_66 : Cond.methodLinkNest RX1 66 yX8_at RX8 ∈ lw_tbl := (List.mem_append_right _ (lw_t2 (i := 81) rfl))
theorem qM_X1_121 : Cond.methodLink RX1 121 yX1_change ∈ lw_g := lw_gm (List.mem_append_right _ (lw_t2 (i := 82) rfl)) rfl
theorem qI_X1_change : Cond.instanceMethod yX1_change ∈ lw_g := lw_gm (List.mem_append_right _ (lw_t2 (i := 84) rfl)) rfl
theorem qC_X1_change : Cond.code yX1_change cX1_change 5 (some .int) ∈ lw_g := lw_gm (List.mem_append_right _ (lw_t2 (i := 85) rfl)) rfl
theorem qM_X1_130 : Cond.methodLink RX1 130 yX1_fadeOf ∈ lw_g := lw_gm (List.mem_append_right _ (lw_t2 (i := 86) rfl)) rfl
theorem qI_X1_fadeOf : Cond.instanceMethod yX1_fadeOf ∈ lw_g := lw_gm (List.mem_append_right _ (lw_t2 (i := 87) rfl)) rfl
theorem qS_X1_fadeOf : Cond.selects RX1 yX1_fadeOf yX1_fadeOf ∈ lw_g := lw_gm (List.mem_append_right _ (lw_t2 (i := 88) rfl)) rfl
theorem qC_X1_fadeOf : Cond.code yX1_fadeOf cX1_fadeOf 2 (some .int) ∈ lw_g := lw_gm (List.mem_append_right _ (lw_t2 (i := 89) rfl)) rfl
theorem qM_X1_70 : Cond.methodLink RX1 70 yX2_fading ∈ lw_g := lw_gm (List.mem_append_right _ (lw_t2 (i := 90) rfl)) rfl
theorem qT_X2_fading : Cond.static yX2_fading ∈ lw_g := lw_gm (List.mem_append_right _ (lw_t2 (i := 91) rfl)) rfl
theorem qC_X2_fading : Cond.code yX2_fading cX2_fading 2 (some .int) ∈ lw_g := lw_gm (List.mem_append_right _ (lw_t2 (i := 92) rfl)) rfl
theorem qM_X1_133 : Cond.methodLink RX1 133 yX1_stirOf ∈ lw_g := lw_gm (List.mem_append_right _ (lw_t2 (i := 93) rfl)) rfl
theorem qI_X1_stirOf : Cond.instanceMethod yX1_stirOf ∈ lw_g := lw_gm (List.mem_append_right _ (lw_t2 (i := 94) rfl)) rfl
theorem qS_X1_stirOf : Cond.selects RX1 yX1_stirOf yX1_stirOf ∈ lw_g := lw_gm (List.mem_append_right _ (lw_t2 (i := 95) rfl)) rfl
theorem qC_X1_stirOf : Cond.code yX1_stirOf cX1_stirOf 2 (some .int) ∈ lw_g := lw_gm (List.mem_append_right _ (lw_t2 (i := 96) rfl)) rfl
theorem qM_X1_76 : Cond.methodLink RX1 76 yX2_stirring ∈ lw_g := lw_gm (List.mem_append_right _ (lw_t2 (i := 97) rfl)) rfl
theorem qT_X2_stirring : Cond.static yX2_stirring ∈ lw_g := lw_gm (List.mem_append_right _ (lw_t2 (i := 98) rfl)) rfl
theorem qC_X2_stirring : Cond.code yX2_stirring cX2_stirring 2 (some .int) ∈ lw_g := lw_gm (List.mem_append_right _ (lw_t2 (i := 99) rfl)) rfl
theorem qM_X1_124 : Cond.methodLink RX1 124 yX1_isOpen ∈ lw_g := lw_gm (List.mem_append_right _ (lw_t2 (i := 100) rfl)) rfl
theorem qI_X1_isOpen : Cond.instanceMethod yX1_isOpen ∈ lw_g := lw_gm (List.mem_append_right _ (lw_t2 (i := 101) rfl)) rfl
theorem qS_X1_isOpen : Cond.selects RX1 yX1_isOpen yX1_isOpen ∈ lw_g := lw_gm (List.mem_append_right _ (lw_t2 (i := 102) rfl)) rfl
theorem qC_X1_isOpen : Cond.code yX1_isOpen cX1_isOpen 2 (some .boolean) ∈ lw_g := lw_gm (List.mem_append_right _ (lw_t2 (i := 103) rfl)) rfl
theorem qM_X1_82 : Cond.methodLinkNest RX1 82 yX8_bit RX8 ∈ lw_tbl := (List.mem_append_right _ (lw_t2 (i := 104) rfl))
theorem qT_X8_bit : Cond.static yX8_bit ∈ lw_g := lw_gm (List.mem_append_right _ (lw_t2 (i := 105) rfl)) rfl
theorem qC_X8_bit : Cond.code yX8_bit cX8_bit 2 (some .int) ∈ lw_g := lw_gm (List.mem_append_right _ (lw_t2 (i := 106) rfl)) rfl
theorem qM_X1_127 : Cond.methodLink RX1 127 yX1_opener ∈ lw_g := lw_gm (List.mem_append_right _ (lw_t2 (i := 107) rfl)) rfl
theorem qI_X1_opener : Cond.instanceMethod yX1_opener ∈ lw_g := lw_gm (List.mem_append_right _ (lw_t2 (i := 108) rfl)) rfl
theorem qS_X1_opener : Cond.selects RX1 yX1_opener yX1_opener ∈ lw_g := lw_gm (List.mem_append_right _ (lw_t2 (i := 109) rfl)) rfl
theorem qC_X1_opener : Cond.code yX1_opener cX1_opener 9 (some .int) ∈ lw_g := lw_gm (List.mem_append_right _ (lw_t2 (i := 110) rfl)) rfl
theorem qM_X1_107 : Cond.methodLink RX1 107 yX1_areBothIn ∈ lw_g := lw_gm (List.mem_append_right _ (lw_t2 (i := 111) rfl)) rfl
theorem qI_X1_areBothIn : Cond.instanceMethod yX1_areBothIn ∈ lw_g := lw_gm (List.mem_append_right _ (lw_t2 (i := 112) rfl)) rfl
theorem qS_X1_areBothIn : Cond.selects RX1 yX1_areBothIn yX1_areBothIn ∈ lw_g := lw_gm (List.mem_append_right _ (lw_t2 (i := 113) rfl)) rfl
theorem qC_X1_areBothIn : Cond.code yX1_areBothIn cX1_areBothIn 4 (some .boolean) ∈ lw_g := lw_gm (List.mem_append_right _ (lw_t2 (i := 114) rfl)) rfl
theorem qM_X1_111 : Cond.methodLinkNest RX1 111 yX8_twoName RX8 ∈ lw_tbl := (List.mem_append_right _ (lw_t2 (i := 115) rfl))
theorem qT_X8_twoName : Cond.static yX8_twoName ∈ lw_g := lw_gm (List.mem_append_right _ (lw_t2 (i := 116) rfl)) rfl
theorem qC_X8_twoName : Cond.code yX8_twoName cX8_twoName 2 (some .int) ∈ lw_g := lw_gm (List.mem_append_right _ (lw_t2 (i := 117) rfl)) rfl
theorem qM_X8_338 : Cond.methodLink RX8 338 Lib.Math.max.name ∈ lw_g := lw_gm (List.mem_append_right _ (lw_t2 (i := 118) rfl)) rfl
theorem qM_X1_118 : Cond.methodLink RX1 118 yX1_openCount ∈ lw_g := lw_gm (List.mem_append_right _ (lw_t2 (i := 119) rfl)) rfl
theorem qI_X1_openCount : Cond.instanceMethod yX1_openCount ∈ lw_g := lw_gm (List.mem_append_right _ (lw_t2 (i := 120) rfl)) rfl
theorem qS_X1_openCount : Cond.selects RX1 yX1_openCount yX1_openCount ∈ lw_g := lw_gm (List.mem_append_right _ (lw_t2 (i := 121) rfl)) rfl
theorem qC_X1_openCount : Cond.code yX1_openCount cX1_openCount 1 (some .int) ∈ lw_g := lw_gm (List.mem_append_right _ (lw_t2 (i := 122) rfl)) rfl
theorem qM_X1_56 : Cond.methodLink RX1 56 yJ6_bitCount_0f7a4 ∈ lw_g := lw_gm (List.mem_append_right _ (lw_t2 (i := 123) rfl)) rfl
theorem qT_J6_bitCount_0f7a4 : Cond.static yJ6_bitCount_0f7a4 ∈ lw_g := lw_gm (List.mem_append_right _ (lw_t2 (i := 124) rfl)) rfl
theorem qC_J6_bitCount_0f7a4 : Cond.code yJ6_bitCount_0f7a4 cJ6_bitCount_0f7a4 1 (some .int) ∈ lw_g := lw_gm (List.mem_append_right _ (lw_t2 (i := 125) rfl)) rfl
theorem qK_J6_265 : Cond.constant RJ6 265 (1431655765) ∈ lw_g := lw_gm (List.mem_append_right _ (lw_t2 (i := 126) rfl)) rfl
theorem qK_J6_266 : Cond.constant RJ6 266 (858993459) ∈ lw_g := lw_gm (List.mem_append_right _ (lw_t2 (i := 127) rfl)) rfl
theorem qK_J6_267 : Cond.constant RJ6 267 (252645135) ∈ lw_g := lw_gm (List.mem_append_right _ (lw_t2 (i := 128) rfl)) rfl
theorem qM_X8_88 : Cond.methodLink RX8 88 yX7_empty ∈ lw_g := lw_gm (List.mem_append_right _ (lw_t2 (i := 129) rfl)) rfl
theorem qI_X7_empty : Cond.instanceMethod yX7_empty ∈ lw_g := lw_gm (List.mem_append_right _ (lw_t2 (i := 130) rfl)) rfl
theorem qS_X7_empty : Cond.selects RX7 yX7_empty yX7_empty ∈ lw_g := lw_gm (List.mem_append_right _ (lw_t2 (i := 131) rfl)) rfl
theorem qC_X7_empty : Cond.code yX7_empty cX7_empty 1 none ∈ lw_g := lw_gm (List.mem_append_right _ (lw_t2 (i := 132) rfl)) rfl
theorem qM_X8_91 : Cond.methodLink RX8 91 yX5_forget ∈ lw_g := lw_gm (List.mem_append_right _ (lw_t2 (i := 133) rfl)) rfl
theorem qI_X5_forget : Cond.instanceMethod yX5_forget ∈ lw_g := lw_gm (List.mem_append_right _ (lw_t2 (i := 134) rfl)) rfl
theorem qS_X5_forget : Cond.selects RX5 yX5_forget yX5_forget ∈ lw_g := lw_gm (List.mem_append_right _ (lw_t2 (i := 135) rfl)) rfl
theorem qC_X5_forget : Cond.code yX5_forget cX5_forget 1 none ∈ lw_g := lw_gm (List.mem_append_right _ (lw_t2 (i := 136) rfl)) rfl
theorem qM_L_23 : Cond.methodLink RL 23 yX8_keeperOf ∈ lw_g := lw_gm (List.mem_append_right _ (lw_t2 (i := 137) rfl)) rfl
theorem qI_X8_keeperOf : Cond.instanceMethod yX8_keeperOf ∈ lw_g := lw_gm (List.mem_append_right _ (lw_t2 (i := 138) rfl)) rfl
theorem qS_X8_keeperOf : Cond.selects RX8 yX8_keeperOf yX8_keeperOf ∈ lw_g := lw_gm (List.mem_append_right _ (lw_t2 (i := 139) rfl)) rfl
theorem qC_X8_keeperOf : Cond.code yX8_keeperOf cX8_keeperOf 4 (some .int) ∈ lw_g := lw_gm (List.mem_append_right _ (lw_t2 (i := 140) rfl)) rfl
theorem qM_X8_94 : Cond.methodLink RX8 94 yX8_keeperRefusal ∈ lw_g := lw_gm (List.mem_append_right _ (lw_t2 (i := 141) rfl)) rfl
theorem qI_X8_keeperRefusal : Cond.instanceMethod yX8_keeperRefusal ∈ lw_g := lw_gm (List.mem_append_right _ (lw_t2 (i := 143) rfl)) rfl
theorem qC_X8_keeperRefusal : Cond.code yX8_keeperRefusal cX8_keeperRefusal 2 (some .int) ∈ lw_g := lw_gm (List.mem_append_right _ (lw_t2 (i := 144) rfl)) rfl
theorem qM_X8_347 : Cond.methodLink RX8 347 yX1_hasKeeper ∈ lw_g := lw_gm (List.mem_append_right _ (lw_t2 (i := 145) rfl)) rfl
theorem qM_X8_97 : Cond.methodLink RX8 97 yX8_choice ∈ lw_g := lw_gm (List.mem_append_right _ (lw_t2 (i := 146) rfl)) rfl
theorem qT_X8_choice : Cond.static yX8_choice ∈ lw_g := lw_gm (List.mem_append_right _ (lw_t2 (i := 147) rfl)) rfl
theorem qC_X8_choice : Cond.code yX8_choice cX8_choice 2 (some .int) ∈ lw_g := lw_gm (List.mem_append_right _ (lw_t2 (i := 148) rfl)) rfl
theorem qM_X8_101 : Cond.methodLink RX8 101 yX1_kindOf ∈ lw_g := lw_gm (List.mem_append_right _ (lw_t2 (i := 149) rfl)) rfl
theorem qI_X1_kindOf : Cond.instanceMethod yX1_kindOf ∈ lw_g := lw_gm (List.mem_append_right _ (lw_t2 (i := 150) rfl)) rfl
theorem qS_X1_kindOf : Cond.selects RX1 yX1_kindOf yX1_kindOf ∈ lw_g := lw_gm (List.mem_append_right _ (lw_t2 (i := 151) rfl)) rfl
theorem qC_X1_kindOf : Cond.code yX1_kindOf cX1_kindOf 2 (some .int) ∈ lw_g := lw_gm (List.mem_append_right _ (lw_t2 (i := 152) rfl)) rfl
theorem qM_X8_104 : Cond.methodLink RX8 104 yX1_figureOf ∈ lw_g := lw_gm (List.mem_append_right _ (lw_t2 (i := 153) rfl)) rfl
theorem qI_X1_figureOf : Cond.instanceMethod yX1_figureOf ∈ lw_g := lw_gm (List.mem_append_right _ (lw_t2 (i := 154) rfl)) rfl
theorem qS_X1_figureOf : Cond.selects RX1 yX1_figureOf yX1_figureOf ∈ lw_g := lw_gm (List.mem_append_right _ (lw_t2 (i := 155) rfl)) rfl
theorem qC_X1_figureOf : Cond.code yX1_figureOf cX1_figureOf 2 (some .int) ∈ lw_g := lw_gm (List.mem_append_right _ (lw_t2 (i := 156) rfl)) rfl
theorem qM_X8_107 : Cond.methodLink RX8 107 yX1_townOf ∈ lw_g := lw_gm (List.mem_append_right _ (lw_t2 (i := 157) rfl)) rfl
theorem qI_X1_townOf : Cond.instanceMethod yX1_townOf ∈ lw_g := lw_gm (List.mem_append_right _ (lw_t2 (i := 158) rfl)) rfl
theorem qS_X1_townOf : Cond.selects RX1 yX1_townOf yX1_townOf ∈ lw_g := lw_gm (List.mem_append_right _ (lw_t2 (i := 159) rfl)) rfl
theorem qC_X1_townOf : Cond.code yX1_townOf cX1_townOf 2 (some .int) ∈ lw_g := lw_gm (List.mem_append_right _ (lw_t2 (i := 160) rfl)) rfl
theorem qM_X8_110 : Cond.methodLink RX8 110 yX1_fadeOf ∈ lw_g := lw_gm (List.mem_append_right _ (lw_t2 (i := 161) rfl)) rfl
theorem qM_X8_113 : Cond.methodLink RX8 113 yX1_stirOf ∈ lw_g := lw_gm (List.mem_append_right _ (lw_t2 (i := 162) rfl)) rfl
theorem qM_X8_116 : Cond.methodLink RX8 116 yX1_wageOf ∈ lw_g := lw_gm (List.mem_append_right _ (lw_t2 (i := 163) rfl)) rfl
theorem qI_X1_wageOf : Cond.instanceMethod yX1_wageOf ∈ lw_g := lw_gm (List.mem_append_right _ (lw_t2 (i := 164) rfl)) rfl
theorem qS_X1_wageOf : Cond.selects RX1 yX1_wageOf yX1_wageOf ∈ lw_g := lw_gm (List.mem_append_right _ (lw_t2 (i := 165) rfl)) rfl
theorem qC_X1_wageOf : Cond.code yX1_wageOf cX1_wageOf 2 (some .int) ∈ lw_g := lw_gm (List.mem_append_right _ (lw_t2 (i := 166) rfl)) rfl
theorem qM_X1_79 : Cond.methodLink RX1 79 yX2_wage ∈ lw_g := lw_gm (List.mem_append_right _ (lw_t2 (i := 167) rfl)) rfl
theorem qT_X2_wage : Cond.static yX2_wage ∈ lw_g := lw_gm (List.mem_append_right _ (lw_t2 (i := 168) rfl)) rfl
theorem qC_X2_wage : Cond.code yX2_wage cX2_wage 4 (some .int) ∈ lw_g := lw_gm (List.mem_append_right _ (lw_t2 (i := 169) rfl)) rfl
theorem qM_L_28 : Cond.methodLink RL 28 yX8_letterOf ∈ lw_g := lw_gm (List.mem_append_right _ (lw_t2 (i := 170) rfl)) rfl
theorem qI_X8_letterOf : Cond.instanceMethod yX8_letterOf ∈ lw_g := lw_gm (List.mem_append_right _ (lw_t2 (i := 171) rfl)) rfl
theorem qS_X8_letterOf : Cond.selects RX8 yX8_letterOf yX8_letterOf ∈ lw_g := lw_gm (List.mem_append_right _ (lw_t2 (i := 172) rfl)) rfl
theorem qC_X8_letterOf : Cond.code yX8_letterOf cX8_letterOf 4 (some .int) ∈ lw_g := lw_gm (List.mem_append_right _ (lw_t2 (i := 173) rfl)) rfl
theorem qM_X8_119 : Cond.methodLink RX8 119 yX8_letterRefusal ∈ lw_g := lw_gm (List.mem_append_right _ (lw_t2 (i := 174) rfl)) rfl
theorem qI_X8_letterRefusal : Cond.instanceMethod yX8_letterRefusal ∈ lw_g := lw_gm (List.mem_append_right _ (lw_t2 (i := 176) rfl)) rfl
theorem qC_X8_letterRefusal : Cond.code yX8_letterRefusal cX8_letterRefusal 2 (some .int) ∈ lw_g := lw_gm (List.mem_append_right _ (lw_t2 (i := 177) rfl)) rfl
theorem qM_X8_350 : Cond.methodLink RX8 350 yX1_hasLetter ∈ lw_g := lw_gm (List.mem_append_right _ (lw_t2 (i := 178) rfl)) rfl
theorem qM_X8_122 : Cond.methodLink RX8 122 yX1_depthOf ∈ lw_g := lw_gm (List.mem_append_right _ (lw_t2 (i := 179) rfl)) rfl
theorem qI_X1_depthOf : Cond.instanceMethod yX1_depthOf ∈ lw_g := lw_gm (List.mem_append_right _ (lw_t2 (i := 180) rfl)) rfl
theorem qS_X1_depthOf : Cond.selects RX1 yX1_depthOf yX1_depthOf ∈ lw_g := lw_gm (List.mem_append_right _ (lw_t2 (i := 181) rfl)) rfl
theorem qC_X1_depthOf : Cond.code yX1_depthOf cX1_depthOf 2 (some .int) ∈ lw_g := lw_gm (List.mem_append_right _ (lw_t2 (i := 182) rfl)) rfl
theorem qM_X8_125 : Cond.methodLink RX8 125 yX1_letterTownOf ∈ lw_g := lw_gm (List.mem_append_right _ (lw_t2 (i := 183) rfl)) rfl
theorem qI_X1_letterTownOf : Cond.instanceMethod yX1_letterTownOf ∈ lw_g := lw_gm (List.mem_append_right _ (lw_t2 (i := 184) rfl)) rfl
theorem qS_X1_letterTownOf : Cond.selects RX1 yX1_letterTownOf yX1_letterTownOf ∈ lw_g := lw_gm (List.mem_append_right _ (lw_t2 (i := 185) rfl)) rfl
theorem qC_X1_letterTownOf : Cond.code yX1_letterTownOf cX1_letterTownOf 2 (some .int) ∈ lw_g := lw_gm (List.mem_append_right _ (lw_t2 (i := 186) rfl)) rfl
theorem qM_X8_128 : Cond.methodLink RX8 128 yX1_isOpen ∈ lw_g := lw_gm (List.mem_append_right _ (lw_t2 (i := 187) rfl)) rfl
theorem qM_X8_132 : Cond.methodLink RX8 132 yX1_opener ∈ lw_g := lw_gm (List.mem_append_right _ (lw_t2 (i := 188) rfl)) rfl
theorem qM_L_32 : Cond.methodLink RL 32 yX8_hate ∈ lw_g := lw_gm (List.mem_append_right _ (lw_t2 (i := 189) rfl)) rfl
theorem qI_X8_hate : Cond.instanceMethod yX8_hate ∈ lw_g := lw_gm (List.mem_append_right _ (lw_t2 (i := 190) rfl)) rfl
theorem qS_X8_hate : Cond.selects RX8 yX8_hate yX8_hate ∈ lw_g := lw_gm (List.mem_append_right _ (lw_t2 (i := 191) rfl)) rfl
theorem qC_X8_hate : Cond.code yX8_hate cX8_hate 4 (some .int) ∈ lw_g := lw_gm (List.mem_append_right _ (lw_t2 (i := 192) rfl)) rfl
theorem qM_X8_135 : Cond.methodLink RX8 135 yX8_twoRefusal ∈ lw_g := lw_gm (List.mem_append_right _ (lw_t2 (i := 193) rfl)) rfl
theorem qI_X8_twoRefusal : Cond.instanceMethod yX8_twoRefusal ∈ lw_g := lw_gm (List.mem_append_right _ (lw_t2 (i := 195) rfl)) rfl
theorem qC_X8_twoRefusal : Cond.code yX8_twoRefusal cX8_twoRefusal 3 (some .int) ∈ lw_g := lw_gm (List.mem_append_right _ (lw_t2 (i := 196) rfl)) rfl
theorem qM_X8_353 : Cond.methodLink RX8 353 yX1_areTwo ∈ lw_g := lw_gm (List.mem_append_right _ (lw_t2 (i := 197) rfl)) rfl
theorem qM_X8_138 : Cond.methodLink RX8 138 yX1_hateOf ∈ lw_g := lw_gm (List.mem_append_right _ (lw_t2 (i := 198) rfl)) rfl
theorem qM_L_205 : Cond.methodLink RL 205 yX8_count ∈ lw_g := lw_gm (List.mem_append_right _ (lw_t2 (i := 199) rfl)) rfl
theorem qI_X8_count : Cond.instanceMethod yX8_count ∈ lw_g := lw_gm (List.mem_append_right _ (lw_t2 (i := 200) rfl)) rfl
theorem qS_X8_count : Cond.selects RX8 yX8_count yX8_count ∈ lw_g := lw_gm (List.mem_append_right _ (lw_t2 (i := 201) rfl)) rfl
theorem qC_X8_count : Cond.code yX8_count cX8_count 2 (some .int) ∈ lw_g := lw_gm (List.mem_append_right _ (lw_t2 (i := 202) rfl)) rfl
theorem qM_X8_141 : Cond.methodLink RX8 141 yX1_keeperCount ∈ lw_g := lw_gm (List.mem_append_right _ (lw_t2 (i := 203) rfl)) rfl
theorem qI_X1_keeperCount : Cond.instanceMethod yX1_keeperCount ∈ lw_g := lw_gm (List.mem_append_right _ (lw_t2 (i := 204) rfl)) rfl
theorem qS_X1_keeperCount : Cond.selects RX1 yX1_keeperCount yX1_keeperCount ∈ lw_g := lw_gm (List.mem_append_right _ (lw_t2 (i := 205) rfl)) rfl
theorem qC_X1_keeperCount : Cond.code yX1_keeperCount cX1_keeperCount 1 (some .int) ∈ lw_g := lw_gm (List.mem_append_right _ (lw_t2 (i := 206) rfl)) rfl
theorem qM_X8_145 : Cond.methodLink RX8 145 yX1_letterCount ∈ lw_g := lw_gm (List.mem_append_right _ (lw_t2 (i := 207) rfl)) rfl
theorem qI_X1_letterCount : Cond.instanceMethod yX1_letterCount ∈ lw_g := lw_gm (List.mem_append_right _ (lw_t2 (i := 208) rfl)) rfl
theorem qS_X1_letterCount : Cond.selects RX1 yX1_letterCount yX1_letterCount ∈ lw_g := lw_gm (List.mem_append_right _ (lw_t2 (i := 209) rfl)) rfl
theorem qC_X1_letterCount : Cond.code yX1_letterCount cX1_letterCount 1 (some .int) ∈ lw_g := lw_gm (List.mem_append_right _ (lw_t2 (i := 210) rfl)) rfl
theorem qM_X8_148 : Cond.methodLink RX8 148 yX1_weekNow ∈ lw_g := lw_gm (List.mem_append_right _ (lw_t2 (i := 211) rfl)) rfl
theorem qM_X8_151 : Cond.methodLink RX8 151 yX1_openBits ∈ lw_g := lw_gm (List.mem_append_right _ (lw_t2 (i := 212) rfl)) rfl
theorem qI_X1_openBits : Cond.instanceMethod yX1_openBits ∈ lw_g := lw_gm (List.mem_append_right _ (lw_t2 (i := 213) rfl)) rfl
theorem qS_X1_openBits : Cond.selects RX1 yX1_openBits yX1_openBits ∈ lw_g := lw_gm (List.mem_append_right _ (lw_t2 (i := 214) rfl)) rfl
theorem qC_X1_openBits : Cond.code yX1_openBits cX1_openBits 1 (some .int) ∈ lw_g := lw_gm (List.mem_append_right _ (lw_t2 (i := 215) rfl)) rfl
theorem qM_X8_154 : Cond.methodLink RX8 154 yX1_allHate ∈ lw_g := lw_gm (List.mem_append_right _ (lw_t2 (i := 216) rfl)) rfl
theorem qI_X1_allHate : Cond.instanceMethod yX1_allHate ∈ lw_g := lw_gm (List.mem_append_right _ (lw_t2 (i := 217) rfl)) rfl
theorem qS_X1_allHate : Cond.selects RX1 yX1_allHate yX1_allHate ∈ lw_g := lw_gm (List.mem_append_right _ (lw_t2 (i := 218) rfl)) rfl
theorem qC_X1_allHate : Cond.code yX1_allHate cX1_allHate 4 (some .int) ∈ lw_g := lw_gm (List.mem_append_right _ (lw_t2 (i := 219) rfl)) rfl
theorem qM_X8_157 : Cond.methodLink RX8 157 yX7_size ∈ lw_g := lw_gm (List.mem_append_right _ (lw_t2 (i := 220) rfl)) rfl
theorem qI_X7_size : Cond.instanceMethod yX7_size ∈ lw_g := lw_gm (List.mem_append_right _ (lw_t2 (i := 221) rfl)) rfl
theorem qS_X7_size : Cond.selects RX7 yX7_size yX7_size ∈ lw_g := lw_gm (List.mem_append_right _ (lw_t2 (i := 222) rfl)) rfl
theorem qC_X7_size : Cond.code yX7_size cX7_size 1 (some .int) ∈ lw_g := lw_gm (List.mem_append_right _ (lw_t2 (i := 223) rfl)) rfl
theorem qM_X8_160 : Cond.methodLink RX8 160 yX6_size ∈ lw_g := lw_gm (List.mem_append_right _ (lw_t2 (i := 224) rfl)) rfl
theorem qI_X6_size : Cond.instanceMethod yX6_size ∈ lw_g := lw_gm (List.mem_append_right _ (lw_t2 (i := 225) rfl)) rfl
theorem qS_X6_size : Cond.selects RX6 yX6_size yX6_size ∈ lw_g := lw_gm (List.mem_append_right _ (lw_t2 (i := 226) rfl)) rfl
theorem qC_X6_size : Cond.code yX6_size cX6_size 1 (some .int) ∈ lw_g := lw_gm (List.mem_append_right _ (lw_t2 (i := 227) rfl)) rfl
theorem qM_X8_161 : Cond.methodLink RX8 161 yX5_size ∈ lw_g := lw_gm (List.mem_append_right _ (lw_t2 (i := 228) rfl)) rfl
theorem qI_X5_size : Cond.instanceMethod yX5_size ∈ lw_g := lw_gm (List.mem_append_right _ (lw_t2 (i := 229) rfl)) rfl
theorem qS_X5_size : Cond.selects RX5 yX5_size yX5_size ∈ lw_g := lw_gm (List.mem_append_right _ (lw_t2 (i := 230) rfl)) rfl
theorem qC_X5_size : Cond.code yX5_size cX5_size 1 (some .int) ∈ lw_g := lw_gm (List.mem_append_right _ (lw_t2 (i := 231) rfl)) rfl
theorem qM_L_36 : Cond.methodLink RL 36 yX8_keeper ∈ lw_g := lw_gm (List.mem_append_right _ (lw_t2 (i := 232) rfl)) rfl
theorem qI_X8_keeper : Cond.instanceMethod yX8_keeper ∈ lw_g := lw_gm (List.mem_append_right _ (lw_t2 (i := 233) rfl)) rfl
theorem qS_X8_keeper : Cond.selects RX8 yX8_keeper yX8_keeper ∈ lw_g := lw_gm (List.mem_append_right _ (lw_t2 (i := 234) rfl)) rfl
theorem qC_X8_keeper : Cond.code yX8_keeper cX8_keeper 6 (some .int) ∈ lw_g := lw_gm (List.mem_append_right _ (lw_t2 (i := 235) rfl)) rfl
theorem qM_X8_166 : Cond.methodLink RX8 166 yX1_hasKeeperRoom ∈ lw_g := lw_gm (List.mem_append_right _ (lw_t2 (i := 236) rfl)) rfl
theorem qM_X8_169 : Cond.methodLink RX8 169 yX8_townRefusal ∈ lw_g := lw_gm (List.mem_append_right _ (lw_t2 (i := 237) rfl)) rfl
theorem qT_X8_townRefusal : Cond.static yX8_townRefusal ∈ lw_g := lw_gm (List.mem_append_right _ (lw_t2 (i := 238) rfl)) rfl
theorem qC_X8_townRefusal : Cond.code yX8_townRefusal cX8_townRefusal 1 (some .int) ∈ lw_g := lw_gm (List.mem_append_right _ (lw_t2 (i := 239) rfl)) rfl
theorem qM_X8_357 : Cond.methodLink RX8 357 yX8_isTown ∈ lw_g := lw_gm (List.mem_append_right _ (lw_t3 (i := 0) rfl)) rfl
theorem qM_X8_172 : Cond.methodLink RX8 172 yX1_addKeeper ∈ lw_g := lw_gm (List.mem_append_right _ (lw_t3 (i := 1) rfl)) rfl
theorem qM_L_41 : Cond.methodLink RL 41 yX8_letter ∈ lw_g := lw_gm (List.mem_append_right _ (lw_t3 (i := 2) rfl)) rfl
theorem qI_X8_letter : Cond.instanceMethod yX8_letter ∈ lw_g := lw_gm (List.mem_append_right _ (lw_t3 (i := 3) rfl)) rfl
theorem qS_X8_letter : Cond.selects RX8 yX8_letter yX8_letter ∈ lw_g := lw_gm (List.mem_append_right _ (lw_t3 (i := 4) rfl)) rfl
theorem qC_X8_letter : Cond.code yX8_letter cX8_letter 5 (some .int) ∈ lw_g := lw_gm (List.mem_append_right _ (lw_t3 (i := 5) rfl)) rfl
theorem qM_X8_175 : Cond.methodLink RX8 175 yX1_hasLetterRoom ∈ lw_g := lw_gm (List.mem_append_right _ (lw_t3 (i := 6) rfl)) rfl
theorem qM_X8_178 : Cond.methodLink RX8 178 yX1_addLetter ∈ lw_g := lw_gm (List.mem_append_right _ (lw_t3 (i := 7) rfl)) rfl
theorem qM_L_45 : Cond.methodLink RL 45 yX8_hates ∈ lw_g := lw_gm (List.mem_append_right _ (lw_t3 (i := 8) rfl)) rfl
theorem qI_X8_hates : Cond.instanceMethod yX8_hates ∈ lw_g := lw_gm (List.mem_append_right _ (lw_t3 (i := 9) rfl)) rfl
theorem qS_X8_hates : Cond.selects RX8 yX8_hates yX8_hates ∈ lw_g := lw_gm (List.mem_append_right _ (lw_t3 (i := 10) rfl)) rfl
theorem qC_X8_hates : Cond.code yX8_hates cX8_hates 6 (some .int) ∈ lw_g := lw_gm (List.mem_append_right _ (lw_t3 (i := 11) rfl)) rfl
theorem qM_X8_181 : Cond.methodLink RX8 181 yX5_remember ∈ lw_g := lw_gm (List.mem_append_right _ (lw_t3 (i := 12) rfl)) rfl
theorem qI_X5_remember : Cond.instanceMethod yX5_remember ∈ lw_g := lw_gm (List.mem_append_right _ (lw_t3 (i := 13) rfl)) rfl
theorem qS_X5_remember : Cond.selects RX5 yX5_remember yX5_remember ∈ lw_g := lw_gm (List.mem_append_right _ (lw_t3 (i := 14) rfl)) rfl
theorem qC_X5_remember : Cond.code yX5_remember cX5_remember 3 none ∈ lw_g := lw_gm (List.mem_append_right _ (lw_t3 (i := 15) rfl)) rfl
theorem qM_X5_23 : Cond.methodLink RX5 23 yX5_country ∈ lw_g := lw_gm (List.mem_append_right _ (lw_t3 (i := 16) rfl)) rfl
theorem qI_X5_country : Cond.instanceMethod yX5_country ∈ lw_g := lw_gm (List.mem_append_right _ (lw_t3 (i := 18) rfl)) rfl
theorem qC_X5_country : Cond.code yX5_country cX5_country 2 (some (.object "OnlyTwoEnemies$Country")) ∈ lw_g := lw_gm (List.mem_append_right _ (lw_t3 (i := 19) rfl)) rfl
theorem qM_X5_27 : Cond.methodLink RX5 27 yX1_become ∈ lw_g := lw_gm (List.mem_append_right _ (lw_t3 (i := 20) rfl)) rfl
theorem qM_X5_31 : Cond.methodLink RX5 31 Lib.Math.min.name ∈ lw_g := lw_gm (List.mem_append_right _ (lw_t3 (i := 21) rfl)) rfl
theorem qM_X8_184 : Cond.methodLink RX8 184 yX1_setHate ∈ lw_g := lw_gm (List.mem_append_right _ (lw_t3 (i := 22) rfl)) rfl
theorem qM_L_49 : Cond.methodLink RL 49 yX8_goes ∈ lw_g := lw_gm (List.mem_append_right _ (lw_t3 (i := 23) rfl)) rfl
theorem qI_X8_goes : Cond.instanceMethod yX8_goes ∈ lw_g := lw_gm (List.mem_append_right _ (lw_t3 (i := 24) rfl)) rfl
theorem qS_X8_goes : Cond.selects RX8 yX8_goes yX8_goes ∈ lw_g := lw_gm (List.mem_append_right _ (lw_t3 (i := 25) rfl)) rfl
theorem qC_X8_goes : Cond.code yX8_goes cX8_goes 5 (some .int) ∈ lw_g := lw_gm (List.mem_append_right _ (lw_t3 (i := 26) rfl)) rfl
theorem qM_X8_188 : Cond.methodLink RX8 188 yX1_move ∈ lw_g := lw_gm (List.mem_append_right _ (lw_t3 (i := 27) rfl)) rfl
theorem qM_L_53 : Cond.methodLink RL 53 yX8_seals ∈ lw_g := lw_gm (List.mem_append_right _ (lw_t3 (i := 28) rfl)) rfl
theorem qI_X8_seals : Cond.instanceMethod yX8_seals ∈ lw_g := lw_gm (List.mem_append_right _ (lw_t3 (i := 29) rfl)) rfl
theorem qS_X8_seals : Cond.selects RX8 yX8_seals yX8_seals ∈ lw_g := lw_gm (List.mem_append_right _ (lw_t3 (i := 30) rfl)) rfl
theorem qC_X8_seals : Cond.code yX8_seals cX8_seals 3 (some .int) ∈ lw_g := lw_gm (List.mem_append_right _ (lw_t3 (i := 31) rfl)) rfl
theorem qM_X8_192 : Cond.methodLink RX8 192 yX1_turnSeal ∈ lw_g := lw_gm (List.mem_append_right _ (lw_t3 (i := 32) rfl)) rfl
theorem qM_L_57 : Cond.methodLink RL 57 yX8_weeks ∈ lw_g := lw_gm (List.mem_append_right _ (lw_t3 (i := 33) rfl)) rfl
theorem qI_X8_weeks : Cond.instanceMethod yX8_weeks ∈ lw_g := lw_gm (List.mem_append_right _ (lw_t3 (i := 34) rfl)) rfl
theorem qS_X8_weeks : Cond.selects RX8 yX8_weeks yX8_weeks ∈ lw_g := lw_gm (List.mem_append_right _ (lw_t3 (i := 35) rfl)) rfl
theorem qC_X8_weeks : Cond.code yX8_weeks cX8_weeks 3 (some .int) ∈ lw_g := lw_gm (List.mem_append_right _ (lw_t3 (i := 36) rfl)) rfl
theorem qM_X8_196 : Cond.methodLink RX8 196 yX1_passWeeks ∈ lw_g := lw_gm (List.mem_append_right _ (lw_t3 (i := 37) rfl)) rfl
theorem qM_L_61 : Cond.methodLink RL 61 yX8_back ∈ lw_g := lw_gm (List.mem_append_right _ (lw_t3 (i := 38) rfl)) rfl
theorem qI_X8_back : Cond.instanceMethod yX8_back ∈ lw_g := lw_gm (List.mem_append_right _ (lw_t3 (i := 39) rfl)) rfl
theorem qS_X8_back : Cond.selects RX8 yX8_back yX8_back ∈ lw_g := lw_gm (List.mem_append_right _ (lw_t3 (i := 40) rfl)) rfl
theorem qC_X8_back : Cond.code yX8_back cX8_back 1 (some .int) ∈ lw_g := lw_gm (List.mem_append_right _ (lw_t3 (i := 41) rfl)) rfl
theorem qM_X8_199 : Cond.methodLink RX8 199 yX5_takeBack ∈ lw_g := lw_gm (List.mem_append_right _ (lw_t3 (i := 42) rfl)) rfl
theorem qI_X5_takeBack : Cond.instanceMethod yX5_takeBack ∈ lw_g := lw_gm (List.mem_append_right _ (lw_t3 (i := 43) rfl)) rfl
theorem qS_X5_takeBack : Cond.selects RX5 yX5_takeBack yX5_takeBack ∈ lw_g := lw_gm (List.mem_append_right _ (lw_t3 (i := 44) rfl)) rfl
theorem qC_X5_takeBack : Cond.code yX5_takeBack cX5_takeBack 4 none ∈ lw_g := lw_gm (List.mem_append_right _ (lw_t3 (i := 45) rfl)) rfl
theorem qM_L_197 : Cond.methodLink RL 197 yX8_image ∈ lw_g := lw_gm (List.mem_append_right _ (lw_t3 (i := 46) rfl)) rfl
theorem qI_X8_image : Cond.instanceMethod yX8_image ∈ lw_g := lw_gm (List.mem_append_right _ (lw_t3 (i := 47) rfl)) rfl
theorem qS_X8_image : Cond.selects RX8 yX8_image yX8_image ∈ lw_g := lw_gm (List.mem_append_right _ (lw_t3 (i := 48) rfl)) rfl
theorem qC_X8_image : Cond.code yX8_image cX8_image 1 (some .int) ∈ lw_g := lw_gm (List.mem_append_right _ (lw_t3 (i := 49) rfl)) rfl
theorem qM_L_201 : Cond.methodLink RL 201 yX8_restore ∈ lw_g := lw_gm (List.mem_append_right _ (lw_t3 (i := 50) rfl)) rfl
theorem qI_X8_restore : Cond.instanceMethod yX8_restore ∈ lw_g := lw_gm (List.mem_append_right _ (lw_t3 (i := 51) rfl)) rfl
theorem qS_X8_restore : Cond.selects RX8 yX8_restore yX8_restore ∈ lw_g := lw_gm (List.mem_append_right _ (lw_t3 (i := 52) rfl)) rfl
theorem qC_X8_restore : Cond.code yX8_restore cX8_restore 1 (some .int) ∈ lw_g := lw_gm (List.mem_append_right _ (lw_t3 (i := 53) rfl)) rfl
theorem qM_L_181 : Cond.methodLink RL 181 yX8_row ∈ lw_g := lw_gm (List.mem_append_right _ (lw_t3 (i := 54) rfl)) rfl
theorem qI_X8_row : Cond.instanceMethod yX8_row ∈ lw_g := lw_gm (List.mem_append_right _ (lw_t3 (i := 55) rfl)) rfl
theorem qS_X8_row : Cond.selects RX8 yX8_row yX8_row ∈ lw_g := lw_gm (List.mem_append_right _ (lw_t3 (i := 56) rfl)) rfl
theorem qC_X8_row : Cond.code yX8_row cX8_row 3 (some .int) ∈ lw_g := lw_gm (List.mem_append_right _ (lw_t3 (i := 57) rfl)) rfl
theorem qM_X8_206 : Cond.methodLink RX8 206 yX6_isFull ∈ lw_g := lw_gm (List.mem_append_right _ (lw_t3 (i := 58) rfl)) rfl
theorem qI_X6_isFull : Cond.instanceMethod yX6_isFull ∈ lw_g := lw_gm (List.mem_append_right _ (lw_t3 (i := 59) rfl)) rfl
theorem qS_X6_isFull : Cond.selects RX6 yX6_isFull yX6_isFull ∈ lw_g := lw_gm (List.mem_append_right _ (lw_t3 (i := 60) rfl)) rfl
theorem qC_X6_isFull : Cond.code yX6_isFull cX6_isFull 1 (some .boolean) ∈ lw_g := lw_gm (List.mem_append_right _ (lw_t3 (i := 61) rfl)) rfl
theorem qM_X8_207 : Cond.methodLink RX8 207 yX6_add ∈ lw_g := lw_gm (List.mem_append_right _ (lw_t3 (i := 62) rfl)) rfl
theorem qI_X6_add : Cond.instanceMethod yX6_add ∈ lw_g := lw_gm (List.mem_append_right _ (lw_t3 (i := 63) rfl)) rfl
theorem qS_X6_add : Cond.selects RX6 yX6_add yX6_add ∈ lw_g := lw_gm (List.mem_append_right _ (lw_t3 (i := 64) rfl)) rfl
theorem qC_X6_add : Cond.code yX6_add cX6_add 2 (some .int) ∈ lw_g := lw_gm (List.mem_append_right _ (lw_t3 (i := 65) rfl)) rfl
theorem qM_X6_17 : Cond.methodLinkNest RX6 17 yX8_put RX8 ∈ lw_tbl := (List.mem_append_right _ (lw_t3 (i := 66) rfl))
theorem qM_X6_23 : Cond.methodLink RX6 23 Lib.Math.min.name ∈ lw_g := lw_gm (List.mem_append_right _ (lw_t3 (i := 67) rfl)) rfl
theorem qM_L_185 : Cond.methodLink RL 185 yX8_judge ∈ lw_g := lw_gm (List.mem_append_right _ (lw_t3 (i := 68) rfl)) rfl
theorem qI_X8_judge : Cond.instanceMethod yX8_judge ∈ lw_g := lw_gm (List.mem_append_right _ (lw_t3 (i := 69) rfl)) rfl
theorem qS_X8_judge : Cond.selects RX8 yX8_judge yX8_judge ∈ lw_g := lw_gm (List.mem_append_right _ (lw_t3 (i := 70) rfl)) rfl
theorem qC_X8_judge : Cond.code yX8_judge cX8_judge 4 (some .int) ∈ lw_g := lw_gm (List.mem_append_right _ (lw_t3 (i := 71) rfl)) rfl
theorem qM_X8_208 : Cond.methodLink RX8 208 yX3_firstMisjudged ∈ lw_g := lw_gm (List.mem_append_right _ (lw_t3 (i := 72) rfl)) rfl
theorem qI_X3_firstMisjudged : Cond.instanceMethod yX3_firstMisjudged ∈ lw_g := lw_gm (List.mem_append_right _ (lw_t3 (i := 73) rfl)) rfl
theorem qS_X3_firstMisjudged : Cond.selects RX3 yX3_firstMisjudged yX3_firstMisjudged ∈ lw_g := lw_gm (List.mem_append_right _ (lw_t3 (i := 74) rfl)) rfl
theorem qC_X3_firstMisjudged : Cond.code yX3_firstMisjudged cX3_firstMisjudged 4 (some .int) ∈ lw_g := lw_gm (List.mem_append_right _ (lw_t3 (i := 75) rfl)) rfl
theorem qM_X3_96 : Cond.methodLink RX3 96 yX6_size ∈ lw_g := lw_gm (List.mem_append_right _ (lw_t3 (i := 76) rfl)) rfl
theorem qM_X3_101 : Cond.methodLink RX3 101 yX1_hasKeeper ∈ lw_g := lw_gm (List.mem_append_right _ (lw_t3 (i := 77) rfl)) rfl
theorem qM_X3_104 : Cond.methodLink RX3 104 yX6_number ∈ lw_g := lw_gm (List.mem_append_right _ (lw_t3 (i := 78) rfl)) rfl
theorem qI_X6_number : Cond.instanceMethod yX6_number ∈ lw_g := lw_gm (List.mem_append_right _ (lw_t3 (i := 79) rfl)) rfl
theorem qS_X6_number : Cond.selects RX6 yX6_number yX6_number ∈ lw_g := lw_gm (List.mem_append_right _ (lw_t3 (i := 80) rfl)) rfl
theorem qC_X6_number : Cond.code yX6_number cX6_number 2 (some .int) ∈ lw_g := lw_gm (List.mem_append_right _ (lw_t3 (i := 81) rfl)) rfl
theorem qM_X6_29 : Cond.methodLinkNest RX6 29 yX8_at RX8 ∈ lw_tbl := (List.mem_append_right _ (lw_t3 (i := 82) rfl))
theorem qM_X3_90 : Cond.methodLink RX3 90 yX3_hateOrSelf ∈ lw_g := lw_gm (List.mem_append_right _ (lw_t3 (i := 83) rfl)) rfl
