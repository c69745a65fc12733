section
/-- a private method of a class that the tables say can be made, by its rows of tables_1 -/
def lw_okq (q : MethodName × Nat) : Prop := (q.1.cls ≠ "java/lang/invoke/MethodHandle" ∧ q.1.cls ≠ "java/lang/invoke/VarHandle") ∧ Cond.instantiable q.1.cls q.2 ∈ tables_1 ∧ Cond.privateMethod q.1 ∈ tables_1 ∧ Cond.instanceMethod q.1 ∈ tables_1
theorem lw_p0 : lw_okq (⟨"OnlyTwoEnemies", "refused", "(I)I"⟩, 10) := ⟨⟨by decide +kernel, by decide +kernel⟩, List.mem_of_getElem? (i := 16) (by decide +kernel), List.mem_of_getElem? (i := 183) (by decide +kernel), List.mem_of_getElem? (i := 184) (by decide +kernel)⟩
theorem lw_p1 : lw_okq (⟨"OnlyTwoEnemies$Telling", "brokenPlace", "()I"⟩, 2) := ⟨⟨by decide +kernel, by decide +kernel⟩, List.mem_of_getElem? (i := 84) (by decide +kernel), List.mem_of_getElem? (i := 223) (by decide +kernel), List.mem_of_getElem? (i := 224) (by decide +kernel)⟩
theorem lw_p2 : lw_okq (⟨"OnlyTwoEnemies$Telling", "sign", "(I)I"⟩, 2) := ⟨⟨by decide +kernel, by decide +kernel⟩, List.mem_of_getElem? (i := 84) (by decide +kernel), List.mem_of_getElem? (i := 227) (by decide +kernel), List.mem_of_getElem? (i := 228) (by decide +kernel)⟩
theorem lw_p3 : lw_okq (⟨"OnlyTwoEnemies$Telling", "isDigit", "(I)Z"⟩, 2) := ⟨⟨by decide +kernel, by decide +kernel⟩, List.mem_of_getElem? (i := 84) (by decide +kernel), List.mem_of_getElem? (i := 235) (by decide +kernel), List.mem_of_getElem? (i := 236) (by decide +kernel)⟩
theorem lw_p4 : lw_okq (⟨"OnlyTwoEnemies$Telling", "isRight", "(ILOnlyTwoEnemies$Country;)Z"⟩, 2) := ⟨⟨by decide +kernel, by decide +kernel⟩, List.mem_of_getElem? (i := 84) (by decide +kernel), List.mem_of_getElem? (i := 239) (by decide +kernel), List.mem_of_getElem? (i := 240) (by decide +kernel)⟩
theorem lw_p5 : lw_okq (⟨"OnlyTwoEnemies$Telling", "digit", "(I)I"⟩, 2) := ⟨⟨by decide +kernel, by decide +kernel⟩, List.mem_of_getElem? (i := 84) (by decide +kernel), List.mem_of_getElem? (i := 243) (by decide +kernel), List.mem_of_getElem? (i := 244) (by decide +kernel)⟩
theorem lw_p6 : lw_okq (⟨"OnlyTwoEnemies$Telling", "twoDigits", "(I)I"⟩, 2) := ⟨⟨by decide +kernel, by decide +kernel⟩, List.mem_of_getElem? (i := 84) (by decide +kernel), List.mem_of_getElem? (i := 247) (by decide +kernel), List.mem_of_getElem? (i := 248) (by decide +kernel)⟩
theorem lw_p7 : lw_okq (⟨"OnlyTwoEnemies$Telling", "comes", "(ILOnlyTwoEnemies$Country;)V"⟩, 2) := ⟨⟨by decide +kernel, by decide +kernel⟩, List.mem_of_getElem? (i := 84) (by decide +kernel), List.mem_of_getElem? (i := 279) (by decide +kernel), List.mem_of_getElem? (i := 280) (by decide +kernel)⟩
theorem lw_p8 : lw_okq (⟨"OnlyTwoEnemies$Country", "change", "(II)I"⟩, 11) := ⟨⟨by decide +kernel, by decide +kernel⟩, List.mem_of_getElem? (i := 24) (by decide +kernel), List.mem_of_getElem? (i := 323) (by decide +kernel), List.mem_of_getElem? (i := 324) (by decide +kernel)⟩
theorem lw_p9 : lw_okq (⟨"OnlyTwoEnemies", "keeperRefusal", "(I)I"⟩, 10) := ⟨⟨by decide +kernel, by decide +kernel⟩, List.mem_of_getElem? (i := 16) (by decide +kernel), List.mem_of_getElem? (i := 382) (by decide +kernel), List.mem_of_getElem? (i := 383) (by decide +kernel)⟩
theorem lw_p10 : lw_okq (⟨"OnlyTwoEnemies", "letterRefusal", "(I)I"⟩, 10) := ⟨⟨by decide +kernel, by decide +kernel⟩, List.mem_of_getElem? (i := 16) (by decide +kernel), List.mem_of_getElem? (i := 415) (by decide +kernel), List.mem_of_getElem? (i := 416) (by decide +kernel)⟩
theorem lw_p11 : lw_okq (⟨"OnlyTwoEnemies", "twoRefusal", "(II)I"⟩, 10) := ⟨⟨by decide +kernel, by decide +kernel⟩, List.mem_of_getElem? (i := 16) (by decide +kernel), List.mem_of_getElem? (i := 434) (by decide +kernel), List.mem_of_getElem? (i := 435) (by decide +kernel)⟩
theorem lw_p12 : lw_okq (⟨"OnlyTwoEnemies$Past", "country", "(I)LOnlyTwoEnemies$Country;"⟩, 3) := ⟨⟨by decide +kernel, by decide +kernel⟩, List.mem_of_getElem? (i := 65) (by decide +kernel), List.mem_of_getElem? (i := 497) (by decide +kernel), List.mem_of_getElem? (i := 498) (by decide +kernel)⟩
theorem lw_p13 : lw_okq (⟨"OnlyTwoEnemies$Look", "hateOrSelf", "(II)I"⟩, 2) := ⟨⟨by decide +kernel, by decide +kernel⟩, List.mem_of_getElem? (i := 110) (by decide +kernel), List.mem_of_getElem? (i := 564) (by decide +kernel), List.mem_of_getElem? (i := 565) (by decide +kernel)⟩
theorem lw_p14 : lw_okq (⟨"OnlyTwoEnemies$Mind", "hateMadeUp", "(II)I"⟩, 2) := ⟨⟨by decide +kernel, by decide +kernel⟩, List.mem_of_getElem? (i := 123) (by decide +kernel), List.mem_of_getElem? (i := 675) (by decide +kernel), List.mem_of_getElem? (i := 676) (by decide +kernel)⟩
theorem lw_p15 : lw_okq (⟨"OnlyTwoEnemies$Mind", "gain", "(IIIII)I"⟩, 2) := ⟨⟨by decide +kernel, by decide +kernel⟩, List.mem_of_getElem? (i := 123) (by decide +kernel), List.mem_of_getElem? (i := 679) (by decide +kernel), List.mem_of_getElem? (i := 680) (by decide +kernel)⟩
def lw_privs_1 : List (MethodName × Nat) := [(⟨"OnlyTwoEnemies", "refused", "(I)I"⟩, 10), (⟨"OnlyTwoEnemies$Telling", "brokenPlace", "()I"⟩, 2), (⟨"OnlyTwoEnemies$Telling", "sign", "(I)I"⟩, 2), (⟨"OnlyTwoEnemies$Telling", "isDigit", "(I)Z"⟩, 2), (⟨"OnlyTwoEnemies$Telling", "isRight", "(ILOnlyTwoEnemies$Country;)Z"⟩, 2), (⟨"OnlyTwoEnemies$Telling", "digit", "(I)I"⟩, 2), (⟨"OnlyTwoEnemies$Telling", "twoDigits", "(I)I"⟩, 2), (⟨"OnlyTwoEnemies$Telling", "comes", "(ILOnlyTwoEnemies$Country;)V"⟩, 2), (⟨"OnlyTwoEnemies$Country", "change", "(II)I"⟩, 11), (⟨"OnlyTwoEnemies", "keeperRefusal", "(I)I"⟩, 10), (⟨"OnlyTwoEnemies", "letterRefusal", "(I)I"⟩, 10), (⟨"OnlyTwoEnemies", "twoRefusal", "(II)I"⟩, 10), (⟨"OnlyTwoEnemies$Past", "country", "(I)LOnlyTwoEnemies$Country;"⟩, 3), (⟨"OnlyTwoEnemies$Look", "hateOrSelf", "(II)I"⟩, 2), (⟨"OnlyTwoEnemies$Mind", "hateMadeUp", "(II)I"⟩, 2), (⟨"OnlyTwoEnemies$Mind", "gain", "(IIIII)I"⟩, 2)]
theorem lw_r1 : ∀ q ∈ lw_privs_1, lw_okq q := List.forall_mem_cons.mpr ⟨lw_p0, List.forall_mem_cons.mpr ⟨lw_p1, List.forall_mem_cons.mpr ⟨lw_p2, List.forall_mem_cons.mpr ⟨lw_p3, List.forall_mem_cons.mpr ⟨lw_p4, List.forall_mem_cons.mpr ⟨lw_p5, List.forall_mem_cons.mpr ⟨lw_p6, List.forall_mem_cons.mpr ⟨lw_p7, List.forall_mem_cons.mpr ⟨lw_p8, List.forall_mem_cons.mpr ⟨lw_p9, List.forall_mem_cons.mpr ⟨lw_p10, List.forall_mem_cons.mpr ⟨lw_p11, List.forall_mem_cons.mpr ⟨lw_p12, List.forall_mem_cons.mpr ⟨lw_p13, List.forall_mem_cons.mpr ⟨lw_p14, List.forall_mem_cons.mpr ⟨lw_p15, fun _ h => absurd h List.not_mem_nil⟩⟩⟩⟩⟩⟩⟩⟩⟩⟩⟩⟩⟩⟩⟩⟩
theorem lw_p16 : lw_okq (⟨"OnlyTwoEnemies$Mind", "openAsAllIs", "(I)I"⟩, 2) := ⟨⟨by decide +kernel, by decide +kernel⟩, List.mem_of_getElem? (i := 123) (by decide +kernel), List.mem_of_getElem? (i := 692) (by decide +kernel), List.mem_of_getElem? (i := 693) (by decide +kernel)⟩
theorem lw_p17 : lw_okq (⟨"OnlyTwoEnemies$Mind", "openKept", "(II)I"⟩, 2) := ⟨⟨by decide +kernel, by decide +kernel⟩, List.mem_of_getElem? (i := 123) (by decide +kernel), List.mem_of_getElem? (i := 729) (by decide +kernel), List.mem_of_getElem? (i := 730) (by decide +kernel)⟩
theorem lw_p18 : lw_okq (⟨"OnlyTwoEnemies$Mind", "opensAsTold", "(LOnlyTwoEnemies$Row;)Z"⟩, 2) := ⟨⟨by decide +kernel, by decide +kernel⟩, List.mem_of_getElem? (i := 123) (by decide +kernel), List.mem_of_getElem? (i := 757) (by decide +kernel), List.mem_of_getElem? (i := 758) (by decide +kernel)⟩
theorem lw_p19 : lw_okq (⟨"OnlyTwoEnemies$Mind", "hatesAsTold", "(IILOnlyTwoEnemies$Row;)Z"⟩, 2) := ⟨⟨by decide +kernel, by decide +kernel⟩, List.mem_of_getElem? (i := 123) (by decide +kernel), List.mem_of_getElem? (i := 776) (by decide +kernel), List.mem_of_getElem? (i := 777) (by decide +kernel)⟩
theorem lw_p20 : lw_okq (⟨"OnlyTwoEnemies$Look", "mostTwosWith", "(III)I"⟩, 2) := ⟨⟨by decide +kernel, by decide +kernel⟩, List.mem_of_getElem? (i := 110) (by decide +kernel), List.mem_of_getElem? (i := 854) (by decide +kernel), List.mem_of_getElem? (i := 855) (by decide +kernel)⟩
theorem lw_p21 : lw_okq (⟨"OnlyTwoEnemies$Look", "hatesTogether", "(I)I"⟩, 2) := ⟨⟨by decide +kernel, by decide +kernel⟩, List.mem_of_getElem? (i := 110) (by decide +kernel), List.mem_of_getElem? (i := 907) (by decide +kernel), List.mem_of_getElem? (i := 908) (by decide +kernel)⟩
theorem lw_p22 : lw_okq (⟨"OnlyTwoEnemiesModel", "no", "(I)I"⟩, 31) := ⟨⟨by decide +kernel, by decide +kernel⟩, List.mem_of_getElem? (i := 932) (by decide +kernel), List.mem_of_getElem? (i := 1039) (by decide +kernel), List.mem_of_getElem? (i := 1040) (by decide +kernel)⟩
theorem lw_p23 : lw_okq (⟨"OnlyTwoEnemiesModel", "statement", "()Z"⟩, 31) := ⟨⟨by decide +kernel, by decide +kernel⟩, List.mem_of_getElem? (i := 932) (by decide +kernel), List.mem_of_getElem? (i := 1047) (by decide +kernel), List.mem_of_getElem? (i := 1048) (by decide +kernel)⟩
theorem lw_p24 : lw_okq (⟨"OnlyTwoEnemiesModel", "next", "()I"⟩, 31) := ⟨⟨by decide +kernel, by decide +kernel⟩, List.mem_of_getElem? (i := 932) (by decide +kernel), List.mem_of_getElem? (i := 1051) (by decide +kernel), List.mem_of_getElem? (i := 1052) (by decide +kernel)⟩
theorem lw_p25 : lw_okq (⟨"OnlyTwoEnemiesModel", "readsAll", "(II)Z"⟩, 31) := ⟨⟨by decide +kernel, by decide +kernel⟩, List.mem_of_getElem? (i := 932) (by decide +kernel), List.mem_of_getElem? (i := 1055) (by decide +kernel), List.mem_of_getElem? (i := 1056) (by decide +kernel)⟩
theorem lw_p26 : lw_okq (⟨"OnlyTwoEnemiesModel", "readsDigits", "(II)Z"⟩, 31) := ⟨⟨by decide +kernel, by decide +kernel⟩, List.mem_of_getElem? (i := 932) (by decide +kernel), List.mem_of_getElem? (i := 1059) (by decide +kernel), List.mem_of_getElem? (i := 1060) (by decide +kernel)⟩
theorem lw_p27 : lw_okq (⟨"OnlyTwoEnemiesModel", "passesAll", "(IZ)V"⟩, 31) := ⟨⟨by decide +kernel, by decide +kernel⟩, List.mem_of_getElem? (i := 932) (by decide +kernel), List.mem_of_getElem? (i := 1066) (by decide +kernel), List.mem_of_getElem? (i := 1067) (by decide +kernel)⟩
theorem lw_p28 : lw_okq (⟨"OnlyTwoEnemiesModel", "passes", "([I)V"⟩, 31) := ⟨⟨by decide +kernel, by decide +kernel⟩, List.mem_of_getElem? (i := 932) (by decide +kernel), List.mem_of_getElem? (i := 1070) (by decide +kernel), List.mem_of_getElem? (i := 1071) (by decide +kernel)⟩
theorem lw_p29 : lw_okq (⟨"OnlyTwoEnemiesModel", "passOne", "(I)I"⟩, 31) := ⟨⟨by decide +kernel, by decide +kernel⟩, List.mem_of_getElem? (i := 932) (by decide +kernel), List.mem_of_getElem? (i := 1074) (by decide +kernel), List.mem_of_getElem? (i := 1075) (by decide +kernel)⟩
theorem lw_p30 : lw_okq (⟨"OnlyTwoEnemiesModel", "comes", "(I)Z"⟩, 31) := ⟨⟨by decide +kernel, by decide +kernel⟩, List.mem_of_getElem? (i := 932) (by decide +kernel), List.mem_of_getElem? (i := 1078) (by decide +kernel), List.mem_of_getElem? (i := 1079) (by decide +kernel)⟩
theorem lw_p31 : lw_okq (⟨"OnlyTwoEnemiesModel", "comesKeeper", "(III)Z"⟩, 31) := ⟨⟨by decide +kernel, by decide +kernel⟩, List.mem_of_getElem? (i := 932) (by decide +kernel), List.mem_of_getElem? (i := 1082) (by decide +kernel), List.mem_of_getElem? (i := 1083) (by decide +kernel)⟩
def lw_privs_2 : List (MethodName × Nat) := [(⟨"OnlyTwoEnemies$Mind", "openAsAllIs", "(I)I"⟩, 2), (⟨"OnlyTwoEnemies$Mind", "openKept", "(II)I"⟩, 2), (⟨"OnlyTwoEnemies$Mind", "opensAsTold", "(LOnlyTwoEnemies$Row;)Z"⟩, 2), (⟨"OnlyTwoEnemies$Mind", "hatesAsTold", "(IILOnlyTwoEnemies$Row;)Z"⟩, 2), (⟨"OnlyTwoEnemies$Look", "mostTwosWith", "(III)I"⟩, 2), (⟨"OnlyTwoEnemies$Look", "hatesTogether", "(I)I"⟩, 2), (⟨"OnlyTwoEnemiesModel", "no", "(I)I"⟩, 31), (⟨"OnlyTwoEnemiesModel", "statement", "()Z"⟩, 31), (⟨"OnlyTwoEnemiesModel", "next", "()I"⟩, 31), (⟨"OnlyTwoEnemiesModel", "readsAll", "(II)Z"⟩, 31), (⟨"OnlyTwoEnemiesModel", "readsDigits", "(II)Z"⟩, 31), (⟨"OnlyTwoEnemiesModel", "passesAll", "(IZ)V"⟩, 31), (⟨"OnlyTwoEnemiesModel", "passes", "([I)V"⟩, 31), (⟨"OnlyTwoEnemiesModel", "passOne", "(I)I"⟩, 31), (⟨"OnlyTwoEnemiesModel", "comes", "(I)Z"⟩, 31), (⟨"OnlyTwoEnemiesModel", "comesKeeper", "(III)Z"⟩, 31)]
theorem lw_r2 : ∀ q ∈ lw_privs_2, lw_okq q := List.forall_mem_cons.mpr ⟨lw_p16, List.forall_mem_cons.mpr ⟨lw_p17, List.forall_mem_cons.mpr ⟨lw_p18, List.forall_mem_cons.mpr ⟨lw_p19, List.forall_mem_cons.mpr ⟨lw_p20, List.forall_mem_cons.mpr ⟨lw_p21, List.forall_mem_cons.mpr ⟨lw_p22, List.forall_mem_cons.mpr ⟨lw_p23, List.forall_mem_cons.mpr ⟨lw_p24, List.forall_mem_cons.mpr ⟨lw_p25, List.forall_mem_cons.mpr ⟨lw_p26, List.forall_mem_cons.mpr ⟨lw_p27, List.forall_mem_cons.mpr ⟨lw_p28, List.forall_mem_cons.mpr ⟨lw_p29, List.forall_mem_cons.mpr ⟨lw_p30, List.forall_mem_cons.mpr ⟨lw_p31, fun _ h => absurd h List.not_mem_nil⟩⟩⟩⟩⟩⟩⟩⟩⟩⟩⟩⟩⟩⟩⟩⟩
theorem lw_p32 : lw_okq (⟨"OnlyTwoEnemiesModel", "addsKeeper", "(III)V"⟩, 31) := ⟨⟨by decide +kernel, by decide +kernel⟩, List.mem_of_getElem? (i := 932) (by decide +kernel), List.mem_of_getElem? (i := 1089) (by decide +kernel), List.mem_of_getElem? (i := 1090) (by decide +kernel)⟩
theorem lw_p33 : lw_okq (⟨"OnlyTwoEnemiesModel", "sets", "(III)V"⟩, 31) := ⟨⟨by decide +kernel, by decide +kernel⟩, List.mem_of_getElem? (i := 932) (by decide +kernel), List.mem_of_getElem? (i := 1093) (by decide +kernel), List.mem_of_getElem? (i := 1094) (by decide +kernel)⟩
theorem lw_p34 : lw_okq (⟨"OnlyTwoEnemiesModel", "areTwo", "(II)Z"⟩, 31) := ⟨⟨by decide +kernel, by decide +kernel⟩, List.mem_of_getElem? (i := 932) (by decide +kernel), List.mem_of_getElem? (i := 1097) (by decide +kernel), List.mem_of_getElem? (i := 1098) (by decide +kernel)⟩
theorem lw_p35 : lw_okq (⟨"OnlyTwoEnemiesModel", "isKeeper", "(I)Z"⟩, 31) := ⟨⟨by decide +kernel, by decide +kernel⟩, List.mem_of_getElem? (i := 932) (by decide +kernel), List.mem_of_getElem? (i := 1101) (by decide +kernel), List.mem_of_getElem? (i := 1102) (by decide +kernel)⟩
theorem lw_p36 : lw_okq (⟨"OnlyTwoEnemiesModel", "comesLetter", "(II)Z"⟩, 31) := ⟨⟨by decide +kernel, by decide +kernel⟩, List.mem_of_getElem? (i := 932) (by decide +kernel), List.mem_of_getElem? (i := 1105) (by decide +kernel), List.mem_of_getElem? (i := 1106) (by decide +kernel)⟩
theorem lw_p37 : lw_okq (⟨"OnlyTwoEnemiesModel", "addsLetter", "(II)V"⟩, 31) := ⟨⟨by decide +kernel, by decide +kernel⟩, List.mem_of_getElem? (i := 932) (by decide +kernel), List.mem_of_getElem? (i := 1109) (by decide +kernel), List.mem_of_getElem? (i := 1110) (by decide +kernel)⟩
theorem lw_p38 : lw_okq (⟨"OnlyTwoEnemiesModel", "isLetter", "(I)Z"⟩, 31) := ⟨⟨by decide +kernel, by decide +kernel⟩, List.mem_of_getElem? (i := 932) (by decide +kernel), List.mem_of_getElem? (i := 1113) (by decide +kernel), List.mem_of_getElem? (i := 1114) (by decide +kernel)⟩
theorem lw_p39 : lw_okq (⟨"OnlyTwoEnemiesModel", "comesWeeks", "(I)Z"⟩, 31) := ⟨⟨by decide +kernel, by decide +kernel⟩, List.mem_of_getElem? (i := 932) (by decide +kernel), List.mem_of_getElem? (i := 1117) (by decide +kernel), List.mem_of_getElem? (i := 1118) (by decide +kernel)⟩
theorem lw_p40 : lw_okq (⟨"OnlyTwoEnemiesModel", "goesOn", "(I)V"⟩, 31) := ⟨⟨by decide +kernel, by decide +kernel⟩, List.mem_of_getElem? (i := 932) (by decide +kernel), List.mem_of_getElem? (i := 1121) (by decide +kernel), List.mem_of_getElem? (i := 1122) (by decide +kernel)⟩
theorem lw_p41 : lw_okq (⟨"OnlyTwoEnemiesModel", "goesWeek", "()V"⟩, 31) := ⟨⟨by decide +kernel, by decide +kernel⟩, List.mem_of_getElem? (i := 932) (by decide +kernel), List.mem_of_getElem? (i := 1125) (by decide +kernel), List.mem_of_getElem? (i := 1126) (by decide +kernel)⟩
theorem lw_p42 : lw_okq (⟨"OnlyTwoEnemiesModel", "fadesTwo", "(II)V"⟩, 31) := ⟨⟨by decide +kernel, by decide +kernel⟩, List.mem_of_getElem? (i := 932) (by decide +kernel), List.mem_of_getElem? (i := 1129) (by decide +kernel), List.mem_of_getElem? (i := 1130) (by decide +kernel)⟩
theorem lw_p43 : lw_okq (⟨"OnlyTwoEnemiesModel", "hateOf", "(II)I"⟩, 31) := ⟨⟨by decide +kernel, by decide +kernel⟩, List.mem_of_getElem? (i := 932) (by decide +kernel), List.mem_of_getElem? (i := 1136) (by decide +kernel), List.mem_of_getElem? (i := 1137) (by decide +kernel)⟩
theorem lw_p44 : lw_okq (⟨"OnlyTwoEnemiesModel", "fadesOf", "(I)I"⟩, 31) := ⟨⟨by decide +kernel, by decide +kernel⟩, List.mem_of_getElem? (i := 932) (by decide +kernel), List.mem_of_getElem? (i := 1140) (by decide +kernel), List.mem_of_getElem? (i := 1141) (by decide +kernel)⟩
theorem lw_p45 : lw_okq (⟨"OnlyTwoEnemiesModel", "stirsOf", "(I)I"⟩, 31) := ⟨⟨by decide +kernel, by decide +kernel⟩, List.mem_of_getElem? (i := 932) (by decide +kernel), List.mem_of_getElem? (i := 1147) (by decide +kernel), List.mem_of_getElem? (i := 1148) (by decide +kernel)⟩
theorem lw_p46 : lw_okq (⟨"OnlyTwoEnemiesModel", "opensAt", "(II)I"⟩, 31) := ⟨⟨by decide +kernel, by decide +kernel⟩, List.mem_of_getElem? (i := 932) (by decide +kernel), List.mem_of_getElem? (i := 1151) (by decide +kernel), List.mem_of_getElem? (i := 1152) (by decide +kernel)⟩
theorem lw_p47 : lw_okq (⟨"OnlyTwoEnemiesModel", "areThere", "(III)Z"⟩, 31) := ⟨⟨by decide +kernel, by decide +kernel⟩, List.mem_of_getElem? (i := 932) (by decide +kernel), List.mem_of_getElem? (i := 1155) (by decide +kernel), List.mem_of_getElem? (i := 1156) (by decide +kernel)⟩
def lw_privs_3 : List (MethodName × Nat) := [(⟨"OnlyTwoEnemiesModel", "addsKeeper", "(III)V"⟩, 31), (⟨"OnlyTwoEnemiesModel", "sets", "(III)V"⟩, 31), (⟨"OnlyTwoEnemiesModel", "areTwo", "(II)Z"⟩, 31), (⟨"OnlyTwoEnemiesModel", "isKeeper", "(I)Z"⟩, 31), (⟨"OnlyTwoEnemiesModel", "comesLetter", "(II)Z"⟩, 31), (⟨"OnlyTwoEnemiesModel", "addsLetter", "(II)V"⟩, 31), (⟨"OnlyTwoEnemiesModel", "isLetter", "(I)Z"⟩, 31), (⟨"OnlyTwoEnemiesModel", "comesWeeks", "(I)Z"⟩, 31), (⟨"OnlyTwoEnemiesModel", "goesOn", "(I)V"⟩, 31), (⟨"OnlyTwoEnemiesModel", "goesWeek", "()V"⟩, 31), (⟨"OnlyTwoEnemiesModel", "fadesTwo", "(II)V"⟩, 31), (⟨"OnlyTwoEnemiesModel", "hateOf", "(II)I"⟩, 31), (⟨"OnlyTwoEnemiesModel", "fadesOf", "(I)I"⟩, 31), (⟨"OnlyTwoEnemiesModel", "stirsOf", "(I)I"⟩, 31), (⟨"OnlyTwoEnemiesModel", "opensAt", "(II)I"⟩, 31), (⟨"OnlyTwoEnemiesModel", "areThere", "(III)Z"⟩, 31)]
theorem lw_r3 : ∀ q ∈ lw_privs_3, lw_okq q := List.forall_mem_cons.mpr ⟨lw_p32, List.forall_mem_cons.mpr ⟨lw_p33, List.forall_mem_cons.mpr ⟨lw_p34, List.forall_mem_cons.mpr ⟨lw_p35, List.forall_mem_cons.mpr ⟨lw_p36, List.forall_mem_cons.mpr ⟨lw_p37, List.forall_mem_cons.mpr ⟨lw_p38, List.forall_mem_cons.mpr ⟨lw_p39, List.forall_mem_cons.mpr ⟨lw_p40, List.forall_mem_cons.mpr ⟨lw_p41, List.forall_mem_cons.mpr ⟨lw_p42, List.forall_mem_cons.mpr ⟨lw_p43, List.forall_mem_cons.mpr ⟨lw_p44, List.forall_mem_cons.mpr ⟨lw_p45, List.forall_mem_cons.mpr ⟨lw_p46, List.forall_mem_cons.mpr ⟨lw_p47, fun _ h => absurd h List.not_mem_nil⟩⟩⟩⟩⟩⟩⟩⟩⟩⟩⟩⟩⟩⟩⟩⟩
theorem lw_p48 : lw_okq (⟨"OnlyTwoEnemiesModel", "payOf", "(I)I"⟩, 31) := ⟨⟨by decide +kernel, by decide +kernel⟩, List.mem_of_getElem? (i := 932) (by decide +kernel), List.mem_of_getElem? (i := 1175) (by decide +kernel), List.mem_of_getElem? (i := 1176) (by decide +kernel)⟩
theorem lw_p49 : lw_okq (⟨"OnlyTwoEnemiesModel", "keepsBack", "()V"⟩, 31) := ⟨⟨by decide +kernel, by decide +kernel⟩, List.mem_of_getElem? (i := 932) (by decide +kernel), List.mem_of_getElem? (i := 1199) (by decide +kernel), List.mem_of_getElem? (i := 1200) (by decide +kernel)⟩
theorem lw_p50 : lw_okq (⟨"OnlyTwoEnemiesModel", "openOnes", "()I"⟩, 31) := ⟨⟨by decide +kernel, by decide +kernel⟩, List.mem_of_getElem? (i := 932) (by decide +kernel), List.mem_of_getElem? (i := 1215) (by decide +kernel), List.mem_of_getElem? (i := 1216) (by decide +kernel)⟩
theorem lw_p51 : lw_okq (⟨"OnlyTwoEnemiesModel", "hateIn", "(III)I"⟩, 31) := ⟨⟨by decide +kernel, by decide +kernel⟩, List.mem_of_getElem? (i := 932) (by decide +kernel), List.mem_of_getElem? (i := 1229) (by decide +kernel), List.mem_of_getElem? (i := 1230) (by decide +kernel)⟩
theorem lw_p52 : lw_okq (⟨"OnlyTwoEnemiesModel", "thinks", "()V"⟩, 31) := ⟨⟨by decide +kernel, by decide +kernel⟩, List.mem_of_getElem? (i := 932) (by decide +kernel), List.mem_of_getElem? (i := 1233) (by decide +kernel), List.mem_of_getElem? (i := 1234) (by decide +kernel)⟩
theorem lw_p53 : lw_okq (⟨"OnlyTwoEnemiesModel", "forgets", "()V"⟩, 31) := ⟨⟨by decide +kernel, by decide +kernel⟩, List.mem_of_getElem? (i := 932) (by decide +kernel), List.mem_of_getElem? (i := 1237) (by decide +kernel), List.mem_of_getElem? (i := 1238) (by decide +kernel)⟩
theorem lw_p54 : lw_okq (⟨"OnlyTwoEnemiesModel", "openIn", "(I)I"⟩, 31) := ⟨⟨by decide +kernel, by decide +kernel⟩, List.mem_of_getElem? (i := 932) (by decide +kernel), List.mem_of_getElem? (i := 1245) (by decide +kernel), List.mem_of_getElem? (i := 1246) (by decide +kernel)⟩
theorem lw_p55 : lw_okq (⟨"OnlyTwoEnemiesModel", "allHate", "()I"⟩, 31) := ⟨⟨by decide +kernel, by decide +kernel⟩, List.mem_of_getElem? (i := 932) (by decide +kernel), List.mem_of_getElem? (i := 1249) (by decide +kernel), List.mem_of_getElem? (i := 1250) (by decide +kernel)⟩
theorem lw_p56 : lw_okq (⟨"OnlyTwoEnemiesModel", "whenOf", "(I)I"⟩, 31) := ⟨⟨by decide +kernel, by decide +kernel⟩, List.mem_of_getElem? (i := 932) (by decide +kernel), List.mem_of_getElem? (i := 1257) (by decide +kernel), List.mem_of_getElem? (i := 1258) (by decide +kernel)⟩
theorem lw_p57 : lw_okq (⟨"OnlyTwoEnemiesModel", "firstOne", "()I"⟩, 31) := ⟨⟨by decide +kernel, by decide +kernel⟩, List.mem_of_getElem? (i := 932) (by decide +kernel), List.mem_of_getElem? (i := 1269) (by decide +kernel), List.mem_of_getElem? (i := 1270) (by decide +kernel)⟩
theorem lw_p58 : lw_okq (⟨"OnlyTwoEnemiesModel", "isOpenedBy", "(III)Z"⟩, 31) := ⟨⟨by decide +kernel, by decide +kernel⟩, List.mem_of_getElem? (i := 932) (by decide +kernel), List.mem_of_getElem? (i := 1277) (by decide +kernel), List.mem_of_getElem? (i := 1278) (by decide +kernel)⟩
theorem lw_p59 : lw_okq (⟨"OnlyTwoEnemiesModel", "manyAt", "(III)I"⟩, 31) := ⟨⟨by decide +kernel, by decide +kernel⟩, List.mem_of_getElem? (i := 932) (by decide +kernel), List.mem_of_getElem? (i := 1285) (by decide +kernel), List.mem_of_getElem? (i := 1286) (by decide +kernel)⟩
theorem lw_p60 : lw_okq (⟨"OnlyTwoEnemiesModel", "changes", "()V"⟩, 31) := ⟨⟨by decide +kernel, by decide +kernel⟩, List.mem_of_getElem? (i := 932) (by decide +kernel), List.mem_of_getElem? (i := 1293) (by decide +kernel), List.mem_of_getElem? (i := 1294) (by decide +kernel)⟩
theorem lw_p61 : lw_okq (⟨"OnlyTwoEnemiesModel", "changesBack", "()V"⟩, 31) := ⟨⟨by decide +kernel, by decide +kernel⟩, List.mem_of_getElem? (i := 932) (by decide +kernel), List.mem_of_getElem? (i := 1297) (by decide +kernel), List.mem_of_getElem? (i := 1298) (by decide +kernel)⟩
theorem lw_p62 : lw_okq (⟨"OnlyTwoEnemiesModel", "manyBy", "(II)I"⟩, 31) := ⟨⟨by decide +kernel, by decide +kernel⟩, List.mem_of_getElem? (i := 932) (by decide +kernel), List.mem_of_getElem? (i := 1305) (by decide +kernel), List.mem_of_getElem? (i := 1306) (by decide +kernel)⟩
theorem lw_p63 : lw_okq (⟨"OnlyTwoEnemiesModel", "payOfAll", "(I)I"⟩, 31) := ⟨⟨by decide +kernel, by decide +kernel⟩, List.mem_of_getElem? (i := 932) (by decide +kernel), List.mem_of_getElem? (i := 1309) (by decide +kernel), List.mem_of_getElem? (i := 1310) (by decide +kernel)⟩
def lw_privs_4 : List (MethodName × Nat) := [(⟨"OnlyTwoEnemiesModel", "payOf", "(I)I"⟩, 31), (⟨"OnlyTwoEnemiesModel", "keepsBack", "()V"⟩, 31), (⟨"OnlyTwoEnemiesModel", "openOnes", "()I"⟩, 31), (⟨"OnlyTwoEnemiesModel", "hateIn", "(III)I"⟩, 31), (⟨"OnlyTwoEnemiesModel", "thinks", "()V"⟩, 31), (⟨"OnlyTwoEnemiesModel", "forgets", "()V"⟩, 31), (⟨"OnlyTwoEnemiesModel", "openIn", "(I)I"⟩, 31), (⟨"OnlyTwoEnemiesModel", "allHate", "()I"⟩, 31), (⟨"OnlyTwoEnemiesModel", "whenOf", "(I)I"⟩, 31), (⟨"OnlyTwoEnemiesModel", "firstOne", "()I"⟩, 31), (⟨"OnlyTwoEnemiesModel", "isOpenedBy", "(III)Z"⟩, 31), (⟨"OnlyTwoEnemiesModel", "manyAt", "(III)I"⟩, 31), (⟨"OnlyTwoEnemiesModel", "changes", "()V"⟩, 31), (⟨"OnlyTwoEnemiesModel", "changesBack", "()V"⟩, 31), (⟨"OnlyTwoEnemiesModel", "manyBy", "(II)I"⟩, 31), (⟨"OnlyTwoEnemiesModel", "payOfAll", "(I)I"⟩, 31)]
theorem lw_r4 : ∀ q ∈ lw_privs_4, lw_okq q := List.forall_mem_cons.mpr ⟨lw_p48, List.forall_mem_cons.mpr ⟨lw_p49, List.forall_mem_cons.mpr ⟨lw_p50, List.forall_mem_cons.mpr ⟨lw_p51, List.forall_mem_cons.mpr ⟨lw_p52, List.forall_mem_cons.mpr ⟨lw_p53, List.forall_mem_cons.mpr ⟨lw_p54, List.forall_mem_cons.mpr ⟨lw_p55, List.forall_mem_cons.mpr ⟨lw_p56, List.forall_mem_cons.mpr ⟨lw_p57, List.forall_mem_cons.mpr ⟨lw_p58, List.forall_mem_cons.mpr ⟨lw_p59, List.forall_mem_cons.mpr ⟨lw_p60, List.forall_mem_cons.mpr ⟨lw_p61, List.forall_mem_cons.mpr ⟨lw_p62, List.forall_mem_cons.mpr ⟨lw_p63, fun _ h => absurd h List.not_mem_nil⟩⟩⟩⟩⟩⟩⟩⟩⟩⟩⟩⟩⟩⟩⟩⟩
theorem lw_p64 : lw_okq (⟨"OnlyTwoEnemiesModel", "keepersIn", "(I)I"⟩, 31) := ⟨⟨by decide +kernel, by decide +kernel⟩, List.mem_of_getElem? (i := 932) (by decide +kernel), List.mem_of_getElem? (i := 1317) (by decide +kernel), List.mem_of_getElem? (i := 1318) (by decide +kernel)⟩
theorem lw_p65 : lw_okq (⟨"OnlyTwoEnemiesModel", "findTwos", "(II)V"⟩, 31) := ⟨⟨by decide +kernel, by decide +kernel⟩, List.mem_of_getElem? (i := 932) (by decide +kernel), List.mem_of_getElem? (i := 1329) (by decide +kernel), List.mem_of_getElem? (i := 1330) (by decide +kernel)⟩
theorem lw_p66 : lw_okq (⟨"OnlyTwoEnemiesModel", "opensSo", "()Z"⟩, 31) := ⟨⟨by decide +kernel, by decide +kernel⟩, List.mem_of_getElem? (i := 932) (by decide +kernel), List.mem_of_getElem? (i := 1341) (by decide +kernel), List.mem_of_getElem? (i := 1342) (by decide +kernel)⟩
theorem lw_p67 : lw_okq (⟨"OnlyTwoEnemiesModel", "bitsFor", "([IIII)I"⟩, 31) := ⟨⟨by decide +kernel, by decide +kernel⟩, List.mem_of_getElem? (i := 932) (by decide +kernel), List.mem_of_getElem? (i := 1349) (by decide +kernel), List.mem_of_getElem? (i := 1350) (by decide +kernel)⟩
theorem lw_p68 : lw_okq (⟨"OnlyTwoEnemiesModel", "hatesSo", "(II)Z"⟩, 31) := ⟨⟨by decide +kernel, by decide +kernel⟩, List.mem_of_getElem? (i := 932) (by decide +kernel), List.mem_of_getElem? (i := 1353) (by decide +kernel), List.mem_of_getElem? (i := 1354) (by decide +kernel)⟩
theorem lw_p69 : lw_okq (⟨"OnlyTwoEnemiesModel", "lowestOf", "(I)J"⟩, 31) := ⟨⟨by decide +kernel, by decide +kernel⟩, List.mem_of_getElem? (i := 932) (by decide +kernel), List.mem_of_getElem? (i := 1361) (by decide +kernel), List.mem_of_getElem? (i := 1362) (by decide +kernel)⟩
theorem lw_p70 : lw_okq (⟨"OnlyTwoEnemiesModel", "getsOf", "(IIII)I"⟩, 31) := ⟨⟨by decide +kernel, by decide +kernel⟩, List.mem_of_getElem? (i := 932) (by decide +kernel), List.mem_of_getElem? (i := 1382) (by decide +kernel), List.mem_of_getElem? (i := 1383) (by decide +kernel)⟩
theorem lw_p71 : lw_okq (⟨"OnlyTwoEnemiesModel", "isOpenMeeting", "(IIIII)Z"⟩, 31) := ⟨⟨by decide +kernel, by decide +kernel⟩, List.mem_of_getElem? (i := 932) (by decide +kernel), List.mem_of_getElem? (i := 1390) (by decide +kernel), List.mem_of_getElem? (i := 1391) (by decide +kernel)⟩
theorem lw_p72 : lw_okq (⟨"OnlyTwoEnemiesModel", "hatesOf", "(I)I"⟩, 31) := ⟨⟨by decide +kernel, by decide +kernel⟩, List.mem_of_getElem? (i := 932) (by decide +kernel), List.mem_of_getElem? (i := 1406) (by decide +kernel), List.mem_of_getElem? (i := 1407) (by decide +kernel)⟩
theorem lw_p73 : lw_okq (⟨"OnlyTwoEnemiesModel", "lower", "(I)I"⟩, 31) := ⟨⟨by decide +kernel, by decide +kernel⟩, List.mem_of_getElem? (i := 932) (by decide +kernel), List.mem_of_getElem? (i := 1422) (by decide +kernel), List.mem_of_getElem? (i := 1423) (by decide +kernel)⟩
theorem lw_p74 : lw_okq (⟨"OnlyTwoEnemiesModel", "manySwapped", "(III)I"⟩, 31) := ⟨⟨by decide +kernel, by decide +kernel⟩, List.mem_of_getElem? (i := 932) (by decide +kernel), List.mem_of_getElem? (i := 1431) (by decide +kernel), List.mem_of_getElem? (i := 1432) (by decide +kernel)⟩
theorem lw_p75 : lw_okq (⟨"OnlyTwoEnemiesModel", "draw", "(I)I"⟩, 31) := ⟨⟨by decide +kernel, by decide +kernel⟩, List.mem_of_getElem? (i := 932) (by decide +kernel), List.mem_of_getElem? (i := 1463) (by decide +kernel), List.mem_of_getElem? (i := 1464) (by decide +kernel)⟩
def lw_privs_5 : List (MethodName × Nat) := [(⟨"OnlyTwoEnemiesModel", "keepersIn", "(I)I"⟩, 31), (⟨"OnlyTwoEnemiesModel", "findTwos", "(II)V"⟩, 31), (⟨"OnlyTwoEnemiesModel", "opensSo", "()Z"⟩, 31), (⟨"OnlyTwoEnemiesModel", "bitsFor", "([IIII)I"⟩, 31), (⟨"OnlyTwoEnemiesModel", "hatesSo", "(II)Z"⟩, 31), (⟨"OnlyTwoEnemiesModel", "lowestOf", "(I)J"⟩, 31), (⟨"OnlyTwoEnemiesModel", "getsOf", "(IIII)I"⟩, 31), (⟨"OnlyTwoEnemiesModel", "isOpenMeeting", "(IIIII)Z"⟩, 31), (⟨"OnlyTwoEnemiesModel", "hatesOf", "(I)I"⟩, 31), (⟨"OnlyTwoEnemiesModel", "lower", "(I)I"⟩, 31), (⟨"OnlyTwoEnemiesModel", "manySwapped", "(III)I"⟩, 31), (⟨"OnlyTwoEnemiesModel", "draw", "(I)I"⟩, 31)]
theorem lw_r5 : ∀ q ∈ lw_privs_5, lw_okq q := List.forall_mem_cons.mpr ⟨lw_p64, List.forall_mem_cons.mpr ⟨lw_p65, List.forall_mem_cons.mpr ⟨lw_p66, List.forall_mem_cons.mpr ⟨lw_p67, List.forall_mem_cons.mpr ⟨lw_p68, List.forall_mem_cons.mpr ⟨lw_p69, List.forall_mem_cons.mpr ⟨lw_p70, List.forall_mem_cons.mpr ⟨lw_p71, List.forall_mem_cons.mpr ⟨lw_p72, List.forall_mem_cons.mpr ⟨lw_p73, List.forall_mem_cons.mpr ⟨lw_p74, List.forall_mem_cons.mpr ⟨lw_p75, fun _ h => absurd h List.not_mem_nil⟩⟩⟩⟩⟩⟩⟩⟩⟩⟩⟩⟩
def lw_privs : List (MethodName × Nat) := lw_privs_1 ++ (lw_privs_2 ++ (lw_privs_3 ++ (lw_privs_4 ++ (lw_privs_5))))
def lw_tbl : List Cond := k2_sels lw_privs ++ tables_1
theorem lw_privs_ok : ∀ q ∈ lw_privs, lw_okq q := by
  show ∀ q ∈ lw_privs_1 ++ (lw_privs_2 ++ (lw_privs_3 ++ (lw_privs_4 ++ (lw_privs_5)))), lw_okq q
  exact List.forall_mem_append.mpr ⟨lw_r1, List.forall_mem_append.mpr ⟨lw_r2, List.forall_mem_append.mpr ⟨lw_r3, List.forall_mem_append.mpr ⟨lw_r4, lw_r5⟩⟩⟩⟩
end
section
def RX0 : String := "OnlyTwoEnemies$Chance"
def TX0 : u_T := fun k => match k with
  | _ => ("", "", "", false)
def tyX0 : Nat → FieldType := fun k => match k with
  | _ => .int
abbrev wsX00 : List Cond := u_ws RX0 TX0 0
theorem nmX0 : ∀ a, a < 0 → ∀ b, b < 0 → a ≠ b → (TX0 a).2.1 ≠ (TX0 b).2.1 := by decide +kernel
theorem tyX0_ok : ∀ k, k < 0 → parseFieldDescriptor (TX0 k).2.2.1 = some (tyX0 k) := by decide +kernel
abbrev cX0_power : ByteArray := prog_2_method_2_code
def yX0_power : MethodName := ⟨RX0, "power", "(II)J"⟩
abbrev cX0_ways : ByteArray := prog_2_method_3_code
def yX0_ways : MethodName := ⟨RX0, "ways", "(III)J"⟩
abbrev cX0_part : ByteArray := prog_2_method_4_code
def yX0_part : MethodName := ⟨RX0, "part", "(JJI)J"⟩
abbrev cX0_commonDivisor : ByteArray := prog_2_method_5_code
def yX0_commonDivisor : MethodName := ⟨RX0, "commonDivisor", "(JJ)J"⟩
def RX1 : String := "OnlyTwoEnemies$Country"
def TX1 : u_T := fun k => match k with
  | 0 => ("OnlyTwoEnemies$Country", "kinds", "[I", true)
  | 1 => ("OnlyTwoEnemies$Country", "figures", "[I", true)
  | 2 => ("OnlyTwoEnemies$Country", "towns", "[I", true)
  | 3 => ("OnlyTwoEnemies$Country", "hatreds", "[I", true)
  | 4 => ("OnlyTwoEnemies$Country", "depths", "[I", true)
  | 5 => ("OnlyTwoEnemies$Country", "letterTowns", "[I", true)
  | 6 => ("OnlyTwoEnemies$Country", "openers", "[I", true)
  | 7 => ("OnlyTwoEnemies$Country", "keepers", "I", false)
  | 8 => ("OnlyTwoEnemies$Country", "letters", "I", false)
  | 9 => ("OnlyTwoEnemies$Country", "open", "I", false)
  | _ => ("OnlyTwoEnemies$Country", "week", "I", false)
def tyX1 : Nat → FieldType := fun k => match k with
  | 0 => .array .int
  | 1 => .array .int
  | 2 => .array .int
  | 3 => .array .int
  | 4 => .array .int
  | 5 => .array .int
  | 6 => .array .int
  | 7 => .int
  | 8 => .int
  | 9 => .int
  | _ => .int
abbrev wsX10 : List Cond := u_ws RX1 TX1 11
theorem nmX1 : ∀ a, a < 11 → ∀ b, b < 11 → a ≠ b → (TX1 a).2.1 ≠ (TX1 b).2.1 := by decide +kernel
theorem tyX1_ok : ∀ k, k < 11 → parseFieldDescriptor (TX1 k).2.2.1 = some (tyX1 k) := by decide +kernel
abbrev cX1_init : ByteArray := prog_3_method_1_code
def yX1_init : MethodName := ⟨RX1, "<init>", "()V"⟩
abbrev cX1_become : ByteArray := prog_3_method_2_code
def yX1_become : MethodName := ⟨RX1, "become", "(LOnlyTwoEnemies$Country;)V"⟩
abbrev cX1_keeperCount : ByteArray := prog_3_method_3_code
def yX1_keeperCount : MethodName := ⟨RX1, "keeperCount", "()I"⟩
abbrev cX1_letterCount : ByteArray := prog_3_method_4_code
def yX1_letterCount : MethodName := ⟨RX1, "letterCount", "()I"⟩
abbrev cX1_weekNow : ByteArray := prog_3_method_5_code
def yX1_weekNow : MethodName := ⟨RX1, "weekNow", "()I"⟩
abbrev cX1_openBits : ByteArray := prog_3_method_6_code
def yX1_openBits : MethodName := ⟨RX1, "openBits", "()I"⟩
abbrev cX1_openCount : ByteArray := prog_3_method_7_code
def yX1_openCount : MethodName := ⟨RX1, "openCount", "()I"⟩
abbrev cX1_hasKeeper : ByteArray := prog_3_method_8_code
def yX1_hasKeeper : MethodName := ⟨RX1, "hasKeeper", "(I)Z"⟩
abbrev cX1_hasLetter : ByteArray := prog_3_method_9_code
def yX1_hasLetter : MethodName := ⟨RX1, "hasLetter", "(I)Z"⟩
abbrev cX1_areTwo : ByteArray := prog_3_method_10_code
def yX1_areTwo : MethodName := ⟨RX1, "areTwo", "(II)Z"⟩
abbrev cX1_areBothIn : ByteArray := prog_3_method_11_code
def yX1_areBothIn : MethodName := ⟨RX1, "areBothIn", "(III)Z"⟩
abbrev cX1_hasKeeperRoom : ByteArray := prog_3_method_12_code
def yX1_hasKeeperRoom : MethodName := ⟨RX1, "hasKeeperRoom", "()Z"⟩
abbrev cX1_hasLetterRoom : ByteArray := prog_3_method_13_code
def yX1_hasLetterRoom : MethodName := ⟨RX1, "hasLetterRoom", "()Z"⟩
abbrev cX1_kindOf : ByteArray := prog_3_method_14_code
def yX1_kindOf : MethodName := ⟨RX1, "kindOf", "(I)I"⟩
abbrev cX1_figureOf : ByteArray := prog_3_method_15_code
def yX1_figureOf : MethodName := ⟨RX1, "figureOf", "(I)I"⟩
abbrev cX1_townOf : ByteArray := prog_3_method_16_code
def yX1_townOf : MethodName := ⟨RX1, "townOf", "(I)I"⟩
abbrev cX1_fadeOf : ByteArray := prog_3_method_17_code
def yX1_fadeOf : MethodName := ⟨RX1, "fadeOf", "(I)I"⟩
abbrev cX1_stirOf : ByteArray := prog_3_method_18_code
def yX1_stirOf : MethodName := ⟨RX1, "stirOf", "(I)I"⟩
abbrev cX1_wageOf : ByteArray := prog_3_method_19_code
def yX1_wageOf : MethodName := ⟨RX1, "wageOf", "(I)I"⟩
abbrev cX1_depthOf : ByteArray := prog_3_method_20_code
def yX1_depthOf : MethodName := ⟨RX1, "depthOf", "(I)I"⟩
abbrev cX1_letterTownOf : ByteArray := prog_3_method_21_code
def yX1_letterTownOf : MethodName := ⟨RX1, "letterTownOf", "(I)I"⟩
abbrev cX1_isOpen : ByteArray := prog_3_method_22_code
def yX1_isOpen : MethodName := ⟨RX1, "isOpen", "(I)Z"⟩
abbrev cX1_openedBy : ByteArray := prog_3_method_23_code
def yX1_openedBy : MethodName := ⟨RX1, "openedBy", "(I)I"⟩
abbrev cX1_hateOf : ByteArray := prog_3_method_24_code
def yX1_hateOf : MethodName := ⟨RX1, "hateOf", "(II)I"⟩
abbrev cX1_allHate : ByteArray := prog_3_method_25_code
def yX1_allHate : MethodName := ⟨RX1, "allHate", "()I"⟩
abbrev cX1_addKeeper : ByteArray := prog_3_method_26_code
def yX1_addKeeper : MethodName := ⟨RX1, "addKeeper", "(III)I"⟩
abbrev cX1_addLetter : ByteArray := prog_3_method_27_code
def yX1_addLetter : MethodName := ⟨RX1, "addLetter", "(II)I"⟩
abbrev cX1_setHate : ByteArray := prog_3_method_28_code
def yX1_setHate : MethodName := ⟨RX1, "setHate", "(III)V"⟩
abbrev cX1_setKind : ByteArray := prog_3_method_29_code
def yX1_setKind : MethodName := ⟨RX1, "setKind", "(II)V"⟩
abbrev cX1_setFigure : ByteArray := prog_3_method_30_code
def yX1_setFigure : MethodName := ⟨RX1, "setFigure", "(II)V"⟩
abbrev cX1_move : ByteArray := prog_3_method_31_code
def yX1_move : MethodName := ⟨RX1, "move", "(II)V"⟩
abbrev cX1_turnSeal : ByteArray := prog_3_method_32_code
def yX1_turnSeal : MethodName := ⟨RX1, "turnSeal", "(I)V"⟩
abbrev cX1_opener : ByteArray := prog_3_method_33_code
def yX1_opener : MethodName := ⟨RX1, "opener", "(I)I"⟩
abbrev cX1_passWeeks : ByteArray := prog_3_method_34_code
def yX1_passWeeks : MethodName := ⟨RX1, "passWeeks", "(I)I"⟩
abbrev cX1_passWeek : ByteArray := prog_3_method_35_code
def yX1_passWeek : MethodName := ⟨RX1, "passWeek", "()I"⟩
abbrev cX1_change : ByteArray := prog_3_method_36_code
def yX1_change : MethodName := ⟨RX1, "change", "(II)I"⟩
def RX2 : String := "OnlyTwoEnemies$Kinds"
def TX2 : u_T := fun k => match k with
  | _ => ("", "", "", false)
def tyX2 : Nat → FieldType := fun k => match k with
  | _ => .int
abbrev wsX20 : List Cond := u_ws RX2 TX2 0
theorem nmX2 : ∀ a, a < 0 → ∀ b, b < 0 → a ≠ b → (TX2 a).2.1 ≠ (TX2 b).2.1 := by decide +kernel
theorem tyX2_ok : ∀ k, k < 0 → parseFieldDescriptor (TX2 k).2.2.1 = some (tyX2 k) := by decide +kernel
abbrev cX2_fading : ByteArray := prog_4_method_2_code
def yX2_fading : MethodName := ⟨RX2, "fading", "(II)I"⟩
abbrev cX2_stirring : ByteArray := prog_4_method_3_code
def yX2_stirring : MethodName := ⟨RX2, "stirring", "(II)I"⟩
abbrev cX2_wage : ByteArray := prog_4_method_4_code
def yX2_wage : MethodName := ⟨RX2, "wage", "(II)I"⟩
def RX3 : String := "OnlyTwoEnemies$Look"
def TX3 : u_T := fun k => match k with
  | 0 => ("OnlyTwoEnemies$Look", "now", "LOnlyTwoEnemies$Country;", true)
  | _ => ("OnlyTwoEnemies$Look", "twosAmong", "[I", true)
def tyX3 : Nat → FieldType := fun k => match k with
  | 0 => .object "OnlyTwoEnemies$Country"
  | _ => .array .int
abbrev wsX30 : List Cond := u_ws RX3 TX3 2
theorem nmX3 : ∀ a, a < 2 → ∀ b, b < 2 → a ≠ b → (TX3 a).2.1 ≠ (TX3 b).2.1 := by decide +kernel
theorem tyX3_ok : ∀ k, k < 2 → parseFieldDescriptor (TX3 k).2.2.1 = some (tyX3 k) := by decide +kernel
abbrev cX3_init : ByteArray := prog_5_method_1_code
def yX3_init : MethodName := ⟨RX3, "<init>", "(LOnlyTwoEnemies$Country;)V"⟩
abbrev cX3_keepersIn : ByteArray := prog_5_method_2_code
def yX3_keepersIn : MethodName := ⟨RX3, "keepersIn", "(I)I"⟩
abbrev cX3_wages : ByteArray := prog_5_method_3_code
def yX3_wages : MethodName := ⟨RX3, "wages", "(I)I"⟩
abbrev cX3_crowd : ByteArray := prog_5_method_4_code
def yX3_crowd : MethodName := ⟨RX3, "crowd", "(I)I"⟩
abbrev cX3_townOfMost : ByteArray := prog_5_method_5_code
def yX3_townOfMost : MethodName := ⟨RX3, "townOfMost", "()I"⟩
abbrev cX3_mostHateIn : ByteArray := prog_5_method_6_code
def yX3_mostHateIn : MethodName := ⟨RX3, "mostHateIn", "(I)I"⟩
abbrev cX3_townsThatOpen : ByteArray := prog_5_method_7_code
def yX3_townsThatOpen : MethodName := ⟨RX3, "townsThatOpen", "(I)I"⟩
abbrev cX3_mostTwos : ByteArray := prog_5_method_8_code
def yX3_mostTwos : MethodName := ⟨RX3, "mostTwos", "(I)I"⟩
abbrev cX3_mostTwosWith : ByteArray := prog_5_method_9_code
def yX3_mostTwosWith : MethodName := ⟨RX3, "mostTwosWith", "(III)I"⟩
abbrev cX3_worstTwo : ByteArray := prog_5_method_10_code
def yX3_worstTwo : MethodName := ⟨RX3, "worstTwo", "(Z)I"⟩
abbrev cX3_friends : ByteArray := prog_5_method_11_code
def yX3_friends : MethodName := ⟨RX3, "friends", "()I"⟩
abbrev cX3_deepestSealed : ByteArray := prog_5_method_12_code
def yX3_deepestSealed : MethodName := ⟨RX3, "deepestSealed", "()I"⟩
abbrev cX3_leastHating : ByteArray := prog_5_method_13_code
def yX3_leastHating : MethodName := ⟨RX3, "leastHating", "()I"⟩
abbrev cX3_hatesTogether : ByteArray := prog_5_method_14_code
def yX3_hatesTogether : MethodName := ⟨RX3, "hatesTogether", "(I)I"⟩
abbrev cX3_hateOrSelf : ByteArray := prog_5_method_15_code
def yX3_hateOrSelf : MethodName := ⟨RX3, "hateOrSelf", "(II)I"⟩
abbrev cX3_mostHated : ByteArray := prog_5_method_16_code
def yX3_mostHated : MethodName := ⟨RX3, "mostHated", "(I)I"⟩
abbrev cX3_bareTowns : ByteArray := prog_5_method_17_code
def yX3_bareTowns : MethodName := ⟨RX3, "bareTowns", "()I"⟩
abbrev cX3_firstMisjudged : ByteArray := prog_5_method_18_code
def yX3_firstMisjudged : MethodName := ⟨RX3, "firstMisjudged", "(ILOnlyTwoEnemies$Row;)I"⟩
def RX4 : String := "OnlyTwoEnemies$Mind"
def TX4 : u_T := fun k => match k with
  | 0 => ("OnlyTwoEnemies$Mind", "now", "LOnlyTwoEnemies$Country;", true)
  | _ => ("OnlyTwoEnemies$Mind", "ahead", "LOnlyTwoEnemies$Country;", true)
def tyX4 : Nat → FieldType := fun k => match k with
  | 0 => .object "OnlyTwoEnemies$Country"
  | _ => .object "OnlyTwoEnemies$Country"
abbrev wsX40 : List Cond := u_ws RX4 TX4 2
theorem nmX4 : ∀ a, a < 2 → ∀ b, b < 2 → a ≠ b → (TX4 a).2.1 ≠ (TX4 b).2.1 := by decide +kernel
theorem tyX4_ok : ∀ k, k < 2 → parseFieldDescriptor (TX4 k).2.2.1 = some (tyX4 k) := by decide +kernel
abbrev cX4_init : ByteArray := prog_6_method_1_code
def yX4_init : MethodName := ⟨RX4, "<init>", "(LOnlyTwoEnemies$Country;)V"⟩
abbrev cX4_hateAfter : ByteArray := prog_6_method_2_code
def yX4_hateAfter : MethodName := ⟨RX4, "hateAfter", "(III)I"⟩
abbrev cX4_openBitsAfter : ByteArray := prog_6_method_3_code
def yX4_openBitsAfter : MethodName := ⟨RX4, "openBitsAfter", "(I)I"⟩
abbrev cX4_allHateAfter : ByteArray := prog_6_method_4_code
def yX4_allHateAfter : MethodName := ⟨RX4, "allHateAfter", "(I)I"⟩
abbrev cX4_weekOpened : ByteArray := prog_6_method_5_code
def yX4_weekOpened : MethodName := ⟨RX4, "weekOpened", "(I)I"⟩
abbrev cX4_openedBy : ByteArray := prog_6_method_6_code
def yX4_openedBy : MethodName := ⟨RX4, "openedBy", "(I)I"⟩
abbrev cX4_weekBelow : ByteArray := prog_6_method_7_code
def yX4_weekBelow : MethodName := ⟨RX4, "weekBelow", "(III)I"⟩
abbrev cX4_sealedFar : ByteArray := prog_6_method_8_code
def yX4_sealedFar : MethodName := ⟨RX4, "sealedFar", "()I"⟩
abbrev cX4_firstOpened : ByteArray := prog_6_method_9_code
def yX4_firstOpened : MethodName := ⟨RX4, "firstOpened", "()I"⟩
abbrev cX4_leastInsult : ByteArray := prog_6_method_10_code
def yX4_leastInsult : MethodName := ⟨RX4, "leastInsult", "(III)I"⟩
abbrev cX4_idleWeeks : ByteArray := prog_6_method_11_code
def yX4_idleWeeks : MethodName := ⟨RX4, "idleWeeks", "(I)I"⟩
abbrev cX4_openAsAllIs : ByteArray := prog_6_method_12_code
def yX4_openAsAllIs : MethodName := ⟨RX4, "openAsAllIs", "(I)I"⟩
abbrev cX4_bestSending : ByteArray := prog_6_method_13_code
def yX4_bestSending : MethodName := ⟨RX4, "bestSending", "(I)I"⟩
abbrev cX4_bestSwap : ByteArray := prog_6_method_14_code
def yX4_bestSwap : MethodName := ⟨RX4, "bestSwap", "(I)I"⟩
abbrev cX4_bestPlaces : ByteArray := prog_6_method_15_code
def yX4_bestPlaces : MethodName := ⟨RX4, "bestPlaces", "(IIII)I"⟩
abbrev cX4_openPlaced : ByteArray := prog_6_method_16_code
def yX4_openPlaced : MethodName := ⟨RX4, "openPlaced", "(IIIII)I"⟩
abbrev cX4_fewestKept : ByteArray := prog_6_method_17_code
def yX4_fewestKept : MethodName := ⟨RX4, "fewestKept", "(I)I"⟩
abbrev cX4_openKept : ByteArray := prog_6_method_18_code
def yX4_openKept : MethodName := ⟨RX4, "openKept", "(II)I"⟩
abbrev cX4_fittingHate : ByteArray := prog_6_method_19_code
def yX4_fittingHate : MethodName := ⟨RX4, "fittingHate", "(IILOnlyTwoEnemies$Row;I)I"⟩
abbrev cX4_opensAsTold : ByteArray := prog_6_method_20_code
def yX4_opensAsTold : MethodName := ⟨RX4, "opensAsTold", "(LOnlyTwoEnemies$Row;)Z"⟩
abbrev cX4_fittingKinds : ByteArray := prog_6_method_21_code
def yX4_fittingKinds : MethodName := ⟨RX4, "fittingKinds", "(IILOnlyTwoEnemies$Row;)I"⟩
abbrev cX4_fittingFigures : ByteArray := prog_6_method_22_code
def yX4_fittingFigures : MethodName := ⟨RX4, "fittingFigures", "(IILOnlyTwoEnemies$Row;)I"⟩
abbrev cX4_hatesAsTold : ByteArray := prog_6_method_23_code
def yX4_hatesAsTold : MethodName := ⟨RX4, "hatesAsTold", "(IILOnlyTwoEnemies$Row;)Z"⟩
abbrev cX4_settled : ByteArray := prog_6_method_24_code
def yX4_settled : MethodName := ⟨RX4, "settled", "(II)I"⟩
abbrev cX4_hateMadeUp : ByteArray := prog_6_method_25_code
def yX4_hateMadeUp : MethodName := ⟨RX4, "hateMadeUp", "(II)I"⟩
abbrev cX4_gain : ByteArray := prog_6_method_26_code
def yX4_gain : MethodName := ⟨RX4, "gain", "(IIIII)I"⟩
abbrev cX4_meetingWays : ByteArray := prog_6_method_27_code
def yX4_meetingWays : MethodName := ⟨RX4, "meetingWays", "(IIIII)J"⟩
abbrev cX4_byLot : ByteArray := prog_6_method_28_code
def yX4_byLot : MethodName := ⟨RX4, "byLot", "(III)I"⟩
def RX5 : String := "OnlyTwoEnemies$Past"
def TX5 : u_T := fun k => match k with
  | 0 => ("OnlyTwoEnemies$Past", "earlier", "[LOnlyTwoEnemies$Country;", true)
  | 1 => ("OnlyTwoEnemies$Past", "next", "I", false)
  | _ => ("OnlyTwoEnemies$Past", "size", "I", false)
def tyX5 : Nat → FieldType := fun k => match k with
  | 0 => .array (.object "OnlyTwoEnemies$Country")
  | 1 => .int
  | _ => .int
abbrev wsX50 : List Cond := u_ws RX5 TX5 3
theorem nmX5 : ∀ a, a < 3 → ∀ b, b < 3 → a ≠ b → (TX5 a).2.1 ≠ (TX5 b).2.1 := by decide +kernel
theorem tyX5_ok : ∀ k, k < 3 → parseFieldDescriptor (TX5 k).2.2.1 = some (tyX5 k) := by decide +kernel
abbrev cX5_init : ByteArray := prog_7_method_1_code
def yX5_init : MethodName := ⟨RX5, "<init>", "()V"⟩
abbrev cX5_size : ByteArray := prog_7_method_2_code
def yX5_size : MethodName := ⟨RX5, "size", "()I"⟩
abbrev cX5_forget : ByteArray := prog_7_method_3_code
def yX5_forget : MethodName := ⟨RX5, "forget", "()V"⟩
abbrev cX5_remember : ByteArray := prog_7_method_4_code
def yX5_remember : MethodName := ⟨RX5, "remember", "(LOnlyTwoEnemies$Country;)V"⟩
abbrev cX5_takeBack : ByteArray := prog_7_method_5_code
def yX5_takeBack : MethodName := ⟨RX5, "takeBack", "(LOnlyTwoEnemies$Country;)V"⟩
abbrev cX5_country : ByteArray := prog_7_method_6_code
def yX5_country : MethodName := ⟨RX5, "country", "(I)LOnlyTwoEnemies$Country;"⟩
def RX6 : String := "OnlyTwoEnemies$Row"
def TX6 : u_T := fun k => match k with
  | 0 => ("OnlyTwoEnemies$Row", "numbers", "[I", true)
  | _ => ("OnlyTwoEnemies$Row", "size", "I", false)
def tyX6 : Nat → FieldType := fun k => match k with
  | 0 => .array .int
  | _ => .int
abbrev wsX60 : List Cond := u_ws RX6 TX6 2
theorem nmX6 : ∀ a, a < 2 → ∀ b, b < 2 → a ≠ b → (TX6 a).2.1 ≠ (TX6 b).2.1 := by decide +kernel
theorem tyX6_ok : ∀ k, k < 2 → parseFieldDescriptor (TX6 k).2.2.1 = some (tyX6 k) := by decide +kernel
abbrev cX6_init : ByteArray := prog_8_method_1_code
def yX6_init : MethodName := ⟨RX6, "<init>", "()V"⟩
abbrev cX6_size : ByteArray := prog_8_method_2_code
def yX6_size : MethodName := ⟨RX6, "size", "()I"⟩
abbrev cX6_isFull : ByteArray := prog_8_method_3_code
def yX6_isFull : MethodName := ⟨RX6, "isFull", "()Z"⟩
abbrev cX6_add : ByteArray := prog_8_method_4_code
def yX6_add : MethodName := ⟨RX6, "add", "(I)I"⟩
abbrev cX6_number : ByteArray := prog_8_method_5_code
def yX6_number : MethodName := ⟨RX6, "number", "(I)I"⟩
abbrev cX6_empty : ByteArray := prog_8_method_6_code
def yX6_empty : MethodName := ⟨RX6, "empty", "()V"⟩
def RX7 : String := "OnlyTwoEnemies$Telling"
def TX7 : u_T := fun k => match k with
  | 0 => ("OnlyTwoEnemies$Telling", "signs", "[I", true)
  | _ => ("OnlyTwoEnemies$Telling", "size", "I", false)
def tyX7 : Nat → FieldType := fun k => match k with
  | 0 => .array .int
  | _ => .int
abbrev wsX70 : List Cond := u_ws RX7 TX7 2
theorem nmX7 : ∀ a, a < 2 → ∀ b, b < 2 → a ≠ b → (TX7 a).2.1 ≠ (TX7 b).2.1 := by decide +kernel
theorem tyX7_ok : ∀ k, k < 2 → parseFieldDescriptor (TX7 k).2.2.1 = some (tyX7 k) := by decide +kernel
abbrev cX7_init : ByteArray := prog_9_method_1_code
def yX7_init : MethodName := ⟨RX7, "<init>", "()V"⟩
abbrev cX7_size : ByteArray := prog_9_method_2_code
def yX7_size : MethodName := ⟨RX7, "size", "()I"⟩
abbrev cX7_isFull : ByteArray := prog_9_method_3_code
def yX7_isFull : MethodName := ⟨RX7, "isFull", "()Z"⟩
abbrev cX7_add : ByteArray := prog_9_method_4_code
def yX7_add : MethodName := ⟨RX7, "add", "(I)I"⟩
abbrev cX7_empty : ByteArray := prog_9_method_5_code
def yX7_empty : MethodName := ⟨RX7, "empty", "()V"⟩
abbrev cX7_tellTo : ByteArray := prog_9_method_6_code
def yX7_tellTo : MethodName := ⟨RX7, "tellTo", "(LOnlyTwoEnemies$Country;)I"⟩
abbrev cX7_brokenPlace : ByteArray := prog_9_method_7_code
def yX7_brokenPlace : MethodName := ⟨RX7, "brokenPlace", "()I"⟩
abbrev cX7_digitsBehind : ByteArray := prog_9_method_8_code
def yX7_digitsBehind : MethodName := ⟨RX7, "digitsBehind", "(I)I"⟩
abbrev cX7_isRight : ByteArray := prog_9_method_9_code
def yX7_isRight : MethodName := ⟨RX7, "isRight", "(ILOnlyTwoEnemies$Country;)Z"⟩
abbrev cX7_comes : ByteArray := prog_9_method_10_code
def yX7_comes : MethodName := ⟨RX7, "comes", "(ILOnlyTwoEnemies$Country;)V"⟩
abbrev cX7_sign : ByteArray := prog_9_method_11_code
def yX7_sign : MethodName := ⟨RX7, "sign", "(I)I"⟩
abbrev cX7_isDigit : ByteArray := prog_9_method_12_code
def yX7_isDigit : MethodName := ⟨RX7, "isDigit", "(I)Z"⟩
abbrev cX7_digit : ByteArray := prog_9_method_13_code
def yX7_digit : MethodName := ⟨RX7, "digit", "(I)I"⟩
abbrev cX7_twoDigits : ByteArray := prog_9_method_14_code
def yX7_twoDigits : MethodName := ⟨RX7, "twoDigits", "(I)I"⟩
def RX8 : String := "OnlyTwoEnemies"
def TX8 : u_T := fun k => match k with
  | 0 => ("OnlyTwoEnemies", "now", "LOnlyTwoEnemies$Country;", true)
  | 1 => ("OnlyTwoEnemies", "draft", "LOnlyTwoEnemies$Country;", true)
  | 2 => ("OnlyTwoEnemies", "kept", "LOnlyTwoEnemies$Country;", true)
  | 3 => ("OnlyTwoEnemies", "isKept", "Z", false)
  | 4 => ("OnlyTwoEnemies", "past", "LOnlyTwoEnemies$Past;", true)
  | 5 => ("OnlyTwoEnemies", "telling", "LOnlyTwoEnemies$Telling;", true)
  | 6 => ("OnlyTwoEnemies", "numbers", "LOnlyTwoEnemies$Row;", true)
  | 7 => ("OnlyTwoEnemies", "look", "LOnlyTwoEnemies$Look;", true)
  | 8 => ("OnlyTwoEnemies", "mind", "LOnlyTwoEnemies$Mind;", true)
  | _ => ("OnlyTwoEnemies", "refusals", "[I", true)
def tyX8 : Nat → FieldType := fun k => match k with
  | 0 => .object "OnlyTwoEnemies$Country"
  | 1 => .object "OnlyTwoEnemies$Country"
  | 2 => .object "OnlyTwoEnemies$Country"
  | 3 => .boolean
  | 4 => .object "OnlyTwoEnemies$Past"
  | 5 => .object "OnlyTwoEnemies$Telling"
  | 6 => .object "OnlyTwoEnemies$Row"
  | 7 => .object "OnlyTwoEnemies$Look"
  | 8 => .object "OnlyTwoEnemies$Mind"
  | _ => .array .int
abbrev wsX80 : List Cond := u_ws RX8 TX8 10
theorem nmX8 : ∀ a, a < 10 → ∀ b, b < 10 → a ≠ b → (TX8 a).2.1 ≠ (TX8 b).2.1 := by decide +kernel
theorem tyX8_ok : ∀ k, k < 10 → parseFieldDescriptor (TX8 k).2.2.1 = some (tyX8 k) := by decide +kernel
abbrev cX8_init : ByteArray := prog_1_method_1_code
def yX8_init : MethodName := ⟨RX8, "<init>", "()V"⟩
abbrev cX8_feed : ByteArray := prog_1_method_2_code
def yX8_feed : MethodName := ⟨RX8, "feed", "(I)I"⟩
abbrev cX8_land : ByteArray := prog_1_method_3_code
def yX8_land : MethodName := ⟨RX8, "land", "()I"⟩
abbrev cX8_keeperOf : ByteArray := prog_1_method_4_code
def yX8_keeperOf : MethodName := ⟨RX8, "keeperOf", "(II)I"⟩
abbrev cX8_letterOf : ByteArray := prog_1_method_5_code
def yX8_letterOf : MethodName := ⟨RX8, "letterOf", "(II)I"⟩
abbrev cX8_hate : ByteArray := prog_1_method_6_code
def yX8_hate : MethodName := ⟨RX8, "hate", "(II)I"⟩
abbrev cX8_count : ByteArray := prog_1_method_7_code
def yX8_count : MethodName := ⟨RX8, "count", "(I)I"⟩
abbrev cX8_keeper : ByteArray := prog_1_method_8_code
def yX8_keeper : MethodName := ⟨RX8, "keeper", "(III)I"⟩
abbrev cX8_letter : ByteArray := prog_1_method_9_code
def yX8_letter : MethodName := ⟨RX8, "letter", "(II)I"⟩
abbrev cX8_hates : ByteArray := prog_1_method_10_code
def yX8_hates : MethodName := ⟨RX8, "hates", "(III)I"⟩
abbrev cX8_goes : ByteArray := prog_1_method_11_code
def yX8_goes : MethodName := ⟨RX8, "goes", "(II)I"⟩
abbrev cX8_seals : ByteArray := prog_1_method_12_code
def yX8_seals : MethodName := ⟨RX8, "seals", "(I)I"⟩
abbrev cX8_weeks : ByteArray := prog_1_method_13_code
def yX8_weeks : MethodName := ⟨RX8, "weeks", "(I)I"⟩
abbrev cX8_back : ByteArray := prog_1_method_14_code
def yX8_back : MethodName := ⟨RX8, "back", "()I"⟩
abbrev cX8_image : ByteArray := prog_1_method_15_code
def yX8_image : MethodName := ⟨RX8, "image", "()I"⟩
abbrev cX8_restore : ByteArray := prog_1_method_16_code
def yX8_restore : MethodName := ⟨RX8, "restore", "()I"⟩
abbrev cX8_row : ByteArray := prog_1_method_17_code
def yX8_row : MethodName := ⟨RX8, "row", "(I)I"⟩
abbrev cX8_judge : ByteArray := prog_1_method_18_code
def yX8_judge : MethodName := ⟨RX8, "judge", "(I)I"⟩
abbrev cX8_clear : ByteArray := prog_1_method_19_code
def yX8_clear : MethodName := ⟨RX8, "clear", "()I"⟩
abbrev cX8_behind : ByteArray := prog_1_method_20_code
def yX8_behind : MethodName := ⟨RX8, "behind", "(III)I"⟩
abbrev cX8_then : ByteArray := prog_1_method_21_code
def yX8_then : MethodName := ⟨RX8, "then", "(II)I"⟩
abbrev cX8_when : ByteArray := prog_1_method_22_code
def yX8_when : MethodName := ⟨RX8, "when", "(II)I"⟩
abbrev cX8_lasts : ByteArray := prog_1_method_23_code
def yX8_lasts : MethodName := ⟨RX8, "lasts", "(III)I"⟩
abbrev cX8_never : ByteArray := prog_1_method_24_code
def yX8_never : MethodName := ⟨RX8, "never", "(I)I"⟩
abbrev cX8_insult : ByteArray := prog_1_method_25_code
def yX8_insult : MethodName := ⟨RX8, "insult", "(III)I"⟩
abbrev cX8_used : ByteArray := prog_1_method_26_code
def yX8_used : MethodName := ⟨RX8, "used", "(III)I"⟩
abbrev cX8_apart : ByteArray := prog_1_method_27_code
def yX8_apart : MethodName := ⟨RX8, "apart", "(I)I"⟩
abbrev cX8_two : ByteArray := prog_1_method_28_code
def yX8_two : MethodName := ⟨RX8, "two", "(II)I"⟩
abbrev cX8_send : ByteArray := prog_1_method_29_code
def yX8_send : MethodName := ⟨RX8, "send", "(I)I"⟩
abbrev cX8_swap : ByteArray := prog_1_method_30_code
def yX8_swap : MethodName := ⟨RX8, "swap", "(I)I"⟩
abbrev cX8_places : ByteArray := prog_1_method_31_code
def yX8_places : MethodName := ⟨RX8, "places", "(IIIII)I"⟩
abbrev cX8_fewest : ByteArray := prog_1_method_32_code
def yX8_fewest : MethodName := ⟨RX8, "fewest", "(II)I"⟩
abbrev cX8_pay : ByteArray := prog_1_method_33_code
def yX8_pay : MethodName := ⟨RX8, "pay", "(II)I"⟩
abbrev cX8_whoHates : ByteArray := prog_1_method_34_code
def yX8_whoHates : MethodName := ⟨RX8, "whoHates", "(III)I"⟩
abbrev cX8_whatKind : ByteArray := prog_1_method_35_code
def yX8_whatKind : MethodName := ⟨RX8, "whatKind", "(III)I"⟩
abbrev cX8_jug : ByteArray := prog_1_method_36_code
def yX8_jug : MethodName := ⟨RX8, "jug", "(IIII)J"⟩
abbrev cX8_meetings : ByteArray := prog_1_method_37_code
def yX8_meetings : MethodName := ⟨RX8, "meetings", "(IIIIII)J"⟩
abbrev cX8_lots : ByteArray := prog_1_method_38_code
def yX8_lots : MethodName := ⟨RX8, "lots", "(III)I"⟩
abbrev cX8_deepest : ByteArray := prog_1_method_39_code
def yX8_deepest : MethodName := ⟨RX8, "deepest", "(I)I"⟩
abbrev cX8_can : ByteArray := prog_1_method_40_code
def yX8_can : MethodName := ⟨RX8, "can", "(I)I"⟩
abbrev cX8_pairs : ByteArray := prog_1_method_41_code
def yX8_pairs : MethodName := ⟨RX8, "pairs", "(I)I"⟩
abbrev cX8_worst : ByteArray := prog_1_method_42_code
def yX8_worst : MethodName := ⟨RX8, "worst", "(I)I"⟩
abbrev cX8_fullest : ByteArray := prog_1_method_43_code
def yX8_fullest : MethodName := ⟨RX8, "fullest", "(I)I"⟩
abbrev cX8_thickest : ByteArray := prog_1_method_44_code
def yX8_thickest : MethodName := ⟨RX8, "thickest", "()I"⟩
abbrev cX8_mildest : ByteArray := prog_1_method_45_code
def yX8_mildest : MethodName := ⟨RX8, "mildest", "()I"⟩
abbrev cX8_bare : ByteArray := prog_1_method_46_code
def yX8_bare : MethodName := ⟨RX8, "bare", "()I"⟩
abbrev cX8_enemy : ByteArray := prog_1_method_47_code
def yX8_enemy : MethodName := ⟨RX8, "enemy", "(I)I"⟩
abbrev cX8_mean : ByteArray := prog_1_method_48_code
def yX8_mean : MethodName := ⟨RX8, "mean", "(I)J"⟩
abbrev cX8_refused : ByteArray := prog_1_method_49_code
def yX8_refused : MethodName := ⟨RX8, "refused", "(I)I"⟩
abbrev cX8_keeperRefusal : ByteArray := prog_1_method_50_code
def yX8_keeperRefusal : MethodName := ⟨RX8, "keeperRefusal", "(I)I"⟩
abbrev cX8_letterRefusal : ByteArray := prog_1_method_51_code
def yX8_letterRefusal : MethodName := ⟨RX8, "letterRefusal", "(I)I"⟩
abbrev cX8_twoRefusal : ByteArray := prog_1_method_52_code
def yX8_twoRefusal : MethodName := ⟨RX8, "twoRefusal", "(II)I"⟩
abbrev cX8_townRefusal : ByteArray := prog_1_method_53_code
def yX8_townRefusal : MethodName := ⟨RX8, "townRefusal", "(I)I"⟩
abbrev cX8_isTown : ByteArray := prog_1_method_54_code
def yX8_isTown : MethodName := ⟨RX8, "isTown", "(I)Z"⟩
abbrev cX8_range : ByteArray := prog_1_method_55_code
def yX8_range : MethodName := ⟨RX8, "range", "(III)I"⟩
abbrev cX8_choice : ByteArray := prog_1_method_56_code
def yX8_choice : MethodName := ⟨RX8, "choice", "(II)I"⟩
abbrev cX8_firstOf : ByteArray := prog_1_method_57_code
def yX8_firstOf : MethodName := ⟨RX8, "firstOf", "(III)I"⟩
abbrev cX8_at : ByteArray := prog_1_method_58_code
def yX8_at : MethodName := ⟨RX8, "at", "([II)I"⟩
abbrev cX8_put : ByteArray := prog_1_method_59_code
def yX8_put : MethodName := ⟨RX8, "put", "([III)V"⟩
abbrev cX8_copy : ByteArray := prog_1_method_60_code
def yX8_copy : MethodName := ⟨RX8, "copy", "([I[I)V"⟩
abbrev cX8_bit : ByteArray := prog_1_method_61_code
def yX8_bit : MethodName := ⟨RX8, "bit", "(II)I"⟩
abbrev cX8_twoName : ByteArray := prog_1_method_62_code
def yX8_twoName : MethodName := ⟨RX8, "twoName", "(II)I"⟩
def RX9 : String := "OnlyTwoEnemiesModel"
def TX9 : u_T := fun k => match k with
  | 0 => ("OnlyTwoEnemiesModel", "refused", "[I", true)
  | 1 => ("OnlyTwoEnemiesModel", "kind", "[I", true)
  | 2 => ("OnlyTwoEnemiesModel", "figure", "[I", true)
  | 3 => ("OnlyTwoEnemiesModel", "town", "[I", true)
  | 4 => ("OnlyTwoEnemiesModel", "hate", "[I", true)
  | 5 => ("OnlyTwoEnemiesModel", "depth", "[I", true)
  | 6 => ("OnlyTwoEnemiesModel", "lies", "[I", true)
  | 7 => ("OnlyTwoEnemiesModel", "open", "[I", true)
  | 8 => ("OnlyTwoEnemiesModel", "keepers", "I", false)
  | 9 => ("OnlyTwoEnemiesModel", "letters", "I", false)
  | 10 => ("OnlyTwoEnemiesModel", "week", "I", false)
  | 11 => ("OnlyTwoEnemiesModel", "out", "I", false)
  | 12 => ("OnlyTwoEnemiesModel", "tape", "[I", true)
  | 13 => ("OnlyTwoEnemiesModel", "mark", "[I", true)
  | 14 => ("OnlyTwoEnemiesModel", "markAt", "[I", true)
  | 15 => ("OnlyTwoEnemiesModel", "told", "[I", true)
  | 16 => ("OnlyTwoEnemiesModel", "taped", "I", false)
  | 17 => ("OnlyTwoEnemiesModel", "reading", "I", false)
  | 18 => ("OnlyTwoEnemiesModel", "statements", "I", false)
  | 19 => ("OnlyTwoEnemiesModel", "kept", "[I", true)
  | 20 => ("OnlyTwoEnemiesModel", "hasImage", "Z", false)
  | 21 => ("OnlyTwoEnemiesModel", "isKeeping", "Z", false)
  | 22 => ("OnlyTwoEnemiesModel", "cursor", "I", false)
  | 23 => ("OnlyTwoEnemiesModel", "backs", "I", false)
  | 24 => ("OnlyTwoEnemiesModel", "openedBy", "[I", true)
  | 25 => ("OnlyTwoEnemiesModel", "openedNow", "I", false)
  | 26 => ("OnlyTwoEnemiesModel", "byWhom", "I", false)
  | 27 => ("OnlyTwoEnemiesModel", "twosOf", "[I", true)
  | 28 => ("OnlyTwoEnemiesModel", "row", "[I", true)
  | 29 => ("OnlyTwoEnemiesModel", "rowMany", "I", false)
  | _ => ("OnlyTwoEnemiesModel", "lots", "I", false)
def tyX9 : Nat → FieldType := fun k => match k with
  | 0 => .array .int
  | 1 => .array .int
  | 2 => .array .int
  | 3 => .array .int
  | 4 => .array .int
  | 5 => .array .int
  | 6 => .array .int
  | 7 => .array .int
  | 8 => .int
  | 9 => .int
  | 10 => .int
  | 11 => .int
  | 12 => .array .int
  | 13 => .array .int
  | 14 => .array .int
  | 15 => .array .int
  | 16 => .int
  | 17 => .int
  | 18 => .int
  | 19 => .array .int
  | 20 => .boolean
  | 21 => .boolean
  | 22 => .int
  | 23 => .int
  | 24 => .array .int
  | 25 => .int
  | 26 => .int
  | 27 => .array .int
  | 28 => .array .int
  | 29 => .int
  | _ => .int
abbrev wsX90 : List Cond := u_ws RX9 TX9 31
theorem nmX9 : ∀ a, a < 31 → ∀ b, b < 31 → a ≠ b → (TX9 a).2.1 ≠ (TX9 b).2.1 := by decide +kernel
theorem tyX9_ok : ∀ k, k < 31 → parseFieldDescriptor (TX9 k).2.2.1 = some (tyX9 k) := by decide +kernel
abbrev cX9_init : ByteArray := prog_11_method_1_code
def yX9_init : MethodName := ⟨RX9, "<init>", "()V"⟩
abbrev cX9_no : ByteArray := prog_11_method_2_code
def yX9_no : MethodName := ⟨RX9, "no", "(I)I"⟩
abbrev cX9_lower : ByteArray := prog_11_method_3_code
def yX9_lower : MethodName := ⟨RX9, "lower", "(I)I"⟩
abbrev cX9_lowestOf : ByteArray := prog_11_method_4_code
def yX9_lowestOf : MethodName := ⟨RX9, "lowestOf", "(I)J"⟩
abbrev cX9_isIn : ByteArray := prog_11_method_5_code
def yX9_isIn : MethodName := ⟨RX9, "isIn", "(III)Z"⟩
abbrev cX9_bound : ByteArray := prog_11_method_6_code
def yX9_bound : MethodName := ⟨RX9, "bound", "(III)I"⟩
abbrev cX9_held : ByteArray := prog_11_method_7_code
def yX9_held : MethodName := ⟨RX9, "held", "(III)I"⟩
abbrev cX9_has : ByteArray := prog_11_method_8_code
def yX9_has : MethodName := ⟨RX9, "has", "(II)Z"⟩
abbrev cX9_bits : ByteArray := prog_11_method_9_code
def yX9_bits : MethodName := ⟨RX9, "bits", "(I)I"⟩
abbrev cX9_isKeeper : ByteArray := prog_11_method_10_code
def yX9_isKeeper : MethodName := ⟨RX9, "isKeeper", "(I)Z"⟩
abbrev cX9_areTwo : ByteArray := prog_11_method_11_code
def yX9_areTwo : MethodName := ⟨RX9, "areTwo", "(II)Z"⟩
abbrev cX9_isLetter : ByteArray := prog_11_method_12_code
def yX9_isLetter : MethodName := ⟨RX9, "isLetter", "(I)Z"⟩
abbrev cX9_isTown : ByteArray := prog_11_method_13_code
def yX9_isTown : MethodName := ⟨RX9, "isTown", "(I)Z"⟩
abbrev cX9_hateOf : ByteArray := prog_11_method_14_code
def yX9_hateOf : MethodName := ⟨RX9, "hateOf", "(II)I"⟩
abbrev cX9_sets : ByteArray := prog_11_method_15_code
def yX9_sets : MethodName := ⟨RX9, "sets", "(III)V"⟩
abbrev cX9_feed : ByteArray := prog_11_method_16_code
def yX9_feed : MethodName := ⟨RX9, "feed", "(I)I"⟩
abbrev cX9_next : ByteArray := prog_11_method_17_code
def yX9_next : MethodName := ⟨RX9, "next", "()I"⟩
abbrev cX9_readsDigits : ByteArray := prog_11_method_18_code
def yX9_readsDigits : MethodName := ⟨RX9, "readsDigits", "(II)Z"⟩
abbrev cX9_readsAll : ByteArray := prog_11_method_19_code
def yX9_readsAll : MethodName := ⟨RX9, "readsAll", "(II)Z"⟩
abbrev cX9_statement : ByteArray := prog_11_method_20_code
def yX9_statement : MethodName := ⟨RX9, "statement", "()Z"⟩
abbrev cX9_comesKeeper : ByteArray := prog_11_method_21_code
def yX9_comesKeeper : MethodName := ⟨RX9, "comesKeeper", "(III)Z"⟩
abbrev cX9_comesLetter : ByteArray := prog_11_method_22_code
def yX9_comesLetter : MethodName := ⟨RX9, "comesLetter", "(II)Z"⟩
abbrev cX9_comesWeeks : ByteArray := prog_11_method_23_code
def yX9_comesWeeks : MethodName := ⟨RX9, "comesWeeks", "(I)Z"⟩
abbrev cX9_comes : ByteArray := prog_11_method_24_code
def yX9_comes : MethodName := ⟨RX9, "comes", "(I)Z"⟩
abbrev cX9_land : ByteArray := prog_11_method_25_code
def yX9_land : MethodName := ⟨RX9, "land", "()I"⟩
abbrev cX9_passes : ByteArray := prog_11_method_26_code
def yX9_passes : MethodName := ⟨RX9, "passes", "([I)V"⟩
abbrev cX9_passOne : ByteArray := prog_11_method_27_code
def yX9_passOne : MethodName := ⟨RX9, "passOne", "(I)I"⟩
abbrev cX9_passesAll : ByteArray := prog_11_method_28_code
def yX9_passesAll : MethodName := ⟨RX9, "passesAll", "(IZ)V"⟩
abbrev cX9_thinks : ByteArray := prog_11_method_29_code
def yX9_thinks : MethodName := ⟨RX9, "thinks", "()V"⟩
abbrev cX9_forgets : ByteArray := prog_11_method_30_code
def yX9_forgets : MethodName := ⟨RX9, "forgets", "()V"⟩
abbrev cX9_changes : ByteArray := prog_11_method_31_code
def yX9_changes : MethodName := ⟨RX9, "changes", "()V"⟩
abbrev cX9_changesBack : ByteArray := prog_11_method_32_code
def yX9_changesBack : MethodName := ⟨RX9, "changesBack", "()V"⟩
abbrev cX9_keepsBack : ByteArray := prog_11_method_33_code
def yX9_keepsBack : MethodName := ⟨RX9, "keepsBack", "()V"⟩
abbrev cX9_back : ByteArray := prog_11_method_34_code
def yX9_back : MethodName := ⟨RX9, "back", "()I"⟩
abbrev cX9_image : ByteArray := prog_11_method_35_code
def yX9_image : MethodName := ⟨RX9, "image", "()I"⟩
abbrev cX9_restore : ByteArray := prog_11_method_36_code
def yX9_restore : MethodName := ⟨RX9, "restore", "()I"⟩
abbrev cX9_addsKeeper : ByteArray := prog_11_method_37_code
def yX9_addsKeeper : MethodName := ⟨RX9, "addsKeeper", "(III)V"⟩
abbrev cX9_addsLetter : ByteArray := prog_11_method_38_code
def yX9_addsLetter : MethodName := ⟨RX9, "addsLetter", "(II)V"⟩
abbrev cX9_fadesOf : ByteArray := prog_11_method_39_code
def yX9_fadesOf : MethodName := ⟨RX9, "fadesOf", "(I)I"⟩
abbrev cX9_stirsOf : ByteArray := prog_11_method_40_code
def yX9_stirsOf : MethodName := ⟨RX9, "stirsOf", "(I)I"⟩
abbrev cX9_payOf : ByteArray := prog_11_method_41_code
def yX9_payOf : MethodName := ⟨RX9, "payOf", "(I)I"⟩
abbrev cX9_areThere : ByteArray := prog_11_method_42_code
def yX9_areThere : MethodName := ⟨RX9, "areThere", "(III)Z"⟩
abbrev cX9_opensAt : ByteArray := prog_11_method_43_code
def yX9_opensAt : MethodName := ⟨RX9, "opensAt", "(II)I"⟩
abbrev cX9_fadesTwo : ByteArray := prog_11_method_44_code
def yX9_fadesTwo : MethodName := ⟨RX9, "fadesTwo", "(II)V"⟩
abbrev cX9_goesWeek : ByteArray := prog_11_method_45_code
def yX9_goesWeek : MethodName := ⟨RX9, "goesWeek", "()V"⟩
abbrev cX9_goesOn : ByteArray := prog_11_method_46_code
def yX9_goesOn : MethodName := ⟨RX9, "goesOn", "(I)V"⟩
abbrev cX9_openOnes : ByteArray := prog_11_method_47_code
def yX9_openOnes : MethodName := ⟨RX9, "openOnes", "()I"⟩
abbrev cX9_allHate : ByteArray := prog_11_method_48_code
def yX9_allHate : MethodName := ⟨RX9, "allHate", "()I"⟩
abbrev cX9_keeperOf : ByteArray := prog_11_method_49_code
def yX9_keeperOf : MethodName := ⟨RX9, "keeperOf", "(II)I"⟩
abbrev cX9_letterOf : ByteArray := prog_11_method_50_code
def yX9_letterOf : MethodName := ⟨RX9, "letterOf", "(II)I"⟩
abbrev cX9_hate : ByteArray := prog_11_method_51_code
def yX9_hate : MethodName := ⟨RX9, "hate", "(II)I"⟩
abbrev cX9_keeper : ByteArray := prog_11_method_52_code
def yX9_keeper : MethodName := ⟨RX9, "keeper", "(III)I"⟩
abbrev cX9_letter : ByteArray := prog_11_method_53_code
def yX9_letter : MethodName := ⟨RX9, "letter", "(II)I"⟩
abbrev cX9_hates : ByteArray := prog_11_method_54_code
def yX9_hates : MethodName := ⟨RX9, "hates", "(III)I"⟩
abbrev cX9_goes : ByteArray := prog_11_method_55_code
def yX9_goes : MethodName := ⟨RX9, "goes", "(II)I"⟩
abbrev cX9_seals : ByteArray := prog_11_method_56_code
def yX9_seals : MethodName := ⟨RX9, "seals", "(I)I"⟩
abbrev cX9_weeks : ByteArray := prog_11_method_57_code
def yX9_weeks : MethodName := ⟨RX9, "weeks", "(I)I"⟩
abbrev cX9_notWeeks : ByteArray := prog_11_method_58_code
def yX9_notWeeks : MethodName := ⟨RX9, "notWeeks", "(I)I"⟩
abbrev cX9_hateIn : ByteArray := prog_11_method_59_code
def yX9_hateIn : MethodName := ⟨RX9, "hateIn", "(III)I"⟩
abbrev cX9_openIn : ByteArray := prog_11_method_60_code
def yX9_openIn : MethodName := ⟨RX9, "openIn", "(I)I"⟩
abbrev cX9_behind : ByteArray := prog_11_method_61_code
def yX9_behind : MethodName := ⟨RX9, "behind", "(III)I"⟩
abbrev cX9_then : ByteArray := prog_11_method_62_code
def yX9_then : MethodName := ⟨RX9, "then", "(II)I"⟩
abbrev cX9_whenOf : ByteArray := prog_11_method_63_code
def yX9_whenOf : MethodName := ⟨RX9, "whenOf", "(I)I"⟩
abbrev cX9_when : ByteArray := prog_11_method_64_code
def yX9_when : MethodName := ⟨RX9, "when", "(II)I"⟩
abbrev cX9_lasts : ByteArray := prog_11_method_65_code
def yX9_lasts : MethodName := ⟨RX9, "lasts", "(III)I"⟩
abbrev cX9_firstOne : ByteArray := prog_11_method_66_code
def yX9_firstOne : MethodName := ⟨RX9, "firstOne", "()I"⟩
abbrev cX9_never : ByteArray := prog_11_method_67_code
def yX9_never : MethodName := ⟨RX9, "never", "(I)I"⟩
abbrev cX9_isOpenedBy : ByteArray := prog_11_method_68_code
def yX9_isOpenedBy : MethodName := ⟨RX9, "isOpenedBy", "(III)Z"⟩
abbrev cX9_insult : ByteArray := prog_11_method_69_code
def yX9_insult : MethodName := ⟨RX9, "insult", "(III)I"⟩
abbrev cX9_manyAt : ByteArray := prog_11_method_70_code
def yX9_manyAt : MethodName := ⟨RX9, "manyAt", "(III)I"⟩
abbrev cX9_send : ByteArray := prog_11_method_71_code
def yX9_send : MethodName := ⟨RX9, "send", "(I)I"⟩
abbrev cX9_places : ByteArray := prog_11_method_72_code
def yX9_places : MethodName := ⟨RX9, "places", "(IIIII)I"⟩
abbrev cX9_manyBy : ByteArray := prog_11_method_73_code
def yX9_manyBy : MethodName := ⟨RX9, "manyBy", "(II)I"⟩
abbrev cX9_payOfAll : ByteArray := prog_11_method_74_code
def yX9_payOfAll : MethodName := ⟨RX9, "payOfAll", "(I)I"⟩
abbrev cX9_fewest : ByteArray := prog_11_method_75_code
def yX9_fewest : MethodName := ⟨RX9, "fewest", "(II)I"⟩
abbrev cX9_keepersIn : ByteArray := prog_11_method_76_code
def yX9_keepersIn : MethodName := ⟨RX9, "keepersIn", "(I)I"⟩
abbrev cX9_pay : ByteArray := prog_11_method_77_code
def yX9_pay : MethodName := ⟨RX9, "pay", "(II)I"⟩
abbrev cX9_deepest : ByteArray := prog_11_method_78_code
def yX9_deepest : MethodName := ⟨RX9, "deepest", "(I)I"⟩
abbrev cX9_findTwos : ByteArray := prog_11_method_79_code
def yX9_findTwos : MethodName := ⟨RX9, "findTwos", "(II)V"⟩
abbrev cX9_pairs : ByteArray := prog_11_method_80_code
def yX9_pairs : MethodName := ⟨RX9, "pairs", "(I)I"⟩
abbrev cX9_worst : ByteArray := prog_11_method_81_code
def yX9_worst : MethodName := ⟨RX9, "worst", "(I)I"⟩
abbrev cX9_opensSo : ByteArray := prog_11_method_82_code
def yX9_opensSo : MethodName := ⟨RX9, "opensSo", "()Z"⟩
abbrev cX9_whoHates : ByteArray := prog_11_method_83_code
def yX9_whoHates : MethodName := ⟨RX9, "whoHates", "(III)I"⟩
abbrev cX9_hatesSo : ByteArray := prog_11_method_84_code
def yX9_hatesSo : MethodName := ⟨RX9, "hatesSo", "(II)Z"⟩
abbrev cX9_bitsFor : ByteArray := prog_11_method_85_code
def yX9_bitsFor : MethodName := ⟨RX9, "bitsFor", "([IIII)I"⟩
abbrev cX9_whatKind : ByteArray := prog_11_method_86_code
def yX9_whatKind : MethodName := ⟨RX9, "whatKind", "(III)I"⟩
abbrev cX9_divisor : ByteArray := prog_11_method_87_code
def yX9_divisor : MethodName := ⟨RX9, "divisor", "(JJ)J"⟩
abbrev cX9_partOf : ByteArray := prog_11_method_88_code
def yX9_partOf : MethodName := ⟨RX9, "partOf", "(JJI)J"⟩
abbrev cX9_partsOf : ByteArray := prog_11_method_89_code
def yX9_partsOf : MethodName := ⟨RX9, "partsOf", "(III)J"⟩
abbrev cX9_power : ByteArray := prog_11_method_90_code
def yX9_power : MethodName := ⟨RX9, "power", "(II)J"⟩
abbrev cX9_jug : ByteArray := prog_11_method_91_code
def yX9_jug : MethodName := ⟨RX9, "jug", "(IIII)J"⟩
abbrev cX9_getsOf : ByteArray := prog_11_method_92_code
def yX9_getsOf : MethodName := ⟨RX9, "getsOf", "(IIII)I"⟩
abbrev cX9_two : ByteArray := prog_11_method_93_code
def yX9_two : MethodName := ⟨RX9, "two", "(II)I"⟩
abbrev cX9_isOpenMeeting : ByteArray := prog_11_method_94_code
def yX9_isOpenMeeting : MethodName := ⟨RX9, "isOpenMeeting", "(IIIII)Z"⟩
abbrev cX9_meetings : ByteArray := prog_11_method_95_code
def yX9_meetings : MethodName := ⟨RX9, "meetings", "(IIIIII)J"⟩
abbrev cX9_fullest : ByteArray := prog_11_method_96_code
def yX9_fullest : MethodName := ⟨RX9, "fullest", "(I)I"⟩
abbrev cX9_thickest : ByteArray := prog_11_method_97_code
def yX9_thickest : MethodName := ⟨RX9, "thickest", "()I"⟩
abbrev cX9_hatesOf : ByteArray := prog_11_method_98_code
def yX9_hatesOf : MethodName := ⟨RX9, "hatesOf", "(I)I"⟩
abbrev cX9_mildest : ByteArray := prog_11_method_99_code
def yX9_mildest : MethodName := ⟨RX9, "mildest", "()I"⟩
abbrev cX9_bare : ByteArray := prog_11_method_100_code
def yX9_bare : MethodName := ⟨RX9, "bare", "()I"⟩
abbrev cX9_mean : ByteArray := prog_11_method_101_code
def yX9_mean : MethodName := ⟨RX9, "mean", "(I)J"⟩
abbrev cX9_used : ByteArray := prog_11_method_102_code
def yX9_used : MethodName := ⟨RX9, "used", "(III)I"⟩
abbrev cX9_manySwapped : ByteArray := prog_11_method_103_code
def yX9_manySwapped : MethodName := ⟨RX9, "manySwapped", "(III)I"⟩
abbrev cX9_swap : ByteArray := prog_11_method_104_code
def yX9_swap : MethodName := ⟨RX9, "swap", "(I)I"⟩
abbrev cX9_apart : ByteArray := prog_11_method_105_code
def yX9_apart : MethodName := ⟨RX9, "apart", "(I)I"⟩
abbrev cX9_enemy : ByteArray := prog_11_method_106_code
def yX9_enemy : MethodName := ⟨RX9, "enemy", "(I)I"⟩
abbrev cX9_can : ByteArray := prog_11_method_107_code
def yX9_can : MethodName := ⟨RX9, "can", "(I)I"⟩
abbrev cX9_row : ByteArray := prog_11_method_108_code
def yX9_row : MethodName := ⟨RX9, "row", "(I)I"⟩
abbrev cX9_judge : ByteArray := prog_11_method_109_code
def yX9_judge : MethodName := ⟨RX9, "judge", "(I)I"⟩
abbrev cX9_clear : ByteArray := prog_11_method_110_code
def yX9_clear : MethodName := ⟨RX9, "clear", "()I"⟩
abbrev cX9_draw : ByteArray := prog_11_method_111_code
def yX9_draw : MethodName := ⟨RX9, "draw", "(I)I"⟩
abbrev cX9_lots : ByteArray := prog_11_method_112_code
def yX9_lots : MethodName := ⟨RX9, "lots", "(III)I"⟩
abbrev cX9_count : ByteArray := prog_11_method_113_code
def yX9_count : MethodName := ⟨RX9, "count", "(I)I"⟩
def RJ6 : String := "java/lang/Integer"
def TJ6 : u_T := fun k => match k with
  | _ => ("", "", "", false)
def tyJ6 : Nat → FieldType := fun k => match k with
  | _ => .int
abbrev wsJ60 : List Cond := u_ws RJ6 TJ6 0
theorem nmJ6 : ∀ a, a < 0 → ∀ b, b < 0 → a ≠ b → (TJ6 a).2.1 ≠ (TJ6 b).2.1 := by decide +kernel
theorem tyJ6_ok : ∀ k, k < 0 → parseFieldDescriptor (TJ6 k).2.2.1 = some (tyJ6 k) := by decide +kernel
abbrev cJ6_bitCount_0f7a4 : ByteArray := prog_12_method_49_code
def yJ6_bitCount_0f7a4 : MethodName := ⟨RJ6, "bitCount", "(I)I"⟩
def RJ9 : String := "java/lang/Math"
def TJ9 : u_T := fun k => match k with
  | _ => ("", "", "", false)
def tyJ9 : Nat → FieldType := fun k => match k with
  | _ => .int
abbrev wsJ90 : List Cond := u_ws RJ9 TJ9 0
theorem nmJ9 : ∀ a, a < 0 → ∀ b, b < 0 → a ≠ b → (TJ9 a).2.1 ≠ (TJ9 b).2.1 := by decide +kernel
theorem tyJ9_ok : ∀ k, k < 0 → parseFieldDescriptor (TJ9 k).2.2.1 = some (tyJ9 k) := by decide +kernel
abbrev cJ9_max_7cf53 : ByteArray := prog_13_method_65_code
def yJ9_max_7cf53 : MethodName := ⟨RJ9, "max", "(II)I"⟩
abbrev cJ9_min_7cf53 : ByteArray := prog_13_method_69_code
def yJ9_min_7cf53 : MethodName := ⟨RJ9, "min", "(II)I"⟩
def RJ10 : String := "java/lang/System"
def TJ10 : u_T := fun k => match k with
  | _ => ("", "", "", false)
def tyJ10 : Nat → FieldType := fun k => match k with
  | _ => .int
abbrev wsJ100 : List Cond := u_ws RJ10 TJ10 0
theorem nmJ10 : ∀ a, a < 0 → ∀ b, b < 0 → a ≠ b → (TJ10 a).2.1 ≠ (TJ10 b).2.1 := by decide +kernel
theorem tyJ10_ok : ∀ k, k < 0 → parseFieldDescriptor (TJ10 k).2.2.1 = some (tyJ10 k) := by decide +kernel
def RJ7 : String := "java/util/Arrays"
def TJ7 : u_T := fun k => match k with
  | _ => ("", "", "", false)
def tyJ7 : Nat → FieldType := fun k => match k with
  | _ => .int
abbrev wsJ70 : List Cond := u_ws RJ7 TJ7 0
theorem nmJ7 : ∀ a, a < 0 → ∀ b, b < 0 → a ≠ b → (TJ7 a).2.1 ≠ (TJ7 b).2.1 := by decide +kernel
theorem tyJ7_ok : ∀ k, k < 0 → parseFieldDescriptor (TJ7 k).2.2.1 = some (tyJ7 k) := by decide +kernel
abbrev cJ7_fill_53178 : ByteArray := prog_15_method_103_code
def yJ7_fill_53178 : MethodName := ⟨RJ7, "fill", "([II)V"⟩
def RL : String := "OnlyTwoEnemiesLaw"
abbrev cL_law : ByteArray := code
def yL_law : MethodName := ⟨RL, "law", "([I)Z"⟩
abbrev vwCl : List vw_C := [(RX1, TX1, 11), (RX3, TX3, 2), (RX4, TX4, 2), (RX5, TX5, 3), (RX6, TX6, 2), (RX7, TX7, 2), (RX8, TX8, 10), (RX9, TX9, 31)]
end
section
theorem dX1_hasKeeper_0 : decode cX1_hasKeeper 0 = .ok (.iload_n 1, 1) := by decide +kernel
theorem dX1_hasKeeper_1 : decode cX1_hasKeeper 1 = .ok (.ifCond .lt 15, 3) := by decide +kernel
theorem dX1_hasKeeper_4 : decode cX1_hasKeeper 4 = .ok (.iload_n 1, 1) := by decide +kernel
theorem dX1_hasKeeper_5 : decode cX1_hasKeeper 5 = .ok (.aload_n 0, 1) := by decide +kernel
theorem dX1_hasKeeper_6 : decode cX1_hasKeeper 6 = .ok (.getfield 43, 3) := by decide +kernel
theorem dX1_hasKeeper_9 : decode cX1_hasKeeper 9 = .ok (.if_icmp .ge 7, 3) := by decide +kernel
theorem dX1_hasKeeper_12 : decode cX1_hasKeeper 12 = .ok (.iconst 1, 1) := by decide +kernel
theorem dX1_hasKeeper_13 : decode cX1_hasKeeper 13 = .ok (.goto 4, 3) := by decide +kernel
theorem dX1_hasKeeper_16 : decode cX1_hasKeeper 16 = .ok (.iconst 0, 1) := by decide +kernel
theorem dX1_hasKeeper_17 : decode cX1_hasKeeper 17 = .ok (.ireturn, 1) := by decide +kernel
theorem dX1_isOpen_0 : decode cX1_isOpen 0 = .ok (.aload_n 0, 1) := by decide +kernel
theorem dX1_isOpen_1 : decode cX1_isOpen 1 = .ok (.getfield 50, 3) := by decide +kernel
theorem dX1_isOpen_4 : decode cX1_isOpen 4 = .ok (.iload_n 1, 1) := by decide +kernel
theorem dX1_isOpen_5 : decode cX1_isOpen 5 = .ok (.invokestatic 82, 3) := by decide +kernel
theorem dX1_isOpen_8 : decode cX1_isOpen 8 = .ok (.iconst 1, 1) := by decide +kernel
theorem dX1_isOpen_9 : decode cX1_isOpen 9 = .ok (.if_icmp .ne 7, 3) := by decide +kernel
theorem dX1_isOpen_12 : decode cX1_isOpen 12 = .ok (.iconst 1, 1) := by decide +kernel
theorem dX1_isOpen_13 : decode cX1_isOpen 13 = .ok (.goto 4, 3) := by decide +kernel
theorem dX1_isOpen_16 : decode cX1_isOpen 16 = .ok (.iconst 0, 1) := by decide +kernel
theorem dX1_isOpen_17 : decode cX1_isOpen 17 = .ok (.ireturn, 1) := by decide +kernel
theorem dX1_hateOf_0 : decode cX1_hateOf 0 = .ok (.aload_n 0, 1) := by decide +kernel
theorem dX1_hateOf_1 : decode cX1_hateOf 1 = .ok (.getfield 21, 3) := by decide +kernel
theorem dX1_hateOf_4 : decode cX1_hateOf 4 = .ok (.iload_n 1, 1) := by decide +kernel
theorem dX1_hateOf_5 : decode cX1_hateOf 5 = .ok (.iload_n 2, 1) := by decide +kernel
theorem dX1_hateOf_6 : decode cX1_hateOf 6 = .ok (.invokestatic 85, 3) := by decide +kernel
theorem dX1_hateOf_9 : decode cX1_hateOf 9 = .ok (.bipush 6, 2) := by decide +kernel
theorem dX1_hateOf_11 : decode cX1_hateOf 11 = .ok (.imul, 1) := by decide +kernel
theorem dX1_hateOf_12 : decode cX1_hateOf 12 = .ok (.iload_n 1, 1) := by decide +kernel
theorem dX1_hateOf_13 : decode cX1_hateOf 13 = .ok (.iload_n 2, 1) := by decide +kernel
theorem dX1_hateOf_14 : decode cX1_hateOf 14 = .ok (.invokestatic 90, 3) := by decide +kernel
theorem dX1_hateOf_17 : decode cX1_hateOf 17 = .ok (.iadd, 1) := by decide +kernel
theorem dX1_hateOf_18 : decode cX1_hateOf 18 = .ok (.invokestatic 66, 3) := by decide +kernel
theorem dX1_hateOf_21 : decode cX1_hateOf 21 = .ok (.ireturn, 1) := by decide +kernel
theorem dX1_allHate_0 : decode cX1_allHate 0 = .ok (.iconst 0, 1) := by decide +kernel
theorem dX1_allHate_1 : decode cX1_allHate 1 = .ok (.istore_n 1, 1) := by decide +kernel
theorem dX1_allHate_2 : decode cX1_allHate 2 = .ok (.iconst 0, 1) := by decide +kernel
theorem dX1_allHate_3 : decode cX1_allHate 3 = .ok (.istore_n 2, 1) := by decide +kernel
theorem dX1_allHate_4 : decode cX1_allHate 4 = .ok (.iload_n 2, 1) := by decide +kernel
theorem dX1_allHate_5 : decode cX1_allHate 5 = .ok (.aload_n 0, 1) := by decide +kernel
theorem dX1_allHate_6 : decode cX1_allHate 6 = .ok (.getfield 43, 3) := by decide +kernel
theorem dX1_allHate_9 : decode cX1_allHate 9 = .ok (.if_icmp .ge 36, 3) := by decide +kernel
theorem dX1_allHate_12 : decode cX1_allHate 12 = .ok (.iload_n 2, 1) := by decide +kernel
theorem dX1_allHate_13 : decode cX1_allHate 13 = .ok (.iconst 1, 1) := by decide +kernel
theorem dX1_allHate_14 : decode cX1_allHate 14 = .ok (.iadd, 1) := by decide +kernel
theorem dX1_allHate_15 : decode cX1_allHate 15 = .ok (.istore_n 3, 1) := by decide +kernel
theorem dX1_allHate_16 : decode cX1_allHate 16 = .ok (.iload_n 3, 1) := by decide +kernel
theorem dX1_allHate_17 : decode cX1_allHate 17 = .ok (.aload_n 0, 1) := by decide +kernel
theorem dX1_allHate_18 : decode cX1_allHate 18 = .ok (.getfield 43, 3) := by decide +kernel
theorem dX1_allHate_21 : decode cX1_allHate 21 = .ok (.if_icmp .ge 18, 3) := by decide +kernel
theorem dX1_allHate_24 : decode cX1_allHate 24 = .ok (.iload_n 1, 1) := by decide +kernel
theorem dX1_allHate_25 : decode cX1_allHate 25 = .ok (.aload_n 0, 1) := by decide +kernel
theorem dX1_allHate_26 : decode cX1_allHate 26 = .ok (.iload_n 2, 1) := by decide +kernel
theorem dX1_allHate_27 : decode cX1_allHate 27 = .ok (.iload_n 3, 1) := by decide +kernel
theorem dX1_allHate_28 : decode cX1_allHate 28 = .ok (.invokevirtual 93, 3) := by decide +kernel
theorem dX1_allHate_31 : decode cX1_allHate 31 = .ok (.iadd, 1) := by decide +kernel
theorem dX1_allHate_32 : decode cX1_allHate 32 = .ok (.istore_n 1, 1) := by decide +kernel
theorem dX1_allHate_33 : decode cX1_allHate 33 = .ok (.iinc 3 1, 3) := by decide +kernel
theorem dX1_allHate_36 : decode cX1_allHate 36 = .ok (.goto (-20), 3) := by decide +kernel
theorem dX1_allHate_39 : decode cX1_allHate 39 = .ok (.iinc 2 1, 3) := by decide +kernel
theorem dX1_allHate_42 : decode cX1_allHate 42 = .ok (.goto (-38), 3) := by decide +kernel
theorem dX1_allHate_45 : decode cX1_allHate 45 = .ok (.iload_n 1, 1) := by decide +kernel
theorem dX1_allHate_46 : decode cX1_allHate 46 = .ok (.ireturn, 1) := by decide +kernel
theorem dX1_setHate_0 : decode cX1_setHate 0 = .ok (.iconst 0, 1) := by decide +kernel
theorem dX1_setHate_1 : decode cX1_setHate 1 = .ok (.bipush 99, 2) := by decide +kernel
theorem dX1_setHate_3 : decode cX1_setHate 3 = .ok (.iload_n 3, 1) := by decide +kernel
theorem dX1_setHate_4 : decode cX1_setHate 4 = .ok (.invokestatic 85, 3) := by decide +kernel
theorem dX1_setHate_7 : decode cX1_setHate 7 = .ok (.invokestatic 90, 3) := by decide +kernel
theorem dX1_setHate_10 : decode cX1_setHate 10 = .ok (.istore 4, 2) := by decide +kernel
theorem dX1_setHate_12 : decode cX1_setHate 12 = .ok (.aload_n 0, 1) := by decide +kernel
theorem dX1_setHate_13 : decode cX1_setHate 13 = .ok (.getfield 21, 3) := by decide +kernel
theorem dX1_setHate_16 : decode cX1_setHate 16 = .ok (.iload_n 1, 1) := by decide +kernel
theorem dX1_setHate_17 : decode cX1_setHate 17 = .ok (.iload_n 2, 1) := by decide +kernel
theorem dX1_setHate_18 : decode cX1_setHate 18 = .ok (.invokestatic 85, 3) := by decide +kernel
theorem dX1_setHate_21 : decode cX1_setHate 21 = .ok (.bipush 6, 2) := by decide +kernel
theorem dX1_setHate_23 : decode cX1_setHate 23 = .ok (.imul, 1) := by decide +kernel
theorem dX1_setHate_24 : decode cX1_setHate 24 = .ok (.iload_n 1, 1) := by decide +kernel
theorem dX1_setHate_25 : decode cX1_setHate 25 = .ok (.iload_n 2, 1) := by decide +kernel
theorem dX1_setHate_26 : decode cX1_setHate 26 = .ok (.invokestatic 90, 3) := by decide +kernel
theorem dX1_setHate_29 : decode cX1_setHate 29 = .ok (.iadd, 1) := by decide +kernel
theorem dX1_setHate_30 : decode cX1_setHate 30 = .ok (.iload 4, 2) := by decide +kernel
theorem dX1_setHate_32 : decode cX1_setHate 32 = .ok (.invokestatic 96, 3) := by decide +kernel
theorem dX1_setHate_35 : decode cX1_setHate 35 = .ok (.return_, 1) := by decide +kernel
theorem dX8_at_0 : decode cX8_at 0 = .ok (.aload_n 0, 1) := by decide +kernel
theorem dX8_at_1 : decode cX8_at 1 = .ok (.ifnull 19, 3) := by decide +kernel
theorem dX8_at_4 : decode cX8_at 4 = .ok (.iload_n 1, 1) := by decide +kernel
theorem dX8_at_5 : decode cX8_at 5 = .ok (.ifCond .lt 15, 3) := by decide +kernel
theorem dX8_at_8 : decode cX8_at 8 = .ok (.iload_n 1, 1) := by decide +kernel
theorem dX8_at_9 : decode cX8_at 9 = .ok (.aload_n 0, 1) := by decide +kernel
theorem dX8_at_10 : decode cX8_at 10 = .ok (.arraylength, 1) := by decide +kernel
theorem dX8_at_11 : decode cX8_at 11 = .ok (.if_icmp .ge 9, 3) := by decide +kernel
theorem dX8_at_14 : decode cX8_at 14 = .ok (.aload_n 0, 1) := by decide +kernel
theorem dX8_at_15 : decode cX8_at 15 = .ok (.iload_n 1, 1) := by decide +kernel
theorem dX8_at_16 : decode cX8_at 16 = .ok (.iaload, 1) := by decide +kernel
theorem dX8_at_17 : decode cX8_at 17 = .ok (.goto 4, 3) := by decide +kernel
theorem dX8_at_20 : decode cX8_at 20 = .ok (.iconst 0, 1) := by decide +kernel
theorem dX8_at_21 : decode cX8_at 21 = .ok (.ireturn, 1) := by decide +kernel
theorem dX8_put_0 : decode cX8_put 0 = .ok (.aload_n 0, 1) := by decide +kernel
theorem dX8_put_1 : decode cX8_put 1 = .ok (.ifnull 17, 3) := by decide +kernel
theorem dX8_put_4 : decode cX8_put 4 = .ok (.iload_n 1, 1) := by decide +kernel
theorem dX8_put_5 : decode cX8_put 5 = .ok (.ifCond .lt 13, 3) := by decide +kernel
theorem dX8_put_8 : decode cX8_put 8 = .ok (.iload_n 1, 1) := by decide +kernel
theorem dX8_put_9 : decode cX8_put 9 = .ok (.aload_n 0, 1) := by decide +kernel
theorem dX8_put_10 : decode cX8_put 10 = .ok (.arraylength, 1) := by decide +kernel
theorem dX8_put_11 : decode cX8_put 11 = .ok (.if_icmp .ge 7, 3) := by decide +kernel
theorem dX8_put_14 : decode cX8_put 14 = .ok (.aload_n 0, 1) := by decide +kernel
theorem dX8_put_15 : decode cX8_put 15 = .ok (.iload_n 1, 1) := by decide +kernel
theorem dX8_put_16 : decode cX8_put 16 = .ok (.iload_n 2, 1) := by decide +kernel
theorem dX8_put_17 : decode cX8_put 17 = .ok (.iastore, 1) := by decide +kernel
theorem dX8_put_18 : decode cX8_put 18 = .ok (.return_, 1) := by decide +kernel
theorem dX8_bit_0 : decode cX8_bit 0 = .ok (.iload_n 1, 1) := by decide +kernel
theorem dX8_bit_1 : decode cX8_bit 1 = .ok (.ifCond .lt 17, 3) := by decide +kernel
theorem dX8_bit_4 : decode cX8_bit 4 = .ok (.iload_n 1, 1) := by decide +kernel
theorem dX8_bit_5 : decode cX8_bit 5 = .ok (.bipush 31, 2) := by decide +kernel
theorem dX8_bit_7 : decode cX8_bit 7 = .ok (.if_icmp .ge 11, 3) := by decide +kernel
theorem dX8_bit_10 : decode cX8_bit 10 = .ok (.iload_n 0, 1) := by decide +kernel
theorem dX8_bit_11 : decode cX8_bit 11 = .ok (.iload_n 1, 1) := by decide +kernel
theorem dX8_bit_12 : decode cX8_bit 12 = .ok (.ishr, 1) := by decide +kernel
theorem dX8_bit_13 : decode cX8_bit 13 = .ok (.iconst 1, 1) := by decide +kernel
theorem dX8_bit_14 : decode cX8_bit 14 = .ok (.iand, 1) := by decide +kernel
theorem dX8_bit_15 : decode cX8_bit 15 = .ok (.goto 4, 3) := by decide +kernel
theorem dX8_bit_18 : decode cX8_bit 18 = .ok (.iconst 0, 1) := by decide +kernel
theorem dX8_bit_19 : decode cX8_bit 19 = .ok (.ireturn, 1) := by decide +kernel
theorem dX8_twoName_0 : decode cX8_twoName 0 = .ok (.bipush 10, 2) := by decide +kernel
theorem dX8_twoName_2 : decode cX8_twoName 2 = .ok (.iload_n 0, 1) := by decide +kernel
theorem dX8_twoName_3 : decode cX8_twoName 3 = .ok (.iload_n 1, 1) := by decide +kernel
theorem dX8_twoName_4 : decode cX8_twoName 4 = .ok (.invokestatic 360, 3) := by decide +kernel
theorem dX8_twoName_7 : decode cX8_twoName 7 = .ok (.imul, 1) := by decide +kernel
theorem dX8_twoName_8 : decode cX8_twoName 8 = .ok (.iload_n 0, 1) := by decide +kernel
theorem dX8_twoName_9 : decode cX8_twoName 9 = .ok (.iload_n 1, 1) := by decide +kernel
theorem dX8_twoName_10 : decode cX8_twoName 10 = .ok (.invokestatic 338, 3) := by decide +kernel
theorem dX8_twoName_13 : decode cX8_twoName 13 = .ok (.iadd, 1) := by decide +kernel
theorem dX8_twoName_14 : decode cX8_twoName 14 = .ok (.ireturn, 1) := by decide +kernel
theorem dJ6_bitCount_0f7a4_0 : decode cJ6_bitCount_0f7a4 0 = .ok (.iload_n 0, 1) := by decide +kernel
theorem dJ6_bitCount_0f7a4_1 : decode cJ6_bitCount_0f7a4 1 = .ok (.iload_n 0, 1) := by decide +kernel
theorem dJ6_bitCount_0f7a4_2 : decode cJ6_bitCount_0f7a4 2 = .ok (.iconst 1, 1) := by decide +kernel
theorem dJ6_bitCount_0f7a4_3 : decode cJ6_bitCount_0f7a4 3 = .ok (.iushr, 1) := by decide +kernel
theorem dJ6_bitCount_0f7a4_4 : decode cJ6_bitCount_0f7a4 4 = .ok (.ldc_w 265, 3) := by decide +kernel
theorem dJ6_bitCount_0f7a4_7 : decode cJ6_bitCount_0f7a4 7 = .ok (.iand, 1) := by decide +kernel
theorem dJ6_bitCount_0f7a4_8 : decode cJ6_bitCount_0f7a4 8 = .ok (.isub, 1) := by decide +kernel
theorem dJ6_bitCount_0f7a4_9 : decode cJ6_bitCount_0f7a4 9 = .ok (.istore_n 0, 1) := by decide +kernel
theorem dJ6_bitCount_0f7a4_10 : decode cJ6_bitCount_0f7a4 10 = .ok (.iload_n 0, 1) := by decide +kernel
theorem dJ6_bitCount_0f7a4_11 : decode cJ6_bitCount_0f7a4 11 = .ok (.ldc_w 266, 3) := by decide +kernel
theorem dJ6_bitCount_0f7a4_14 : decode cJ6_bitCount_0f7a4 14 = .ok (.iand, 1) := by decide +kernel
theorem dJ6_bitCount_0f7a4_15 : decode cJ6_bitCount_0f7a4 15 = .ok (.iload_n 0, 1) := by decide +kernel
theorem dJ6_bitCount_0f7a4_16 : decode cJ6_bitCount_0f7a4 16 = .ok (.iconst 2, 1) := by decide +kernel
theorem dJ6_bitCount_0f7a4_17 : decode cJ6_bitCount_0f7a4 17 = .ok (.iushr, 1) := by decide +kernel
theorem dJ6_bitCount_0f7a4_18 : decode cJ6_bitCount_0f7a4 18 = .ok (.ldc_w 266, 3) := by decide +kernel
theorem dJ6_bitCount_0f7a4_21 : decode cJ6_bitCount_0f7a4 21 = .ok (.iand, 1) := by decide +kernel
theorem dJ6_bitCount_0f7a4_22 : decode cJ6_bitCount_0f7a4 22 = .ok (.iadd, 1) := by decide +kernel
theorem dJ6_bitCount_0f7a4_23 : decode cJ6_bitCount_0f7a4 23 = .ok (.istore_n 0, 1) := by decide +kernel
theorem dJ6_bitCount_0f7a4_24 : decode cJ6_bitCount_0f7a4 24 = .ok (.iload_n 0, 1) := by decide +kernel
theorem dJ6_bitCount_0f7a4_25 : decode cJ6_bitCount_0f7a4 25 = .ok (.iload_n 0, 1) := by decide +kernel
theorem dJ6_bitCount_0f7a4_26 : decode cJ6_bitCount_0f7a4 26 = .ok (.iconst 4, 1) := by decide +kernel
theorem dJ6_bitCount_0f7a4_27 : decode cJ6_bitCount_0f7a4 27 = .ok (.iushr, 1) := by decide +kernel
theorem dJ6_bitCount_0f7a4_28 : decode cJ6_bitCount_0f7a4 28 = .ok (.iadd, 1) := by decide +kernel
theorem dJ6_bitCount_0f7a4_29 : decode cJ6_bitCount_0f7a4 29 = .ok (.ldc_w 267, 3) := by decide +kernel
theorem dJ6_bitCount_0f7a4_32 : decode cJ6_bitCount_0f7a4 32 = .ok (.iand, 1) := by decide +kernel
theorem dJ6_bitCount_0f7a4_33 : decode cJ6_bitCount_0f7a4 33 = .ok (.istore_n 0, 1) := by decide +kernel
theorem dJ6_bitCount_0f7a4_34 : decode cJ6_bitCount_0f7a4 34 = .ok (.iload_n 0, 1) := by decide +kernel
theorem dJ6_bitCount_0f7a4_35 : decode cJ6_bitCount_0f7a4 35 = .ok (.iload_n 0, 1) := by decide +kernel
theorem dJ6_bitCount_0f7a4_36 : decode cJ6_bitCount_0f7a4 36 = .ok (.bipush 8, 2) := by decide +kernel
theorem dJ6_bitCount_0f7a4_38 : decode cJ6_bitCount_0f7a4 38 = .ok (.iushr, 1) := by decide +kernel
theorem dJ6_bitCount_0f7a4_39 : decode cJ6_bitCount_0f7a4 39 = .ok (.iadd, 1) := by decide +kernel
theorem dJ6_bitCount_0f7a4_40 : decode cJ6_bitCount_0f7a4 40 = .ok (.istore_n 0, 1) := by decide +kernel
theorem dJ6_bitCount_0f7a4_41 : decode cJ6_bitCount_0f7a4 41 = .ok (.iload_n 0, 1) := by decide +kernel
theorem dJ6_bitCount_0f7a4_42 : decode cJ6_bitCount_0f7a4 42 = .ok (.iload_n 0, 1) := by decide +kernel
theorem dJ6_bitCount_0f7a4_43 : decode cJ6_bitCount_0f7a4 43 = .ok (.bipush 16, 2) := by decide +kernel
theorem dJ6_bitCount_0f7a4_45 : decode cJ6_bitCount_0f7a4 45 = .ok (.iushr, 1) := by decide +kernel
theorem dJ6_bitCount_0f7a4_46 : decode cJ6_bitCount_0f7a4 46 = .ok (.iadd, 1) := by decide +kernel
theorem dJ6_bitCount_0f7a4_47 : decode cJ6_bitCount_0f7a4 47 = .ok (.istore_n 0, 1) := by decide +kernel
theorem dJ6_bitCount_0f7a4_48 : decode cJ6_bitCount_0f7a4 48 = .ok (.iload_n 0, 1) := by decide +kernel
theorem dJ6_bitCount_0f7a4_49 : decode cJ6_bitCount_0f7a4 49 = .ok (.bipush 63, 2) := by decide +kernel
theorem dJ6_bitCount_0f7a4_51 : decode cJ6_bitCount_0f7a4 51 = .ok (.iand, 1) := by decide +kernel
theorem dJ6_bitCount_0f7a4_52 : decode cJ6_bitCount_0f7a4 52 = .ok (.ireturn, 1) := by decide +kernel
end
section
def lw_g : List Cond := lw_tbl.filter goodWord
theorem lw_gm {w : Cond} {i : Nat} (h : lw_tbl[i]? = some w) (hg : goodWord w = true) : w ∈ lw_g := List.mem_filter.mpr ⟨List.mem_of_getElem? h, hg⟩
theorem lw_gt {w : Cond} (h : w ∈ lw_g) : w ∈ lw_tbl := (List.mem_filter.mp h).1
theorem lw_gi {ws : List Cond} (h : ∀ w ∈ ws, w ∈ lw_g) : GoodIn lw_g ws := fun w hw => ⟨h w hw, good_of_word (List.mem_filter.mp (h w hw)).2⟩
theorem lw_gp {ws : List Cond} (is : List Nat) (h : is.map (fun i => lw_tbl[i]?) = ws.map some) (hg : ws.all goodWord = true) : ∀ w ∈ ws, w ∈ lw_g := by
  intro w hw
  refine List.mem_filter.mpr ⟨?_, List.all_eq_true.mp hg w hw⟩
  have h1 : some w ∈ is.map (fun i => lw_tbl[i]?) := by rw [h]; exact List.mem_map.mpr ⟨w, hw, rfl⟩
  obtain ⟨i, -, hi⟩ := List.mem_map.mp h1
  exact List.mem_of_getElem? hi
theorem qN_L : Cond.initialized RL ∈ lw_g := lw_gm (i := 76) (by decide +kernel) (by decide +kernel)
theorem qN_X8 : Cond.initialized RX8 ∈ lw_g := lw_gm (i := 77) (by decide +kernel) (by decide +kernel)
theorem qN_X1 : Cond.initialized RX1 ∈ lw_g := lw_gm (i := 78) (by decide +kernel) (by decide +kernel)
theorem qN_X5 : Cond.initialized RX5 ∈ lw_g := lw_gm (i := 79) (by decide +kernel) (by decide +kernel)
theorem qN_X7 : Cond.initialized RX7 ∈ lw_g := lw_gm (i := 80) (by decide +kernel) (by decide +kernel)
theorem qN_X6 : Cond.initialized RX6 ∈ lw_g := lw_gm (i := 81) (by decide +kernel) (by decide +kernel)
theorem qN_X3 : Cond.initialized RX3 ∈ lw_g := lw_gm (i := 82) (by decide +kernel) (by decide +kernel)
theorem qN_X4 : Cond.initialized RX4 ∈ lw_g := lw_gm (i := 83) (by decide +kernel) (by decide +kernel)
theorem qN_X9 : Cond.initialized RX9 ∈ lw_g := lw_gm (i := 84) (by decide +kernel) (by decide +kernel)
theorem qN_J9 : Cond.initialized "java/lang/Math" ∈ lw_g := lw_gm (i := 85) (by decide +kernel) (by decide +kernel)
theorem qN_J10 : Cond.initialized "java/lang/System" ∈ lw_g := lw_gm (i := 86) (by decide +kernel) (by decide +kernel)
theorem qN_J7 : Cond.initialized "java/util/Arrays" ∈ lw_g := lw_gm (i := 87) (by decide +kernel) (by decide +kernel)
theorem qN_X2 : Cond.initialized RX2 ∈ lw_g := lw_gm (i := 88) (by decide +kernel) (by decide +kernel)
theorem qN_J6 : Cond.initialized "java/lang/Integer" ∈ lw_g := lw_gm (i := 89) (by decide +kernel) (by decide +kernel)
theorem qN_X0 : Cond.initialized RX0 ∈ lw_g := lw_gm (i := 90) (by decide +kernel) (by decide +kernel)
theorem qL_L_7 : Cond.classLink RL 7 RX8 ∈ lw_g := lw_gm (i := 91) (by decide +kernel) (by decide +kernel)
theorem qB_X8 : Cond.instantiable RX8 10 ∈ lw_g := lw_gm (i := 92) (by decide +kernel) (by decide +kernel)
theorem qM_L_9 : Cond.methodLink RL 9 yX8_init ∈ lw_g := lw_gm (i := 93) (by decide +kernel) (by decide +kernel)
theorem qI_X8_init : Cond.instanceMethod yX8_init ∈ lw_g := lw_gm (i := 94) (by decide +kernel) (by decide +kernel)
theorem qC_X8_init : Cond.code yX8_init cX8_init 2 none ∈ lw_g := lw_gm (i := 95) (by decide +kernel) (by decide +kernel)
theorem qM_X8_1 : Cond.methodLink RX8 1 objectInit ∈ lw_g := lw_gm (i := 96) (by decide +kernel) (by decide +kernel)
theorem qI_objectInit : Cond.instanceMethod objectInit ∈ lw_g := lw_gm (i := 97) (by decide +kernel) (by decide +kernel)
theorem qC_objectInit : Cond.code objectInit ⟨#[0xb1]⟩ 1 none ∈ lw_g := lw_gm (i := 98) (by decide +kernel) (by decide +kernel)
theorem qL_X8_7 : Cond.classLink RX8 7 RX1 ∈ lw_g := lw_gm (i := 99) (by decide +kernel) (by decide +kernel)
theorem qB_X1 : Cond.instantiable RX1 11 ∈ lw_g := lw_gm (i := 100) (by decide +kernel) (by decide +kernel)
theorem qM_X8_9 : Cond.methodLinkNest RX8 9 yX1_init RX8 ∈ lw_tbl := List.mem_of_getElem? (i := 101) (by decide +kernel)
theorem qI_X1_init : Cond.instanceMethod yX1_init ∈ lw_g := lw_gm (i := 102) (by decide +kernel) (by decide +kernel)
theorem qC_X1_init : Cond.code yX1_init cX1_init 1 none ∈ lw_g := lw_gm (i := 103) (by decide +kernel) (by decide +kernel)
theorem qM_X1_3 : Cond.methodLink RX1 3 objectInit ∈ lw_g := lw_gm (i := 104) (by decide +kernel) (by decide +kernel)
theorem qF_X1_9 : Cond.fieldLink RX1 9 "OnlyTwoEnemies$Country" "kinds" "[I" ∈ lw_g := lw_gm (i := 105) (by decide +kernel) (by decide +kernel)
theorem qF_X1_15 : Cond.fieldLink RX1 15 "OnlyTwoEnemies$Country" "figures" "[I" ∈ lw_g := lw_gm (i := 106) (by decide +kernel) (by decide +kernel)
theorem qF_X1_18 : Cond.fieldLink RX1 18 "OnlyTwoEnemies$Country" "towns" "[I" ∈ lw_g := lw_gm (i := 107) (by decide +kernel) (by decide +kernel)
theorem qF_X1_21 : Cond.fieldLink RX1 21 "OnlyTwoEnemies$Country" "hatreds" "[I" ∈ lw_g := lw_gm (i := 108) (by decide +kernel) (by decide +kernel)
theorem qF_X1_24 : Cond.fieldLink RX1 24 "OnlyTwoEnemies$Country" "depths" "[I" ∈ lw_g := lw_gm (i := 109) (by decide +kernel) (by decide +kernel)
theorem qF_X1_27 : Cond.fieldLink RX1 27 "OnlyTwoEnemies$Country" "letterTowns" "[I" ∈ lw_g := lw_gm (i := 110) (by decide +kernel) (by decide +kernel)
theorem qF_X1_30 : Cond.fieldLink RX1 30 "OnlyTwoEnemies$Country" "openers" "[I" ∈ lw_g := lw_gm (i := 111) (by decide +kernel) (by decide +kernel)
theorem qF_X1_43 : Cond.fieldLink RX1 43 "OnlyTwoEnemies$Country" "keepers" "I" ∈ lw_g := lw_gm (i := 112) (by decide +kernel) (by decide +kernel)
theorem qF_X1_47 : Cond.fieldLink RX1 47 "OnlyTwoEnemies$Country" "letters" "I" ∈ lw_g := lw_gm (i := 113) (by decide +kernel) (by decide +kernel)
theorem qF_X1_50 : Cond.fieldLink RX1 50 "OnlyTwoEnemies$Country" "open" "I" ∈ lw_g := lw_gm (i := 114) (by decide +kernel) (by decide +kernel)
theorem qF_X1_53 : Cond.fieldLink RX1 53 "OnlyTwoEnemies$Country" "week" "I" ∈ lw_g := lw_gm (i := 115) (by decide +kernel) (by decide +kernel)
theorem qA_int : Cond.arrayClass .int ∈ lw_g := lw_gm (i := 139) (by decide +kernel) (by decide +kernel)
theorem qL_X8_19 : Cond.classLink RX8 19 RX5 ∈ lw_g := lw_gm (i := 140) (by decide +kernel) (by decide +kernel)
theorem qB_X5 : Cond.instantiable RX5 3 ∈ lw_g := lw_gm (i := 141) (by decide +kernel) (by decide +kernel)
theorem qM_X8_21 : Cond.methodLink RX8 21 yX5_init ∈ lw_g := lw_gm (i := 142) (by decide +kernel) (by decide +kernel)
theorem qI_X5_init : Cond.instanceMethod yX5_init ∈ lw_g := lw_gm (i := 143) (by decide +kernel) (by decide +kernel)
theorem qC_X5_init : Cond.code yX5_init cX5_init 2 none ∈ lw_g := lw_gm (i := 144) (by decide +kernel) (by decide +kernel)
theorem qM_X5_1 : Cond.methodLink RX5 1 objectInit ∈ lw_g := lw_gm (i := 145) (by decide +kernel) (by decide +kernel)
theorem qL_X5_9 : Cond.classLink RX5 9 RX1 ∈ lw_g := lw_gm (i := 146) (by decide +kernel) (by decide +kernel)
theorem qA_Country : Cond.arrayOver (.object "OnlyTwoEnemies$Country") ∈ lw_tbl := List.mem_of_getElem? (i := 147) (by decide +kernel)
theorem qM_X5_15 : Cond.methodLinkNest RX5 15 yX1_init RX8 ∈ lw_tbl := List.mem_of_getElem? (i := 148) (by decide +kernel)
theorem qF_X5_11 : Cond.fieldLink RX5 11 "OnlyTwoEnemies$Past" "earlier" "[LOnlyTwoEnemies$Country;" ∈ lw_g := lw_gm (i := 149) (by decide +kernel) (by decide +kernel)
theorem qF_X5_20 : Cond.fieldLink RX5 20 "OnlyTwoEnemies$Past" "next" "I" ∈ lw_g := lw_gm (i := 150) (by decide +kernel) (by decide +kernel)
theorem qF_X5_16 : Cond.fieldLink RX5 16 "OnlyTwoEnemies$Past" "size" "I" ∈ lw_g := lw_gm (i := 151) (by decide +kernel) (by decide +kernel)
theorem qL_X8_26 : Cond.classLink RX8 26 RX7 ∈ lw_g := lw_gm (i := 159) (by decide +kernel) (by decide +kernel)
theorem qB_X7 : Cond.instantiable RX7 2 ∈ lw_g := lw_gm (i := 160) (by decide +kernel) (by decide +kernel)
theorem qM_X8_28 : Cond.methodLinkNest RX8 28 yX7_init RX8 ∈ lw_tbl := List.mem_of_getElem? (i := 161) (by decide +kernel)
theorem qI_X7_init : Cond.instanceMethod yX7_init ∈ lw_g := lw_gm (i := 162) (by decide +kernel) (by decide +kernel)
theorem qC_X7_init : Cond.code yX7_init cX7_init 1 none ∈ lw_g := lw_gm (i := 163) (by decide +kernel) (by decide +kernel)
theorem qM_X7_3 : Cond.methodLink RX7 3 objectInit ∈ lw_g := lw_gm (i := 164) (by decide +kernel) (by decide +kernel)
theorem qF_X7_11 : Cond.fieldLink RX7 11 "OnlyTwoEnemies$Telling" "signs" "[I" ∈ lw_g := lw_gm (i := 165) (by decide +kernel) (by decide +kernel)
theorem qF_X7_15 : Cond.fieldLink RX7 15 "OnlyTwoEnemies$Telling" "size" "I" ∈ lw_g := lw_gm (i := 166) (by decide +kernel) (by decide +kernel)
theorem qL_X8_33 : Cond.classLink RX8 33 RX6 ∈ lw_g := lw_gm (i := 172) (by decide +kernel) (by decide +kernel)
theorem qB_X6 : Cond.instantiable RX6 2 ∈ lw_g := lw_gm (i := 173) (by decide +kernel) (by decide +kernel)
theorem qM_X8_35 : Cond.methodLinkNest RX8 35 yX6_init RX8 ∈ lw_tbl := List.mem_of_getElem? (i := 174) (by decide +kernel)
theorem qI_X6_init : Cond.instanceMethod yX6_init ∈ lw_g := lw_gm (i := 175) (by decide +kernel) (by decide +kernel)
theorem qC_X6_init : Cond.code yX6_init cX6_init 1 none ∈ lw_g := lw_gm (i := 176) (by decide +kernel) (by decide +kernel)
theorem qM_X6_1 : Cond.methodLink RX6 1 objectInit ∈ lw_g := lw_gm (i := 177) (by decide +kernel) (by decide +kernel)
theorem qF_X6_9 : Cond.fieldLink RX6 9 "OnlyTwoEnemies$Row" "numbers" "[I" ∈ lw_g := lw_gm (i := 178) (by decide +kernel) (by decide +kernel)
theorem qF_X6_13 : Cond.fieldLink RX6 13 "OnlyTwoEnemies$Row" "size" "I" ∈ lw_g := lw_gm (i := 179) (by decide +kernel) (by decide +kernel)
theorem qL_X8_47 : Cond.classLink RX8 47 RX3 ∈ lw_g := lw_gm (i := 185) (by decide +kernel) (by decide +kernel)
theorem qB_X3 : Cond.instantiable RX3 2 ∈ lw_g := lw_gm (i := 186) (by decide +kernel) (by decide +kernel)
theorem qM_X8_49 : Cond.methodLink RX8 49 yX3_init ∈ lw_g := lw_gm (i := 187) (by decide +kernel) (by decide +kernel)
theorem qI_X3_init : Cond.instanceMethod yX3_init ∈ lw_g := lw_gm (i := 188) (by decide +kernel) (by decide +kernel)
theorem qC_X3_init : Cond.code yX3_init cX3_init 2 none ∈ lw_g := lw_gm (i := 189) (by decide +kernel) (by decide +kernel)
theorem qM_X3_3 : Cond.methodLink RX3 3 objectInit ∈ lw_g := lw_gm (i := 190) (by decide +kernel) (by decide +kernel)
theorem qF_X3_15 : Cond.fieldLink RX3 15 "OnlyTwoEnemies$Look" "now" "LOnlyTwoEnemies$Country;" ∈ lw_g := lw_gm (i := 191) (by decide +kernel) (by decide +kernel)
theorem qF_X3_9 : Cond.fieldLink RX3 9 "OnlyTwoEnemies$Look" "twosAmong" "[I" ∈ lw_g := lw_gm (i := 192) (by decide +kernel) (by decide +kernel)
theorem qL_X8_56 : Cond.classLink RX8 56 RX4 ∈ lw_g := lw_gm (i := 198) (by decide +kernel) (by decide +kernel)
theorem qB_X4 : Cond.instantiable RX4 2 ∈ lw_g := lw_gm (i := 199) (by decide +kernel) (by decide +kernel)
theorem qM_X8_58 : Cond.methodLink RX8 58 yX4_init ∈ lw_g := lw_gm (i := 200) (by decide +kernel) (by decide +kernel)
theorem qI_X4_init : Cond.instanceMethod yX4_init ∈ lw_g := lw_gm (i := 201) (by decide +kernel) (by decide +kernel)
theorem qC_X4_init : Cond.code yX4_init cX4_init 2 none ∈ lw_g := lw_gm (i := 202) (by decide +kernel) (by decide +kernel)
theorem qM_X4_3 : Cond.methodLink RX4 3 objectInit ∈ lw_g := lw_gm (i := 203) (by decide +kernel) (by decide +kernel)
theorem qL_X4_9 : Cond.classLink RX4 9 RX1 ∈ lw_g := lw_gm (i := 204) (by decide +kernel) (by decide +kernel)
theorem qM_X4_11 : Cond.methodLinkNest RX4 11 yX1_init RX8 ∈ lw_tbl := List.mem_of_getElem? (i := 205) (by decide +kernel)
theorem qF_X4_18 : Cond.fieldLink RX4 18 "OnlyTwoEnemies$Mind" "now" "LOnlyTwoEnemies$Country;" ∈ lw_g := lw_gm (i := 206) (by decide +kernel) (by decide +kernel)
theorem qF_X4_12 : Cond.fieldLink RX4 12 "OnlyTwoEnemies$Mind" "ahead" "LOnlyTwoEnemies$Country;" ∈ lw_g := lw_gm (i := 207) (by decide +kernel) (by decide +kernel)
theorem qF_X8_44 : Cond.fieldLink RX8 44 "OnlyTwoEnemies" "now" "LOnlyTwoEnemies$Country;" ∈ lw_g := lw_gm (i := 213) (by decide +kernel) (by decide +kernel)
theorem qF_X8_10 : Cond.fieldLink RX8 10 "OnlyTwoEnemies" "draft" "LOnlyTwoEnemies$Country;" ∈ lw_g := lw_gm (i := 214) (by decide +kernel) (by decide +kernel)
theorem qF_X8_16 : Cond.fieldLink RX8 16 "OnlyTwoEnemies" "kept" "LOnlyTwoEnemies$Country;" ∈ lw_g := lw_gm (i := 215) (by decide +kernel) (by decide +kernel)
theorem qF_X8_202 : Cond.fieldLink RX8 202 "OnlyTwoEnemies" "isKept" "Z" ∈ lw_g := lw_gm (i := 216) (by decide +kernel) (by decide +kernel)
theorem qF_X8_22 : Cond.fieldLink RX8 22 "OnlyTwoEnemies" "past" "LOnlyTwoEnemies$Past;" ∈ lw_g := lw_gm (i := 217) (by decide +kernel) (by decide +kernel)
theorem qF_X8_29 : Cond.fieldLink RX8 29 "OnlyTwoEnemies" "telling" "LOnlyTwoEnemies$Telling;" ∈ lw_g := lw_gm (i := 218) (by decide +kernel) (by decide +kernel)
theorem qF_X8_36 : Cond.fieldLink RX8 36 "OnlyTwoEnemies" "numbers" "LOnlyTwoEnemies$Row;" ∈ lw_g := lw_gm (i := 219) (by decide +kernel) (by decide +kernel)
theorem qF_X8_52 : Cond.fieldLink RX8 52 "OnlyTwoEnemies" "look" "LOnlyTwoEnemies$Look;" ∈ lw_g := lw_gm (i := 220) (by decide +kernel) (by decide +kernel)
theorem qF_X8_59 : Cond.fieldLink RX8 59 "OnlyTwoEnemies" "mind" "LOnlyTwoEnemies$Mind;" ∈ lw_g := lw_gm (i := 221) (by decide +kernel) (by decide +kernel)
theorem qF_X8_40 : Cond.fieldLink RX8 40 "OnlyTwoEnemies" "refusals" "[I" ∈ lw_g := lw_gm (i := 222) (by decide +kernel) (by decide +kernel)
theorem qM_L_13 : Cond.methodLink RL 13 yX8_feed ∈ lw_g := lw_gm (i := 244) (by decide +kernel) (by decide +kernel)
theorem qI_X8_feed : Cond.instanceMethod yX8_feed ∈ lw_g := lw_gm (i := 245) (by decide +kernel) (by decide +kernel)
theorem qS_X8_feed : Cond.selects RX8 yX8_feed yX8_feed ∈ lw_g := lw_gm (i := 246) (by decide +kernel) (by decide +kernel)
theorem qC_X8_feed : Cond.code yX8_feed cX8_feed 3 (some .int) ∈ lw_g := lw_gm (i := 247) (by decide +kernel) (by decide +kernel)
theorem qM_X8_63 : Cond.methodLink RX8 63 yX8_range ∈ lw_g := lw_gm (i := 248) (by decide +kernel) (by decide +kernel)
theorem qT_X8_range : Cond.static yX8_range ∈ lw_g := lw_gm (i := 249) (by decide +kernel) (by decide +kernel)
theorem qC_X8_range : Cond.code yX8_range cX8_range 3 (some .int) ∈ lw_g := lw_gm (i := 250) (by decide +kernel) (by decide +kernel)
theorem qM_X8_67 : Cond.methodLink RX8 67 yX7_isFull ∈ lw_g := lw_gm (i := 251) (by decide +kernel) (by decide +kernel)
theorem qI_X7_isFull : Cond.instanceMethod yX7_isFull ∈ lw_g := lw_gm (i := 252) (by decide +kernel) (by decide +kernel)
theorem qS_X7_isFull : Cond.selects RX7 yX7_isFull yX7_isFull ∈ lw_g := lw_gm (i := 253) (by decide +kernel) (by decide +kernel)
theorem qC_X7_isFull : Cond.code yX7_isFull cX7_isFull 1 (some .boolean) ∈ lw_g := lw_gm (i := 254) (by decide +kernel) (by decide +kernel)
theorem qM_X8_71 : Cond.methodLink RX8 71 yX8_firstOf ∈ lw_g := lw_gm (i := 255) (by decide +kernel) (by decide +kernel)
theorem qT_X8_firstOf : Cond.static yX8_firstOf ∈ lw_g := lw_gm (i := 256) (by decide +kernel) (by decide +kernel)
theorem qC_X8_firstOf : Cond.code yX8_firstOf cX8_firstOf 3 (some .int) ∈ lw_g := lw_gm (i := 257) (by decide +kernel) (by decide +kernel)
theorem qM_X8_74 : Cond.methodLink RX8 74 yX8_refused ∈ lw_g := lw_gm (i := 258) (by decide +kernel) (by decide +kernel)
theorem qI_X8_refused : Cond.instanceMethod yX8_refused ∈ lw_g := lw_gm (i := 260) (by decide +kernel) (by decide +kernel)
theorem qC_X8_refused : Cond.code yX8_refused cX8_refused 2 (some .int) ∈ lw_g := lw_gm (i := 261) (by decide +kernel) (by decide +kernel)
theorem qM_X8_162 : Cond.methodLink RX8 162 yX8_at ∈ lw_g := lw_gm (i := 262) (by decide +kernel) (by decide +kernel)
theorem qT_X8_at : Cond.static yX8_at ∈ lw_g := lw_gm (i := 263) (by decide +kernel) (by decide +kernel)
theorem qC_X8_at : Cond.code yX8_at cX8_at 2 (some .int) ∈ lw_g := lw_gm (i := 264) (by decide +kernel) (by decide +kernel)
theorem qM_X8_343 : Cond.methodLink RX8 343 yX8_put ∈ lw_g := lw_gm (i := 265) (by decide +kernel) (by decide +kernel)
theorem qT_X8_put : Cond.static yX8_put ∈ lw_g := lw_gm (i := 266) (by decide +kernel) (by decide +kernel)
theorem qC_X8_put : Cond.code yX8_put cX8_put 3 none ∈ lw_g := lw_gm (i := 267) (by decide +kernel) (by decide +kernel)
theorem qM_X8_78 : Cond.methodLink RX8 78 yX7_add ∈ lw_g := lw_gm (i := 268) (by decide +kernel) (by decide +kernel)
theorem qI_X7_add : Cond.instanceMethod yX7_add ∈ lw_g := lw_gm (i := 269) (by decide +kernel) (by decide +kernel)
theorem qS_X7_add : Cond.selects RX7 yX7_add yX7_add ∈ lw_g := lw_gm (i := 270) (by decide +kernel) (by decide +kernel)
theorem qC_X7_add : Cond.code yX7_add cX7_add 2 (some .int) ∈ lw_g := lw_gm (i := 271) (by decide +kernel) (by decide +kernel)
theorem qM_X7_19 : Cond.methodLinkNest RX7 19 yX8_put RX8 ∈ lw_tbl := List.mem_of_getElem? (i := 272) (by decide +kernel)
theorem qM_X7_23 : Cond.methodLink RX7 23 Lib.Math.min.name ∈ lw_g := lw_gm (i := 273) (by decide +kernel) (by decide +kernel)
theorem qT_Lib_Math_min_name : Cond.static Lib.Math.min.name ∈ lw_g := lw_gm (i := 274) (by decide +kernel) (by decide +kernel)
theorem qC_Lib_Math_min_name : Cond.code Lib.Math.min.name Lib.Math.min.code 2 (some .int) ∈ lw_g := lw_gm (i := 275) (by decide +kernel) (by decide +kernel)
theorem qM_L_18 : Cond.methodLink RL 18 yX8_land ∈ lw_g := lw_gm (i := 276) (by decide +kernel) (by decide +kernel)
theorem qI_X8_land : Cond.instanceMethod yX8_land ∈ lw_g := lw_gm (i := 277) (by decide +kernel) (by decide +kernel)
theorem qS_X8_land : Cond.selects RX8 yX8_land yX8_land ∈ lw_g := lw_gm (i := 278) (by decide +kernel) (by decide +kernel)
theorem qC_X8_land : Cond.code yX8_land cX8_land 2 (some .int) ∈ lw_g := lw_gm (i := 279) (by decide +kernel) (by decide +kernel)
theorem qM_X8_81 : Cond.methodLink RX8 81 yX1_become ∈ lw_g := lw_gm (i := 280) (by decide +kernel) (by decide +kernel)
theorem qI_X1_become : Cond.instanceMethod yX1_become ∈ lw_g := lw_gm (i := 281) (by decide +kernel) (by decide +kernel)
theorem qS_X1_become : Cond.selects RX1 yX1_become yX1_become ∈ lw_g := lw_gm (i := 282) (by decide +kernel) (by decide +kernel)
theorem qC_X1_become : Cond.code yX1_become cX1_become 2 none ∈ lw_g := lw_gm (i := 283) (by decide +kernel) (by decide +kernel)
theorem qM_X1_33 : Cond.methodLinkNest RX1 33 yX8_copy RX8 ∈ lw_tbl := List.mem_of_getElem? (i := 284) (by decide +kernel)
theorem qT_X8_copy : Cond.static yX8_copy ∈ lw_g := lw_gm (i := 285) (by decide +kernel) (by decide +kernel)
theorem qC_X8_copy : Cond.code yX8_copy cX8_copy 2 none ∈ lw_g := lw_gm (i := 286) (by decide +kernel) (by decide +kernel)
theorem qM_X8_360 : Cond.methodLink RX8 360 Lib.Math.min.name ∈ lw_g := lw_gm (i := 287) (by decide +kernel) (by decide +kernel)
theorem qM_X8_363 : Cond.methodLink RX8 363 arraycopyName ∈ lw_g := lw_gm (i := 288) (by decide +kernel) (by decide +kernel)
theorem qT_arraycopyName : Cond.static arraycopyName ∈ lw_g := lw_gm (i := 289) (by decide +kernel) (by decide +kernel)
theorem qV_arraycopyName : Cond.native arraycopyName ∈ lw_g := lw_gm (i := 290) (by decide +kernel) (by decide +kernel)
theorem qM_X1_37 : Cond.methodLink RX1 37 yJ7_fill_53178 ∈ lw_g := lw_gm (i := 291) (by decide +kernel) (by decide +kernel)
theorem qT_J7_fill_53178 : Cond.static yJ7_fill_53178 ∈ lw_g := lw_gm (i := 292) (by decide +kernel) (by decide +kernel)
theorem qC_J7_fill_53178 : Cond.code yJ7_fill_53178 cJ7_fill_53178 4 none ∈ lw_g := lw_gm (i := 293) (by decide +kernel) (by decide +kernel)
theorem qM_X8_84 : Cond.methodLink RX8 84 yX7_tellTo ∈ lw_g := lw_gm (i := 294) (by decide +kernel) (by decide +kernel)
theorem qI_X7_tellTo : Cond.instanceMethod yX7_tellTo ∈ lw_g := lw_gm (i := 295) (by decide +kernel) (by decide +kernel)
theorem qS_X7_tellTo : Cond.selects RX7 yX7_tellTo yX7_tellTo ∈ lw_g := lw_gm (i := 296) (by decide +kernel) (by decide +kernel)
theorem qC_X7_tellTo : Cond.code yX7_tellTo cX7_tellTo 6 (some .int) ∈ lw_g := lw_gm (i := 297) (by decide +kernel) (by decide +kernel)
theorem qM_X7_29 : Cond.methodLink RX7 29 yX7_brokenPlace ∈ lw_g := lw_gm (i := 298) (by decide +kernel) (by decide +kernel)
theorem qI_X7_brokenPlace : Cond.instanceMethod yX7_brokenPlace ∈ lw_g := lw_gm (i := 300) (by decide +kernel) (by decide +kernel)
theorem qC_X7_brokenPlace : Cond.code yX7_brokenPlace cX7_brokenPlace 6 (some .int) ∈ lw_g := lw_gm (i := 301) (by decide +kernel) (by decide +kernel)
theorem qM_X7_41 : Cond.methodLink RX7 41 yX7_sign ∈ lw_g := lw_gm (i := 302) (by decide +kernel) (by decide +kernel)
theorem qI_X7_sign : Cond.instanceMethod yX7_sign ∈ lw_g := lw_gm (i := 304) (by decide +kernel) (by decide +kernel)
theorem qC_X7_sign : Cond.code yX7_sign cX7_sign 2 (some .int) ∈ lw_g := lw_gm (i := 305) (by decide +kernel) (by decide +kernel)
theorem qM_X7_105 : Cond.methodLinkNest RX7 105 yX8_at RX8 ∈ lw_tbl := List.mem_of_getElem? (i := 306) (by decide +kernel)
theorem qM_X7_45 : Cond.methodLink RX7 45 yX7_digitsBehind ∈ lw_g := lw_gm (i := 307) (by decide +kernel) (by decide +kernel)
theorem qT_X7_digitsBehind : Cond.static yX7_digitsBehind ∈ lw_g := lw_gm (i := 308) (by decide +kernel) (by decide +kernel)
theorem qC_X7_digitsBehind : Cond.code yX7_digitsBehind cX7_digitsBehind 1 (some .int) ∈ lw_g := lw_gm (i := 309) (by decide +kernel) (by decide +kernel)
theorem qM_X7_48 : Cond.methodLink RX7 48 yX7_isDigit ∈ lw_g := lw_gm (i := 310) (by decide +kernel) (by decide +kernel)
theorem qI_X7_isDigit : Cond.instanceMethod yX7_isDigit ∈ lw_g := lw_gm (i := 312) (by decide +kernel) (by decide +kernel)
theorem qC_X7_isDigit : Cond.code yX7_isDigit cX7_isDigit 2 (some .boolean) ∈ lw_g := lw_gm (i := 313) (by decide +kernel) (by decide +kernel)
theorem qM_X7_33 : Cond.methodLink RX7 33 yX7_isRight ∈ lw_g := lw_gm (i := 314) (by decide +kernel) (by decide +kernel)
theorem qI_X7_isRight : Cond.instanceMethod yX7_isRight ∈ lw_g := lw_gm (i := 316) (by decide +kernel) (by decide +kernel)
theorem qC_X7_isRight : Cond.code yX7_isRight cX7_isRight 7 (some .boolean) ∈ lw_g := lw_gm (i := 317) (by decide +kernel) (by decide +kernel)
theorem qM_X7_52 : Cond.methodLink RX7 52 yX7_digit ∈ lw_g := lw_gm (i := 318) (by decide +kernel) (by decide +kernel)
theorem qI_X7_digit : Cond.instanceMethod yX7_digit ∈ lw_g := lw_gm (i := 320) (by decide +kernel) (by decide +kernel)
theorem qC_X7_digit : Cond.code yX7_digit cX7_digit 2 (some .int) ∈ lw_g := lw_gm (i := 321) (by decide +kernel) (by decide +kernel)
theorem qM_X7_55 : Cond.methodLink RX7 55 yX7_twoDigits ∈ lw_g := lw_gm (i := 322) (by decide +kernel) (by decide +kernel)
theorem qI_X7_twoDigits : Cond.instanceMethod yX7_twoDigits ∈ lw_g := lw_gm (i := 324) (by decide +kernel) (by decide +kernel)
theorem qC_X7_twoDigits : Cond.code yX7_twoDigits cX7_twoDigits 2 (some .int) ∈ lw_g := lw_gm (i := 325) (by decide +kernel) (by decide +kernel)
theorem qM_X7_58 : Cond.methodLinkNest RX7 58 yX8_isTown RX8 ∈ lw_tbl := List.mem_of_getElem? (i := 326) (by decide +kernel)
theorem qT_X8_isTown : Cond.static yX8_isTown ∈ lw_g := lw_gm (i := 327) (by decide +kernel) (by decide +kernel)
theorem qC_X8_isTown : Cond.code yX8_isTown cX8_isTown 1 (some .boolean) ∈ lw_g := lw_gm (i := 328) (by decide +kernel) (by decide +kernel)
theorem qM_X7_61 : Cond.methodLink RX7 61 yX1_hasKeeperRoom ∈ lw_g := lw_gm (i := 329) (by decide +kernel) (by decide +kernel)
theorem qI_X1_hasKeeperRoom : Cond.instanceMethod yX1_hasKeeperRoom ∈ lw_g := lw_gm (i := 330) (by decide +kernel) (by decide +kernel)
theorem qS_X1_hasKeeperRoom : Cond.selects RX1 yX1_hasKeeperRoom yX1_hasKeeperRoom ∈ lw_g := lw_gm (i := 331) (by decide +kernel) (by decide +kernel)
theorem qC_X1_hasKeeperRoom : Cond.code yX1_hasKeeperRoom cX1_hasKeeperRoom 1 (some .boolean) ∈ lw_g := lw_gm (i := 332) (by decide +kernel) (by decide +kernel)
theorem qM_X7_67 : Cond.methodLink RX7 67 yX1_areTwo ∈ lw_g := lw_gm (i := 333) (by decide +kernel) (by decide +kernel)
theorem qI_X1_areTwo : Cond.instanceMethod yX1_areTwo ∈ lw_g := lw_gm (i := 334) (by decide +kernel) (by decide +kernel)
theorem qS_X1_areTwo : Cond.selects RX1 yX1_areTwo yX1_areTwo ∈ lw_g := lw_gm (i := 335) (by decide +kernel) (by decide +kernel)
theorem qC_X1_areTwo : Cond.code yX1_areTwo cX1_areTwo 3 (some .boolean) ∈ lw_g := lw_gm (i := 336) (by decide +kernel) (by decide +kernel)
theorem qM_X1_62 : Cond.methodLink RX1 62 yX1_hasKeeper ∈ lw_g := lw_gm (i := 337) (by decide +kernel) (by decide +kernel)
theorem qI_X1_hasKeeper : Cond.instanceMethod yX1_hasKeeper ∈ lw_g := lw_gm (i := 338) (by decide +kernel) (by decide +kernel)
theorem qS_X1_hasKeeper : Cond.selects RX1 yX1_hasKeeper yX1_hasKeeper ∈ lw_g := lw_gm (i := 339) (by decide +kernel) (by decide +kernel)
theorem qC_X1_hasKeeper : Cond.code yX1_hasKeeper cX1_hasKeeper 2 (some .boolean) ∈ lw_g := lw_gm (i := 340) (by decide +kernel) (by decide +kernel)
theorem qM_X7_71 : Cond.methodLink RX7 71 yX1_hasLetterRoom ∈ lw_g := lw_gm (i := 341) (by decide +kernel) (by decide +kernel)
theorem qI_X1_hasLetterRoom : Cond.instanceMethod yX1_hasLetterRoom ∈ lw_g := lw_gm (i := 342) (by decide +kernel) (by decide +kernel)
theorem qS_X1_hasLetterRoom : Cond.selects RX1 yX1_hasLetterRoom yX1_hasLetterRoom ∈ lw_g := lw_gm (i := 343) (by decide +kernel) (by decide +kernel)
theorem qC_X1_hasLetterRoom : Cond.code yX1_hasLetterRoom cX1_hasLetterRoom 1 (some .boolean) ∈ lw_g := lw_gm (i := 344) (by decide +kernel) (by decide +kernel)
theorem qM_X7_74 : Cond.methodLink RX7 74 yX1_hasKeeper ∈ lw_g := lw_gm (i := 345) (by decide +kernel) (by decide +kernel)
theorem qM_X7_77 : Cond.methodLink RX7 77 yX1_hasLetter ∈ lw_g := lw_gm (i := 346) (by decide +kernel) (by decide +kernel)
theorem qI_X1_hasLetter : Cond.instanceMethod yX1_hasLetter ∈ lw_g := lw_gm (i := 347) (by decide +kernel) (by decide +kernel)
theorem qS_X1_hasLetter : Cond.selects RX1 yX1_hasLetter yX1_hasLetter ∈ lw_g := lw_gm (i := 348) (by decide +kernel) (by decide +kernel)
theorem qC_X1_hasLetter : Cond.code yX1_hasLetter cX1_hasLetter 2 (some .boolean) ∈ lw_g := lw_gm (i := 349) (by decide +kernel) (by decide +kernel)
theorem qM_X7_80 : Cond.methodLink RX7 80 yX1_weekNow ∈ lw_g := lw_gm (i := 350) (by decide +kernel) (by decide +kernel)
theorem qI_X1_weekNow : Cond.instanceMethod yX1_weekNow ∈ lw_g := lw_gm (i := 351) (by decide +kernel) (by decide +kernel)
theorem qS_X1_weekNow : Cond.selects RX1 yX1_weekNow yX1_weekNow ∈ lw_g := lw_gm (i := 352) (by decide +kernel) (by decide +kernel)
theorem qC_X1_weekNow : Cond.code yX1_weekNow cX1_weekNow 1 (some .int) ∈ lw_g := lw_gm (i := 353) (by decide +kernel) (by decide +kernel)
theorem qM_X7_37 : Cond.methodLink RX7 37 yX7_comes ∈ lw_g := lw_gm (i := 354) (by decide +kernel) (by decide +kernel)
theorem qI_X7_comes : Cond.instanceMethod yX7_comes ∈ lw_g := lw_gm (i := 356) (by decide +kernel) (by decide +kernel)
theorem qC_X7_comes : Cond.code yX7_comes cX7_comes 5 none ∈ lw_g := lw_gm (i := 357) (by decide +kernel) (by decide +kernel)
theorem qM_X7_83 : Cond.methodLink RX7 83 yX1_addKeeper ∈ lw_g := lw_gm (i := 358) (by decide +kernel) (by decide +kernel)
theorem qI_X1_addKeeper : Cond.instanceMethod yX1_addKeeper ∈ lw_g := lw_gm (i := 359) (by decide +kernel) (by decide +kernel)
theorem qS_X1_addKeeper : Cond.selects RX1 yX1_addKeeper yX1_addKeeper ∈ lw_g := lw_gm (i := 360) (by decide +kernel) (by decide +kernel)
theorem qC_X1_addKeeper : Cond.code yX1_addKeeper cX1_addKeeper 6 (some .int) ∈ lw_g := lw_gm (i := 361) (by decide +kernel) (by decide +kernel)
theorem qM_X1_96 : Cond.methodLinkNest RX1 96 yX8_put RX8 ∈ lw_tbl := List.mem_of_getElem? (i := 362) (by decide +kernel)
theorem qM_X1_100 : Cond.methodLink RX1 100 yX1_setHate ∈ lw_g := lw_gm (i := 363) (by decide +kernel) (by decide +kernel)
theorem qI_X1_setHate : Cond.instanceMethod yX1_setHate ∈ lw_g := lw_gm (i := 364) (by decide +kernel) (by decide +kernel)
theorem qS_X1_setHate : Cond.selects RX1 yX1_setHate yX1_setHate ∈ lw_g := lw_gm (i := 365) (by decide +kernel) (by decide +kernel)
theorem qC_X1_setHate : Cond.code yX1_setHate cX1_setHate 5 none ∈ lw_g := lw_gm (i := 366) (by decide +kernel) (by decide +kernel)
theorem qM_X1_85 : Cond.methodLink RX1 85 Lib.Math.min.name ∈ lw_g := lw_gm (i := 367) (by decide +kernel) (by decide +kernel)
theorem qM_X1_90 : Cond.methodLink RX1 90 Lib.Math.max.name ∈ lw_g := lw_gm (i := 368) (by decide +kernel) (by decide +kernel)
theorem qT_Lib_Math_max_name : Cond.static Lib.Math.max.name ∈ lw_g := lw_gm (i := 369) (by decide +kernel) (by decide +kernel)
theorem qC_Lib_Math_max_name : Cond.code Lib.Math.max.name Lib.Math.max.code 2 (some .int) ∈ lw_g := lw_gm (i := 370) (by decide +kernel) (by decide +kernel)
theorem qM_X7_87 : Cond.methodLink RX7 87 yX1_setHate ∈ lw_g := lw_gm (i := 371) (by decide +kernel) (by decide +kernel)
theorem qM_X7_91 : Cond.methodLink RX7 91 yX1_addLetter ∈ lw_g := lw_gm (i := 372) (by decide +kernel) (by decide +kernel)
theorem qI_X1_addLetter : Cond.instanceMethod yX1_addLetter ∈ lw_g := lw_gm (i := 373) (by decide +kernel) (by decide +kernel)
theorem qS_X1_addLetter : Cond.selects RX1 yX1_addLetter yX1_addLetter ∈ lw_g := lw_gm (i := 374) (by decide +kernel) (by decide +kernel)
theorem qC_X1_addLetter : Cond.code yX1_addLetter cX1_addLetter 4 (some .int) ∈ lw_g := lw_gm (i := 375) (by decide +kernel) (by decide +kernel)
theorem qM_X7_94 : Cond.methodLink RX7 94 yX1_move ∈ lw_g := lw_gm (i := 376) (by decide +kernel) (by decide +kernel)
theorem qI_X1_move : Cond.instanceMethod yX1_move ∈ lw_g := lw_gm (i := 377) (by decide +kernel) (by decide +kernel)
theorem qS_X1_move : Cond.selects RX1 yX1_move yX1_move ∈ lw_g := lw_gm (i := 378) (by decide +kernel) (by decide +kernel)
theorem qC_X1_move : Cond.code yX1_move cX1_move 3 none ∈ lw_g := lw_gm (i := 379) (by decide +kernel) (by decide +kernel)
theorem qM_X7_98 : Cond.methodLink RX7 98 yX1_turnSeal ∈ lw_g := lw_gm (i := 380) (by decide +kernel) (by decide +kernel)
theorem qI_X1_turnSeal : Cond.instanceMethod yX1_turnSeal ∈ lw_g := lw_gm (i := 381) (by decide +kernel) (by decide +kernel)
theorem qS_X1_turnSeal : Cond.selects RX1 yX1_turnSeal yX1_turnSeal ∈ lw_g := lw_gm (i := 382) (by decide +kernel) (by decide +kernel)
theorem qC_X1_turnSeal : Cond.code yX1_turnSeal cX1_turnSeal 2 none ∈ lw_g := lw_gm (i := 383) (by decide +kernel) (by decide +kernel)
theorem qM_X1_104 : Cond.methodLink RX1 104 yX1_hasLetter ∈ lw_g := lw_gm (i := 384) (by decide +kernel) (by decide +kernel)
theorem qM_X7_102 : Cond.methodLink RX7 102 yX1_passWeeks ∈ lw_g := lw_gm (i := 385) (by decide +kernel) (by decide +kernel)
theorem qI_X1_passWeeks : Cond.instanceMethod yX1_passWeeks ∈ lw_g := lw_gm (i := 386) (by decide +kernel) (by decide +kernel)
theorem qS_X1_passWeeks : Cond.selects RX1 yX1_passWeeks yX1_passWeeks ∈ lw_g := lw_gm (i := 387) (by decide +kernel) (by decide +kernel)
theorem qC_X1_passWeeks : Cond.code yX1_passWeeks cX1_passWeeks 3 (some .int) ∈ lw_g := lw_gm (i := 388) (by decide +kernel) (by decide +kernel)
theorem qM_X1_114 : Cond.methodLink RX1 114 yX1_passWeek ∈ lw_g := lw_gm (i := 389) (by decide +kernel) (by decide +kernel)
theorem qI_X1_passWeek : Cond.instanceMethod yX1_passWeek ∈ lw_g := lw_gm (i := 390) (by decide +kernel) (by decide +kernel)
theorem qS_X1_passWeek : Cond.selects RX1 yX1_passWeek yX1_passWeek ∈ lw_g := lw_gm (i := 391) (by decide +kernel) (by decide +kernel)
theorem qC_X1_passWeek : Cond.code yX1_passWeek cX1_passWeek 4 (some .int) ∈ lw_g := lw_gm (i := 392) (by decide +kernel) (by decide +kernel)
theorem qM_X1_93 : Cond.methodLink RX1 93 yX1_hateOf ∈ lw_g := lw_gm (i := 393) (by decide +kernel) (by decide +kernel)
theorem qI_X1_hateOf : Cond.instanceMethod yX1_hateOf ∈ lw_g := lw_gm (i := 394) (by decide +kernel) (by decide +kernel)
theorem qS_X1_hateOf : Cond.selects RX1 yX1_hateOf yX1_hateOf ∈ lw_g := lw_gm (i := 395) (by decide +kernel) (by decide +kernel)
theorem qC_X1_hateOf : Cond.code yX1_hateOf cX1_hateOf 3 (some .int) ∈ lw_g := lw_gm (i := 396) (by decide +kernel) (by decide +kernel)
theorem qM_X1_66 : Cond.methodLinkNest RX1 66 yX8_at RX8 ∈ lw_tbl := List.mem_of_getElem? (i := 397) (by decide +kernel)
theorem qM_X1_121 : Cond.methodLink RX1 121 yX1_change ∈ lw_g := lw_gm (i := 398) (by decide +kernel) (by decide +kernel)
theorem qI_X1_change : Cond.instanceMethod yX1_change ∈ lw_g := lw_gm (i := 400) (by decide +kernel) (by decide +kernel)
theorem qC_X1_change : Cond.code yX1_change cX1_change 5 (some .int) ∈ lw_g := lw_gm (i := 401) (by decide +kernel) (by decide +kernel)
theorem qM_X1_130 : Cond.methodLink RX1 130 yX1_fadeOf ∈ lw_g := lw_gm (i := 402) (by decide +kernel) (by decide +kernel)
theorem qI_X1_fadeOf : Cond.instanceMethod yX1_fadeOf ∈ lw_g := lw_gm (i := 403) (by decide +kernel) (by decide +kernel)
theorem qS_X1_fadeOf : Cond.selects RX1 yX1_fadeOf yX1_fadeOf ∈ lw_g := lw_gm (i := 404) (by decide +kernel) (by decide +kernel)
theorem qC_X1_fadeOf : Cond.code yX1_fadeOf cX1_fadeOf 2 (some .int) ∈ lw_g := lw_gm (i := 405) (by decide +kernel) (by decide +kernel)
theorem qM_X1_70 : Cond.methodLink RX1 70 yX2_fading ∈ lw_g := lw_gm (i := 406) (by decide +kernel) (by decide +kernel)
theorem qT_X2_fading : Cond.static yX2_fading ∈ lw_g := lw_gm (i := 407) (by decide +kernel) (by decide +kernel)
theorem qC_X2_fading : Cond.code yX2_fading cX2_fading 2 (some .int) ∈ lw_g := lw_gm (i := 408) (by decide +kernel) (by decide +kernel)
theorem qM_X1_133 : Cond.methodLink RX1 133 yX1_stirOf ∈ lw_g := lw_gm (i := 409) (by decide +kernel) (by decide +kernel)
theorem qI_X1_stirOf : Cond.instanceMethod yX1_stirOf ∈ lw_g := lw_gm (i := 410) (by decide +kernel) (by decide +kernel)
theorem qS_X1_stirOf : Cond.selects RX1 yX1_stirOf yX1_stirOf ∈ lw_g := lw_gm (i := 411) (by decide +kernel) (by decide +kernel)
theorem qC_X1_stirOf : Cond.code yX1_stirOf cX1_stirOf 2 (some .int) ∈ lw_g := lw_gm (i := 412) (by decide +kernel) (by decide +kernel)
theorem qM_X1_76 : Cond.methodLink RX1 76 yX2_stirring ∈ lw_g := lw_gm (i := 413) (by decide +kernel) (by decide +kernel)
theorem qT_X2_stirring : Cond.static yX2_stirring ∈ lw_g := lw_gm (i := 414) (by decide +kernel) (by decide +kernel)
theorem qC_X2_stirring : Cond.code yX2_stirring cX2_stirring 2 (some .int) ∈ lw_g := lw_gm (i := 415) (by decide +kernel) (by decide +kernel)
theorem qM_X1_124 : Cond.methodLink RX1 124 yX1_isOpen ∈ lw_g := lw_gm (i := 416) (by decide +kernel) (by decide +kernel)
theorem qI_X1_isOpen : Cond.instanceMethod yX1_isOpen ∈ lw_g := lw_gm (i := 417) (by decide +kernel) (by decide +kernel)
theorem qS_X1_isOpen : Cond.selects RX1 yX1_isOpen yX1_isOpen ∈ lw_g := lw_gm (i := 418) (by decide +kernel) (by decide +kernel)
theorem qC_X1_isOpen : Cond.code yX1_isOpen cX1_isOpen 2 (some .boolean) ∈ lw_g := lw_gm (i := 419) (by decide +kernel) (by decide +kernel)
theorem qM_X1_82 : Cond.methodLinkNest RX1 82 yX8_bit RX8 ∈ lw_tbl := List.mem_of_getElem? (i := 420) (by decide +kernel)
theorem qT_X8_bit : Cond.static yX8_bit ∈ lw_g := lw_gm (i := 421) (by decide +kernel) (by decide +kernel)
theorem qC_X8_bit : Cond.code yX8_bit cX8_bit 2 (some .int) ∈ lw_g := lw_gm (i := 422) (by decide +kernel) (by decide +kernel)
theorem qM_X1_127 : Cond.methodLink RX1 127 yX1_opener ∈ lw_g := lw_gm (i := 423) (by decide +kernel) (by decide +kernel)
theorem qI_X1_opener : Cond.instanceMethod yX1_opener ∈ lw_g := lw_gm (i := 424) (by decide +kernel) (by decide +kernel)
theorem qS_X1_opener : Cond.selects RX1 yX1_opener yX1_opener ∈ lw_g := lw_gm (i := 425) (by decide +kernel) (by decide +kernel)
theorem qC_X1_opener : Cond.code yX1_opener cX1_opener 9 (some .int) ∈ lw_g := lw_gm (i := 426) (by decide +kernel) (by decide +kernel)
theorem qM_X1_107 : Cond.methodLink RX1 107 yX1_areBothIn ∈ lw_g := lw_gm (i := 427) (by decide +kernel) (by decide +kernel)
theorem qI_X1_areBothIn : Cond.instanceMethod yX1_areBothIn ∈ lw_g := lw_gm (i := 428) (by decide +kernel) (by decide +kernel)
theorem qS_X1_areBothIn : Cond.selects RX1 yX1_areBothIn yX1_areBothIn ∈ lw_g := lw_gm (i := 429) (by decide +kernel) (by decide +kernel)
theorem qC_X1_areBothIn : Cond.code yX1_areBothIn cX1_areBothIn 4 (some .boolean) ∈ lw_g := lw_gm (i := 430) (by decide +kernel) (by decide +kernel)
theorem qM_X1_111 : Cond.methodLinkNest RX1 111 yX8_twoName RX8 ∈ lw_tbl := List.mem_of_getElem? (i := 431) (by decide +kernel)
theorem qT_X8_twoName : Cond.static yX8_twoName ∈ lw_g := lw_gm (i := 432) (by decide +kernel) (by decide +kernel)
theorem qC_X8_twoName : Cond.code yX8_twoName cX8_twoName 2 (some .int) ∈ lw_g := lw_gm (i := 433) (by decide +kernel) (by decide +kernel)
theorem qM_X8_338 : Cond.methodLink RX8 338 Lib.Math.max.name ∈ lw_g := lw_gm (i := 434) (by decide +kernel) (by decide +kernel)
theorem qM_X1_118 : Cond.methodLink RX1 118 yX1_openCount ∈ lw_g := lw_gm (i := 435) (by decide +kernel) (by decide +kernel)
theorem qI_X1_openCount : Cond.instanceMethod yX1_openCount ∈ lw_g := lw_gm (i := 436) (by decide +kernel) (by decide +kernel)
theorem qS_X1_openCount : Cond.selects RX1 yX1_openCount yX1_openCount ∈ lw_g := lw_gm (i := 437) (by decide +kernel) (by decide +kernel)
theorem qC_X1_openCount : Cond.code yX1_openCount cX1_openCount 1 (some .int) ∈ lw_g := lw_gm (i := 438) (by decide +kernel) (by decide +kernel)
theorem qM_X1_56 : Cond.methodLink RX1 56 yJ6_bitCount_0f7a4 ∈ lw_g := lw_gm (i := 439) (by decide +kernel) (by decide +kernel)
theorem qT_J6_bitCount_0f7a4 : Cond.static yJ6_bitCount_0f7a4 ∈ lw_g := lw_gm (i := 440) (by decide +kernel) (by decide +kernel)
theorem qC_J6_bitCount_0f7a4 : Cond.code yJ6_bitCount_0f7a4 cJ6_bitCount_0f7a4 1 (some .int) ∈ lw_g := lw_gm (i := 441) (by decide +kernel) (by decide +kernel)
theorem qK_J6_265 : Cond.constant RJ6 265 (1431655765) ∈ lw_g := lw_gm (i := 442) (by decide +kernel) (by decide +kernel)
theorem qK_J6_266 : Cond.constant RJ6 266 (858993459) ∈ lw_g := lw_gm (i := 443) (by decide +kernel) (by decide +kernel)
theorem qK_J6_267 : Cond.constant RJ6 267 (252645135) ∈ lw_g := lw_gm (i := 444) (by decide +kernel) (by decide +kernel)
theorem qM_X8_88 : Cond.methodLink RX8 88 yX7_empty ∈ lw_g := lw_gm (i := 445) (by decide +kernel) (by decide +kernel)
theorem qI_X7_empty : Cond.instanceMethod yX7_empty ∈ lw_g := lw_gm (i := 446) (by decide +kernel) (by decide +kernel)
theorem qS_X7_empty : Cond.selects RX7 yX7_empty yX7_empty ∈ lw_g := lw_gm (i := 447) (by decide +kernel) (by decide +kernel)
theorem qC_X7_empty : Cond.code yX7_empty cX7_empty 1 none ∈ lw_g := lw_gm (i := 448) (by decide +kernel) (by decide +kernel)
theorem qM_X8_91 : Cond.methodLink RX8 91 yX5_forget ∈ lw_g := lw_gm (i := 449) (by decide +kernel) (by decide +kernel)
theorem qI_X5_forget : Cond.instanceMethod yX5_forget ∈ lw_g := lw_gm (i := 450) (by decide +kernel) (by decide +kernel)
theorem qS_X5_forget : Cond.selects RX5 yX5_forget yX5_forget ∈ lw_g := lw_gm (i := 451) (by decide +kernel) (by decide +kernel)
theorem qC_X5_forget : Cond.code yX5_forget cX5_forget 1 none ∈ lw_g := lw_gm (i := 452) (by decide +kernel) (by decide +kernel)
theorem qM_L_23 : Cond.methodLink RL 23 yX8_keeperOf ∈ lw_g := lw_gm (i := 453) (by decide +kernel) (by decide +kernel)
theorem qI_X8_keeperOf : Cond.instanceMethod yX8_keeperOf ∈ lw_g := lw_gm (i := 454) (by decide +kernel) (by decide +kernel)
theorem qS_X8_keeperOf : Cond.selects RX8 yX8_keeperOf yX8_keeperOf ∈ lw_g := lw_gm (i := 455) (by decide +kernel) (by decide +kernel)
theorem qC_X8_keeperOf : Cond.code yX8_keeperOf cX8_keeperOf 4 (some .int) ∈ lw_g := lw_gm (i := 456) (by decide +kernel) (by decide +kernel)
theorem qM_X8_94 : Cond.methodLink RX8 94 yX8_keeperRefusal ∈ lw_g := lw_gm (i := 457) (by decide +kernel) (by decide +kernel)
theorem qI_X8_keeperRefusal : Cond.instanceMethod yX8_keeperRefusal ∈ lw_g := lw_gm (i := 459) (by decide +kernel) (by decide +kernel)
theorem qC_X8_keeperRefusal : Cond.code yX8_keeperRefusal cX8_keeperRefusal 2 (some .int) ∈ lw_g := lw_gm (i := 460) (by decide +kernel) (by decide +kernel)
theorem qM_X8_347 : Cond.methodLink RX8 347 yX1_hasKeeper ∈ lw_g := lw_gm (i := 461) (by decide +kernel) (by decide +kernel)
theorem qM_X8_97 : Cond.methodLink RX8 97 yX8_choice ∈ lw_g := lw_gm (i := 462) (by decide +kernel) (by decide +kernel)
theorem qT_X8_choice : Cond.static yX8_choice ∈ lw_g := lw_gm (i := 463) (by decide +kernel) (by decide +kernel)
theorem qC_X8_choice : Cond.code yX8_choice cX8_choice 2 (some .int) ∈ lw_g := lw_gm (i := 464) (by decide +kernel) (by decide +kernel)
theorem qM_X8_101 : Cond.methodLink RX8 101 yX1_kindOf ∈ lw_g := lw_gm (i := 465) (by decide +kernel) (by decide +kernel)
theorem qI_X1_kindOf : Cond.instanceMethod yX1_kindOf ∈ lw_g := lw_gm (i := 466) (by decide +kernel) (by decide +kernel)
theorem qS_X1_kindOf : Cond.selects RX1 yX1_kindOf yX1_kindOf ∈ lw_g := lw_gm (i := 467) (by decide +kernel) (by decide +kernel)
theorem qC_X1_kindOf : Cond.code yX1_kindOf cX1_kindOf 2 (some .int) ∈ lw_g := lw_gm (i := 468) (by decide +kernel) (by decide +kernel)
theorem qM_X8_104 : Cond.methodLink RX8 104 yX1_figureOf ∈ lw_g := lw_gm (i := 469) (by decide +kernel) (by decide +kernel)
theorem qI_X1_figureOf : Cond.instanceMethod yX1_figureOf ∈ lw_g := lw_gm (i := 470) (by decide +kernel) (by decide +kernel)
theorem qS_X1_figureOf : Cond.selects RX1 yX1_figureOf yX1_figureOf ∈ lw_g := lw_gm (i := 471) (by decide +kernel) (by decide +kernel)
theorem qC_X1_figureOf : Cond.code yX1_figureOf cX1_figureOf 2 (some .int) ∈ lw_g := lw_gm (i := 472) (by decide +kernel) (by decide +kernel)
theorem qM_X8_107 : Cond.methodLink RX8 107 yX1_townOf ∈ lw_g := lw_gm (i := 473) (by decide +kernel) (by decide +kernel)
theorem qI_X1_townOf : Cond.instanceMethod yX1_townOf ∈ lw_g := lw_gm (i := 474) (by decide +kernel) (by decide +kernel)
theorem qS_X1_townOf : Cond.selects RX1 yX1_townOf yX1_townOf ∈ lw_g := lw_gm (i := 475) (by decide +kernel) (by decide +kernel)
theorem qC_X1_townOf : Cond.code yX1_townOf cX1_townOf 2 (some .int) ∈ lw_g := lw_gm (i := 476) (by decide +kernel) (by decide +kernel)
theorem qM_X8_110 : Cond.methodLink RX8 110 yX1_fadeOf ∈ lw_g := lw_gm (i := 477) (by decide +kernel) (by decide +kernel)
theorem qM_X8_113 : Cond.methodLink RX8 113 yX1_stirOf ∈ lw_g := lw_gm (i := 478) (by decide +kernel) (by decide +kernel)
theorem qM_X8_116 : Cond.methodLink RX8 116 yX1_wageOf ∈ lw_g := lw_gm (i := 479) (by decide +kernel) (by decide +kernel)
theorem qI_X1_wageOf : Cond.instanceMethod yX1_wageOf ∈ lw_g := lw_gm (i := 480) (by decide +kernel) (by decide +kernel)
theorem qS_X1_wageOf : Cond.selects RX1 yX1_wageOf yX1_wageOf ∈ lw_g := lw_gm (i := 481) (by decide +kernel) (by decide +kernel)
theorem qC_X1_wageOf : Cond.code yX1_wageOf cX1_wageOf 2 (some .int) ∈ lw_g := lw_gm (i := 482) (by decide +kernel) (by decide +kernel)
theorem qM_X1_79 : Cond.methodLink RX1 79 yX2_wage ∈ lw_g := lw_gm (i := 483) (by decide +kernel) (by decide +kernel)
theorem qT_X2_wage : Cond.static yX2_wage ∈ lw_g := lw_gm (i := 484) (by decide +kernel) (by decide +kernel)
theorem qC_X2_wage : Cond.code yX2_wage cX2_wage 4 (some .int) ∈ lw_g := lw_gm (i := 485) (by decide +kernel) (by decide +kernel)
theorem qM_L_28 : Cond.methodLink RL 28 yX8_letterOf ∈ lw_g := lw_gm (i := 486) (by decide +kernel) (by decide +kernel)
theorem qI_X8_letterOf : Cond.instanceMethod yX8_letterOf ∈ lw_g := lw_gm (i := 487) (by decide +kernel) (by decide +kernel)
theorem qS_X8_letterOf : Cond.selects RX8 yX8_letterOf yX8_letterOf ∈ lw_g := lw_gm (i := 488) (by decide +kernel) (by decide +kernel)
theorem qC_X8_letterOf : Cond.code yX8_letterOf cX8_letterOf 4 (some .int) ∈ lw_g := lw_gm (i := 489) (by decide +kernel) (by decide +kernel)
theorem qM_X8_119 : Cond.methodLink RX8 119 yX8_letterRefusal ∈ lw_g := lw_gm (i := 490) (by decide +kernel) (by decide +kernel)
theorem qI_X8_letterRefusal : Cond.instanceMethod yX8_letterRefusal ∈ lw_g := lw_gm (i := 492) (by decide +kernel) (by decide +kernel)
theorem qC_X8_letterRefusal : Cond.code yX8_letterRefusal cX8_letterRefusal 2 (some .int) ∈ lw_g := lw_gm (i := 493) (by decide +kernel) (by decide +kernel)
theorem qM_X8_350 : Cond.methodLink RX8 350 yX1_hasLetter ∈ lw_g := lw_gm (i := 494) (by decide +kernel) (by decide +kernel)
theorem qM_X8_122 : Cond.methodLink RX8 122 yX1_depthOf ∈ lw_g := lw_gm (i := 495) (by decide +kernel) (by decide +kernel)
theorem qI_X1_depthOf : Cond.instanceMethod yX1_depthOf ∈ lw_g := lw_gm (i := 496) (by decide +kernel) (by decide +kernel)
theorem qS_X1_depthOf : Cond.selects RX1 yX1_depthOf yX1_depthOf ∈ lw_g := lw_gm (i := 497) (by decide +kernel) (by decide +kernel)
theorem qC_X1_depthOf : Cond.code yX1_depthOf cX1_depthOf 2 (some .int) ∈ lw_g := lw_gm (i := 498) (by decide +kernel) (by decide +kernel)
theorem qM_X8_125 : Cond.methodLink RX8 125 yX1_letterTownOf ∈ lw_g := lw_gm (i := 499) (by decide +kernel) (by decide +kernel)
theorem qI_X1_letterTownOf : Cond.instanceMethod yX1_letterTownOf ∈ lw_g := lw_gm (i := 500) (by decide +kernel) (by decide +kernel)
theorem qS_X1_letterTownOf : Cond.selects RX1 yX1_letterTownOf yX1_letterTownOf ∈ lw_g := lw_gm (i := 501) (by decide +kernel) (by decide +kernel)
theorem qC_X1_letterTownOf : Cond.code yX1_letterTownOf cX1_letterTownOf 2 (some .int) ∈ lw_g := lw_gm (i := 502) (by decide +kernel) (by decide +kernel)
theorem qM_X8_128 : Cond.methodLink RX8 128 yX1_isOpen ∈ lw_g := lw_gm (i := 503) (by decide +kernel) (by decide +kernel)
theorem qM_X8_132 : Cond.methodLink RX8 132 yX1_opener ∈ lw_g := lw_gm (i := 504) (by decide +kernel) (by decide +kernel)
theorem qM_L_32 : Cond.methodLink RL 32 yX8_hate ∈ lw_g := lw_gm (i := 505) (by decide +kernel) (by decide +kernel)
theorem qI_X8_hate : Cond.instanceMethod yX8_hate ∈ lw_g := lw_gm (i := 506) (by decide +kernel) (by decide +kernel)
theorem qS_X8_hate : Cond.selects RX8 yX8_hate yX8_hate ∈ lw_g := lw_gm (i := 507) (by decide +kernel) (by decide +kernel)
theorem qC_X8_hate : Cond.code yX8_hate cX8_hate 4 (some .int) ∈ lw_g := lw_gm (i := 508) (by decide +kernel) (by decide +kernel)
theorem qM_X8_135 : Cond.methodLink RX8 135 yX8_twoRefusal ∈ lw_g := lw_gm (i := 509) (by decide +kernel) (by decide +kernel)
theorem qI_X8_twoRefusal : Cond.instanceMethod yX8_twoRefusal ∈ lw_g := lw_gm (i := 511) (by decide +kernel) (by decide +kernel)
theorem qC_X8_twoRefusal : Cond.code yX8_twoRefusal cX8_twoRefusal 3 (some .int) ∈ lw_g := lw_gm (i := 512) (by decide +kernel) (by decide +kernel)
theorem qM_X8_353 : Cond.methodLink RX8 353 yX1_areTwo ∈ lw_g := lw_gm (i := 513) (by decide +kernel) (by decide +kernel)
theorem qM_X8_138 : Cond.methodLink RX8 138 yX1_hateOf ∈ lw_g := lw_gm (i := 514) (by decide +kernel) (by decide +kernel)
theorem qM_L_205 : Cond.methodLink RL 205 yX8_count ∈ lw_g := lw_gm (i := 515) (by decide +kernel) (by decide +kernel)
theorem qI_X8_count : Cond.instanceMethod yX8_count ∈ lw_g := lw_gm (i := 516) (by decide +kernel) (by decide +kernel)
theorem qS_X8_count : Cond.selects RX8 yX8_count yX8_count ∈ lw_g := lw_gm (i := 517) (by decide +kernel) (by decide +kernel)
theorem qC_X8_count : Cond.code yX8_count cX8_count 2 (some .int) ∈ lw_g := lw_gm (i := 518) (by decide +kernel) (by decide +kernel)
theorem qM_X8_141 : Cond.methodLink RX8 141 yX1_keeperCount ∈ lw_g := lw_gm (i := 519) (by decide +kernel) (by decide +kernel)
theorem qI_X1_keeperCount : Cond.instanceMethod yX1_keeperCount ∈ lw_g := lw_gm (i := 520) (by decide +kernel) (by decide +kernel)
theorem qS_X1_keeperCount : Cond.selects RX1 yX1_keeperCount yX1_keeperCount ∈ lw_g := lw_gm (i := 521) (by decide +kernel) (by decide +kernel)
theorem qC_X1_keeperCount : Cond.code yX1_keeperCount cX1_keeperCount 1 (some .int) ∈ lw_g := lw_gm (i := 522) (by decide +kernel) (by decide +kernel)
theorem qM_X8_145 : Cond.methodLink RX8 145 yX1_letterCount ∈ lw_g := lw_gm (i := 523) (by decide +kernel) (by decide +kernel)
theorem qI_X1_letterCount : Cond.instanceMethod yX1_letterCount ∈ lw_g := lw_gm (i := 524) (by decide +kernel) (by decide +kernel)
theorem qS_X1_letterCount : Cond.selects RX1 yX1_letterCount yX1_letterCount ∈ lw_g := lw_gm (i := 525) (by decide +kernel) (by decide +kernel)
theorem qC_X1_letterCount : Cond.code yX1_letterCount cX1_letterCount 1 (some .int) ∈ lw_g := lw_gm (i := 526) (by decide +kernel) (by decide +kernel)
theorem qM_X8_148 : Cond.methodLink RX8 148 yX1_weekNow ∈ lw_g := lw_gm (i := 527) (by decide +kernel) (by decide +kernel)
theorem qM_X8_151 : Cond.methodLink RX8 151 yX1_openBits ∈ lw_g := lw_gm (i := 528) (by decide +kernel) (by decide +kernel)
theorem qI_X1_openBits : Cond.instanceMethod yX1_openBits ∈ lw_g := lw_gm (i := 529) (by decide +kernel) (by decide +kernel)
theorem qS_X1_openBits : Cond.selects RX1 yX1_openBits yX1_openBits ∈ lw_g := lw_gm (i := 530) (by decide +kernel) (by decide +kernel)
theorem qC_X1_openBits : Cond.code yX1_openBits cX1_openBits 1 (some .int) ∈ lw_g := lw_gm (i := 531) (by decide +kernel) (by decide +kernel)
theorem qM_X8_154 : Cond.methodLink RX8 154 yX1_allHate ∈ lw_g := lw_gm (i := 532) (by decide +kernel) (by decide +kernel)
theorem qI_X1_allHate : Cond.instanceMethod yX1_allHate ∈ lw_g := lw_gm (i := 533) (by decide +kernel) (by decide +kernel)
theorem qS_X1_allHate : Cond.selects RX1 yX1_allHate yX1_allHate ∈ lw_g := lw_gm (i := 534) (by decide +kernel) (by decide +kernel)
theorem qC_X1_allHate : Cond.code yX1_allHate cX1_allHate 4 (some .int) ∈ lw_g := lw_gm (i := 535) (by decide +kernel) (by decide +kernel)
theorem qM_X8_157 : Cond.methodLink RX8 157 yX7_size ∈ lw_g := lw_gm (i := 536) (by decide +kernel) (by decide +kernel)
theorem qI_X7_size : Cond.instanceMethod yX7_size ∈ lw_g := lw_gm (i := 537) (by decide +kernel) (by decide +kernel)
theorem qS_X7_size : Cond.selects RX7 yX7_size yX7_size ∈ lw_g := lw_gm (i := 538) (by decide +kernel) (by decide +kernel)
theorem qC_X7_size : Cond.code yX7_size cX7_size 1 (some .int) ∈ lw_g := lw_gm (i := 539) (by decide +kernel) (by decide +kernel)
theorem qM_X8_160 : Cond.methodLink RX8 160 yX6_size ∈ lw_g := lw_gm (i := 540) (by decide +kernel) (by decide +kernel)
theorem qI_X6_size : Cond.instanceMethod yX6_size ∈ lw_g := lw_gm (i := 541) (by decide +kernel) (by decide +kernel)
theorem qS_X6_size : Cond.selects RX6 yX6_size yX6_size ∈ lw_g := lw_gm (i := 542) (by decide +kernel) (by decide +kernel)
theorem qC_X6_size : Cond.code yX6_size cX6_size 1 (some .int) ∈ lw_g := lw_gm (i := 543) (by decide +kernel) (by decide +kernel)
theorem qM_X8_161 : Cond.methodLink RX8 161 yX5_size ∈ lw_g := lw_gm (i := 544) (by decide +kernel) (by decide +kernel)
theorem qI_X5_size : Cond.instanceMethod yX5_size ∈ lw_g := lw_gm (i := 545) (by decide +kernel) (by decide +kernel)
theorem qS_X5_size : Cond.selects RX5 yX5_size yX5_size ∈ lw_g := lw_gm (i := 546) (by decide +kernel) (by decide +kernel)
theorem qC_X5_size : Cond.code yX5_size cX5_size 1 (some .int) ∈ lw_g := lw_gm (i := 547) (by decide +kernel) (by decide +kernel)
theorem qM_L_36 : Cond.methodLink RL 36 yX8_keeper ∈ lw_g := lw_gm (i := 548) (by decide +kernel) (by decide +kernel)
theorem qI_X8_keeper : Cond.instanceMethod yX8_keeper ∈ lw_g := lw_gm (i := 549) (by decide +kernel) (by decide +kernel)
theorem qS_X8_keeper : Cond.selects RX8 yX8_keeper yX8_keeper ∈ lw_g := lw_gm (i := 550) (by decide +kernel) (by decide +kernel)
theorem qC_X8_keeper : Cond.code yX8_keeper cX8_keeper 6 (some .int) ∈ lw_g := lw_gm (i := 551) (by decide +kernel) (by decide +kernel)
theorem qM_X8_166 : Cond.methodLink RX8 166 yX1_hasKeeperRoom ∈ lw_g := lw_gm (i := 552) (by decide +kernel) (by decide +kernel)
theorem qM_X8_169 : Cond.methodLink RX8 169 yX8_townRefusal ∈ lw_g := lw_gm (i := 553) (by decide +kernel) (by decide +kernel)
theorem qT_X8_townRefusal : Cond.static yX8_townRefusal ∈ lw_g := lw_gm (i := 554) (by decide +kernel) (by decide +kernel)
theorem qC_X8_townRefusal : Cond.code yX8_townRefusal cX8_townRefusal 1 (some .int) ∈ lw_g := lw_gm (i := 555) (by decide +kernel) (by decide +kernel)
theorem qM_X8_357 : Cond.methodLink RX8 357 yX8_isTown ∈ lw_g := lw_gm (i := 556) (by decide +kernel) (by decide +kernel)
theorem qM_X8_172 : Cond.methodLink RX8 172 yX1_addKeeper ∈ lw_g := lw_gm (i := 557) (by decide +kernel) (by decide +kernel)
theorem qM_L_41 : Cond.methodLink RL 41 yX8_letter ∈ lw_g := lw_gm (i := 558) (by decide +kernel) (by decide +kernel)
theorem qI_X8_letter : Cond.instanceMethod yX8_letter ∈ lw_g := lw_gm (i := 559) (by decide +kernel) (by decide +kernel)
theorem qS_X8_letter : Cond.selects RX8 yX8_letter yX8_letter ∈ lw_g := lw_gm (i := 560) (by decide +kernel) (by decide +kernel)
theorem qC_X8_letter : Cond.code yX8_letter cX8_letter 5 (some .int) ∈ lw_g := lw_gm (i := 561) (by decide +kernel) (by decide +kernel)
theorem qM_X8_175 : Cond.methodLink RX8 175 yX1_hasLetterRoom ∈ lw_g := lw_gm (i := 562) (by decide +kernel) (by decide +kernel)
theorem qM_X8_178 : Cond.methodLink RX8 178 yX1_addLetter ∈ lw_g := lw_gm (i := 563) (by decide +kernel) (by decide +kernel)
theorem qM_L_45 : Cond.methodLink RL 45 yX8_hates ∈ lw_g := lw_gm (i := 564) (by decide +kernel) (by decide +kernel)
theorem qI_X8_hates : Cond.instanceMethod yX8_hates ∈ lw_g := lw_gm (i := 565) (by decide +kernel) (by decide +kernel)
theorem qS_X8_hates : Cond.selects RX8 yX8_hates yX8_hates ∈ lw_g := lw_gm (i := 566) (by decide +kernel) (by decide +kernel)
theorem qC_X8_hates : Cond.code yX8_hates cX8_hates 6 (some .int) ∈ lw_g := lw_gm (i := 567) (by decide +kernel) (by decide +kernel)
theorem qM_X8_181 : Cond.methodLink RX8 181 yX5_remember ∈ lw_g := lw_gm (i := 568) (by decide +kernel) (by decide +kernel)
theorem qI_X5_remember : Cond.instanceMethod yX5_remember ∈ lw_g := lw_gm (i := 569) (by decide +kernel) (by decide +kernel)
theorem qS_X5_remember : Cond.selects RX5 yX5_remember yX5_remember ∈ lw_g := lw_gm (i := 570) (by decide +kernel) (by decide +kernel)
theorem qC_X5_remember : Cond.code yX5_remember cX5_remember 3 none ∈ lw_g := lw_gm (i := 571) (by decide +kernel) (by decide +kernel)
theorem qM_X5_23 : Cond.methodLink RX5 23 yX5_country ∈ lw_g := lw_gm (i := 572) (by decide +kernel) (by decide +kernel)
theorem qI_X5_country : Cond.instanceMethod yX5_country ∈ lw_g := lw_gm (i := 574) (by decide +kernel) (by decide +kernel)
theorem qC_X5_country : Cond.code yX5_country cX5_country 2 (some (.object "OnlyTwoEnemies$Country")) ∈ lw_g := lw_gm (i := 575) (by decide +kernel) (by decide +kernel)
theorem qM_X5_27 : Cond.methodLink RX5 27 yX1_become ∈ lw_g := lw_gm (i := 576) (by decide +kernel) (by decide +kernel)
theorem qM_X5_31 : Cond.methodLink RX5 31 Lib.Math.min.name ∈ lw_g := lw_gm (i := 577) (by decide +kernel) (by decide +kernel)
theorem qM_X8_184 : Cond.methodLink RX8 184 yX1_setHate ∈ lw_g := lw_gm (i := 578) (by decide +kernel) (by decide +kernel)
theorem qM_L_49 : Cond.methodLink RL 49 yX8_goes ∈ lw_g := lw_gm (i := 579) (by decide +kernel) (by decide +kernel)
theorem qI_X8_goes : Cond.instanceMethod yX8_goes ∈ lw_g := lw_gm (i := 580) (by decide +kernel) (by decide +kernel)
theorem qS_X8_goes : Cond.selects RX8 yX8_goes yX8_goes ∈ lw_g := lw_gm (i := 581) (by decide +kernel) (by decide +kernel)
theorem qC_X8_goes : Cond.code yX8_goes cX8_goes 5 (some .int) ∈ lw_g := lw_gm (i := 582) (by decide +kernel) (by decide +kernel)
theorem qM_X8_188 : Cond.methodLink RX8 188 yX1_move ∈ lw_g := lw_gm (i := 583) (by decide +kernel) (by decide +kernel)
theorem qM_L_53 : Cond.methodLink RL 53 yX8_seals ∈ lw_g := lw_gm (i := 584) (by decide +kernel) (by decide +kernel)
theorem qI_X8_seals : Cond.instanceMethod yX8_seals ∈ lw_g := lw_gm (i := 585) (by decide +kernel) (by decide +kernel)
theorem qS_X8_seals : Cond.selects RX8 yX8_seals yX8_seals ∈ lw_g := lw_gm (i := 586) (by decide +kernel) (by decide +kernel)
theorem qC_X8_seals : Cond.code yX8_seals cX8_seals 3 (some .int) ∈ lw_g := lw_gm (i := 587) (by decide +kernel) (by decide +kernel)
theorem qM_X8_192 : Cond.methodLink RX8 192 yX1_turnSeal ∈ lw_g := lw_gm (i := 588) (by decide +kernel) (by decide +kernel)
theorem qM_L_57 : Cond.methodLink RL 57 yX8_weeks ∈ lw_g := lw_gm (i := 589) (by decide +kernel) (by decide +kernel)
theorem qI_X8_weeks : Cond.instanceMethod yX8_weeks ∈ lw_g := lw_gm (i := 590) (by decide +kernel) (by decide +kernel)
theorem qS_X8_weeks : Cond.selects RX8 yX8_weeks yX8_weeks ∈ lw_g := lw_gm (i := 591) (by decide +kernel) (by decide +kernel)
theorem qC_X8_weeks : Cond.code yX8_weeks cX8_weeks 3 (some .int) ∈ lw_g := lw_gm (i := 592) (by decide +kernel) (by decide +kernel)
theorem qM_X8_196 : Cond.methodLink RX8 196 yX1_passWeeks ∈ lw_g := lw_gm (i := 593) (by decide +kernel) (by decide +kernel)
theorem qM_L_61 : Cond.methodLink RL 61 yX8_back ∈ lw_g := lw_gm (i := 594) (by decide +kernel) (by decide +kernel)
theorem qI_X8_back : Cond.instanceMethod yX8_back ∈ lw_g := lw_gm (i := 595) (by decide +kernel) (by decide +kernel)
theorem qS_X8_back : Cond.selects RX8 yX8_back yX8_back ∈ lw_g := lw_gm (i := 596) (by decide +kernel) (by decide +kernel)
theorem qC_X8_back : Cond.code yX8_back cX8_back 1 (some .int) ∈ lw_g := lw_gm (i := 597) (by decide +kernel) (by decide +kernel)
theorem qM_X8_199 : Cond.methodLink RX8 199 yX5_takeBack ∈ lw_g := lw_gm (i := 598) (by decide +kernel) (by decide +kernel)
theorem qI_X5_takeBack : Cond.instanceMethod yX5_takeBack ∈ lw_g := lw_gm (i := 599) (by decide +kernel) (by decide +kernel)
theorem qS_X5_takeBack : Cond.selects RX5 yX5_takeBack yX5_takeBack ∈ lw_g := lw_gm (i := 600) (by decide +kernel) (by decide +kernel)
theorem qC_X5_takeBack : Cond.code yX5_takeBack cX5_takeBack 4 none ∈ lw_g := lw_gm (i := 601) (by decide +kernel) (by decide +kernel)
theorem qM_L_197 : Cond.methodLink RL 197 yX8_image ∈ lw_g := lw_gm (i := 602) (by decide +kernel) (by decide +kernel)
theorem qI_X8_image : Cond.instanceMethod yX8_image ∈ lw_g := lw_gm (i := 603) (by decide +kernel) (by decide +kernel)
theorem qS_X8_image : Cond.selects RX8 yX8_image yX8_image ∈ lw_g := lw_gm (i := 604) (by decide +kernel) (by decide +kernel)
theorem qC_X8_image : Cond.code yX8_image cX8_image 1 (some .int) ∈ lw_g := lw_gm (i := 605) (by decide +kernel) (by decide +kernel)
theorem qM_L_201 : Cond.methodLink RL 201 yX8_restore ∈ lw_g := lw_gm (i := 606) (by decide +kernel) (by decide +kernel)
theorem qI_X8_restore : Cond.instanceMethod yX8_restore ∈ lw_g := lw_gm (i := 607) (by decide +kernel) (by decide +kernel)
theorem qS_X8_restore : Cond.selects RX8 yX8_restore yX8_restore ∈ lw_g := lw_gm (i := 608) (by decide +kernel) (by decide +kernel)
theorem qC_X8_restore : Cond.code yX8_restore cX8_restore 1 (some .int) ∈ lw_g := lw_gm (i := 609) (by decide +kernel) (by decide +kernel)
theorem qM_L_181 : Cond.methodLink RL 181 yX8_row ∈ lw_g := lw_gm (i := 610) (by decide +kernel) (by decide +kernel)
theorem qI_X8_row : Cond.instanceMethod yX8_row ∈ lw_g := lw_gm (i := 611) (by decide +kernel) (by decide +kernel)
theorem qS_X8_row : Cond.selects RX8 yX8_row yX8_row ∈ lw_g := lw_gm (i := 612) (by decide +kernel) (by decide +kernel)
theorem qC_X8_row : Cond.code yX8_row cX8_row 3 (some .int) ∈ lw_g := lw_gm (i := 613) (by decide +kernel) (by decide +kernel)
theorem qM_X8_206 : Cond.methodLink RX8 206 yX6_isFull ∈ lw_g := lw_gm (i := 614) (by decide +kernel) (by decide +kernel)
theorem qI_X6_isFull : Cond.instanceMethod yX6_isFull ∈ lw_g := lw_gm (i := 615) (by decide +kernel) (by decide +kernel)
theorem qS_X6_isFull : Cond.selects RX6 yX6_isFull yX6_isFull ∈ lw_g := lw_gm (i := 616) (by decide +kernel) (by decide +kernel)
theorem qC_X6_isFull : Cond.code yX6_isFull cX6_isFull 1 (some .boolean) ∈ lw_g := lw_gm (i := 617) (by decide +kernel) (by decide +kernel)
theorem qM_X8_207 : Cond.methodLink RX8 207 yX6_add ∈ lw_g := lw_gm (i := 618) (by decide +kernel) (by decide +kernel)
theorem qI_X6_add : Cond.instanceMethod yX6_add ∈ lw_g := lw_gm (i := 619) (by decide +kernel) (by decide +kernel)
theorem qS_X6_add : Cond.selects RX6 yX6_add yX6_add ∈ lw_g := lw_gm (i := 620) (by decide +kernel) (by decide +kernel)
theorem qC_X6_add : Cond.code yX6_add cX6_add 2 (some .int) ∈ lw_g := lw_gm (i := 621) (by decide +kernel) (by decide +kernel)
theorem qM_X6_17 : Cond.methodLinkNest RX6 17 yX8_put RX8 ∈ lw_tbl := List.mem_of_getElem? (i := 622) (by decide +kernel)
theorem qM_X6_23 : Cond.methodLink RX6 23 Lib.Math.min.name ∈ lw_g := lw_gm (i := 623) (by decide +kernel) (by decide +kernel)
theorem qM_L_185 : Cond.methodLink RL 185 yX8_judge ∈ lw_g := lw_gm (i := 624) (by decide +kernel) (by decide +kernel)
theorem qI_X8_judge : Cond.instanceMethod yX8_judge ∈ lw_g := lw_gm (i := 625) (by decide +kernel) (by decide +kernel)
theorem qS_X8_judge : Cond.selects RX8 yX8_judge yX8_judge ∈ lw_g := lw_gm (i := 626) (by decide +kernel) (by decide +kernel)
theorem qC_X8_judge : Cond.code yX8_judge cX8_judge 4 (some .int) ∈ lw_g := lw_gm (i := 627) (by decide +kernel) (by decide +kernel)
theorem qM_X8_208 : Cond.methodLink RX8 208 yX3_firstMisjudged ∈ lw_g := lw_gm (i := 628) (by decide +kernel) (by decide +kernel)
theorem qI_X3_firstMisjudged : Cond.instanceMethod yX3_firstMisjudged ∈ lw_g := lw_gm (i := 629) (by decide +kernel) (by decide +kernel)
theorem qS_X3_firstMisjudged : Cond.selects RX3 yX3_firstMisjudged yX3_firstMisjudged ∈ lw_g := lw_gm (i := 630) (by decide +kernel) (by decide +kernel)
theorem qC_X3_firstMisjudged : Cond.code yX3_firstMisjudged cX3_firstMisjudged 4 (some .int) ∈ lw_g := lw_gm (i := 631) (by decide +kernel) (by decide +kernel)
theorem qM_X3_96 : Cond.methodLink RX3 96 yX6_size ∈ lw_g := lw_gm (i := 632) (by decide +kernel) (by decide +kernel)
theorem qM_X3_101 : Cond.methodLink RX3 101 yX1_hasKeeper ∈ lw_g := lw_gm (i := 633) (by decide +kernel) (by decide +kernel)
theorem qM_X3_104 : Cond.methodLink RX3 104 yX6_number ∈ lw_g := lw_gm (i := 634) (by decide +kernel) (by decide +kernel)
theorem qI_X6_number : Cond.instanceMethod yX6_number ∈ lw_g := lw_gm (i := 635) (by decide +kernel) (by decide +kernel)
theorem qS_X6_number : Cond.selects RX6 yX6_number yX6_number ∈ lw_g := lw_gm (i := 636) (by decide +kernel) (by decide +kernel)
theorem qC_X6_number : Cond.code yX6_number cX6_number 2 (some .int) ∈ lw_g := lw_gm (i := 637) (by decide +kernel) (by decide +kernel)
theorem qM_X6_29 : Cond.methodLinkNest RX6 29 yX8_at RX8 ∈ lw_tbl := List.mem_of_getElem? (i := 638) (by decide +kernel)
theorem qM_X3_90 : Cond.methodLink RX3 90 yX3_hateOrSelf ∈ lw_g := lw_gm (i := 639) (by decide +kernel) (by decide +kernel)
theorem qI_X3_hateOrSelf : Cond.instanceMethod yX3_hateOrSelf ∈ lw_g := lw_gm (i := 641) (by decide +kernel) (by decide +kernel)
theorem qC_X3_hateOrSelf : Cond.code yX3_hateOrSelf cX3_hateOrSelf 3 (some .int) ∈ lw_g := lw_gm (i := 642) (by decide +kernel) (by decide +kernel)
theorem qM_X3_51 : Cond.methodLink RX3 51 yX1_hateOf ∈ lw_g := lw_gm (i := 643) (by decide +kernel) (by decide +kernel)
theorem qM_X8_212 : Cond.methodLink RX8 212 yX6_empty ∈ lw_g := lw_gm (i := 644) (by decide +kernel) (by decide +kernel)
theorem qI_X6_empty : Cond.instanceMethod yX6_empty ∈ lw_g := lw_gm (i := 645) (by decide +kernel) (by decide +kernel)
theorem qS_X6_empty : Cond.selects RX6 yX6_empty yX6_empty ∈ lw_g := lw_gm (i := 646) (by decide +kernel) (by decide +kernel)
theorem qC_X6_empty : Cond.code yX6_empty cX6_empty 1 none ∈ lw_g := lw_gm (i := 647) (by decide +kernel) (by decide +kernel)
theorem qM_L_189 : Cond.methodLink RL 189 yX8_clear ∈ lw_g := lw_gm (i := 648) (by decide +kernel) (by decide +kernel)
theorem qI_X8_clear : Cond.instanceMethod yX8_clear ∈ lw_g := lw_gm (i := 649) (by decide +kernel) (by decide +kernel)
theorem qS_X8_clear : Cond.selects RX8 yX8_clear yX8_clear ∈ lw_g := lw_gm (i := 650) (by decide +kernel) (by decide +kernel)
theorem qC_X8_clear : Cond.code yX8_clear cX8_clear 2 (some .int) ∈ lw_g := lw_gm (i := 651) (by decide +kernel) (by decide +kernel)
theorem qM_L_65 : Cond.methodLink RL 65 yX8_behind ∈ lw_g := lw_gm (i := 652) (by decide +kernel) (by decide +kernel)
theorem qI_X8_behind : Cond.instanceMethod yX8_behind ∈ lw_g := lw_gm (i := 653) (by decide +kernel) (by decide +kernel)
theorem qS_X8_behind : Cond.selects RX8 yX8_behind yX8_behind ∈ lw_g := lw_gm (i := 654) (by decide +kernel) (by decide +kernel)
theorem qC_X8_behind : Cond.code yX8_behind cX8_behind 5 (some .int) ∈ lw_g := lw_gm (i := 655) (by decide +kernel) (by decide +kernel)
theorem qM_X8_213 : Cond.methodLink RX8 213 yX4_hateAfter ∈ lw_g := lw_gm (i := 656) (by decide +kernel) (by decide +kernel)
theorem qI_X4_hateAfter : Cond.instanceMethod yX4_hateAfter ∈ lw_g := lw_gm (i := 657) (by decide +kernel) (by decide +kernel)
theorem qS_X4_hateAfter : Cond.selects RX4 yX4_hateAfter yX4_hateAfter ∈ lw_g := lw_gm (i := 658) (by decide +kernel) (by decide +kernel)
theorem qC_X4_hateAfter : Cond.code yX4_hateAfter cX4_hateAfter 4 (some .int) ∈ lw_g := lw_gm (i := 659) (by decide +kernel) (by decide +kernel)
theorem qM_X4_21 : Cond.methodLink RX4 21 yX1_become ∈ lw_g := lw_gm (i := 660) (by decide +kernel) (by decide +kernel)
theorem qM_X4_25 : Cond.methodLink RX4 25 yX1_passWeeks ∈ lw_g := lw_gm (i := 661) (by decide +kernel) (by decide +kernel)
theorem qM_X4_29 : Cond.methodLink RX4 29 yX1_hateOf ∈ lw_g := lw_gm (i := 662) (by decide +kernel) (by decide +kernel)
theorem qM_L_69 : Cond.methodLink RL 69 yX8_then ∈ lw_g := lw_gm (i := 663) (by decide +kernel) (by decide +kernel)
theorem qI_X8_then : Cond.instanceMethod yX8_then ∈ lw_g := lw_gm (i := 664) (by decide +kernel) (by decide +kernel)
theorem qS_X8_then : Cond.selects RX8 yX8_then yX8_then ∈ lw_g := lw_gm (i := 665) (by decide +kernel) (by decide +kernel)
theorem qC_X8_then : Cond.code yX8_then cX8_then 4 (some .int) ∈ lw_g := lw_gm (i := 666) (by decide +kernel) (by decide +kernel)
theorem qM_X8_216 : Cond.methodLink RX8 216 yX4_openBitsAfter ∈ lw_g := lw_gm (i := 667) (by decide +kernel) (by decide +kernel)
theorem qI_X4_openBitsAfter : Cond.instanceMethod yX4_openBitsAfter ∈ lw_g := lw_gm (i := 668) (by decide +kernel) (by decide +kernel)
theorem qS_X4_openBitsAfter : Cond.selects RX4 yX4_openBitsAfter yX4_openBitsAfter ∈ lw_g := lw_gm (i := 669) (by decide +kernel) (by decide +kernel)
theorem qC_X4_openBitsAfter : Cond.code yX4_openBitsAfter cX4_openBitsAfter 2 (some .int) ∈ lw_g := lw_gm (i := 670) (by decide +kernel) (by decide +kernel)
theorem qM_X4_33 : Cond.methodLink RX4 33 yX1_openBits ∈ lw_g := lw_gm (i := 671) (by decide +kernel) (by decide +kernel)
theorem qM_X8_219 : Cond.methodLink RX8 219 yX4_allHateAfter ∈ lw_g := lw_gm (i := 672) (by decide +kernel) (by decide +kernel)
theorem qI_X4_allHateAfter : Cond.instanceMethod yX4_allHateAfter ∈ lw_g := lw_gm (i := 673) (by decide +kernel) (by decide +kernel)
theorem qS_X4_allHateAfter : Cond.selects RX4 yX4_allHateAfter yX4_allHateAfter ∈ lw_g := lw_gm (i := 674) (by decide +kernel) (by decide +kernel)
theorem qC_X4_allHateAfter : Cond.code yX4_allHateAfter cX4_allHateAfter 2 (some .int) ∈ lw_g := lw_gm (i := 675) (by decide +kernel) (by decide +kernel)
theorem qM_X4_37 : Cond.methodLink RX4 37 yX1_allHate ∈ lw_g := lw_gm (i := 676) (by decide +kernel) (by decide +kernel)
theorem qM_L_73 : Cond.methodLink RL 73 yX8_when ∈ lw_g := lw_gm (i := 677) (by decide +kernel) (by decide +kernel)
theorem qI_X8_when : Cond.instanceMethod yX8_when ∈ lw_g := lw_gm (i := 678) (by decide +kernel) (by decide +kernel)
theorem qS_X8_when : Cond.selects RX8 yX8_when yX8_when ∈ lw_g := lw_gm (i := 679) (by decide +kernel) (by decide +kernel)
theorem qC_X8_when : Cond.code yX8_when cX8_when 4 (some .int) ∈ lw_g := lw_gm (i := 680) (by decide +kernel) (by decide +kernel)
theorem qM_X8_222 : Cond.methodLink RX8 222 yX4_weekOpened ∈ lw_g := lw_gm (i := 681) (by decide +kernel) (by decide +kernel)
theorem qI_X4_weekOpened : Cond.instanceMethod yX4_weekOpened ∈ lw_g := lw_gm (i := 682) (by decide +kernel) (by decide +kernel)
theorem qS_X4_weekOpened : Cond.selects RX4 yX4_weekOpened yX4_weekOpened ∈ lw_g := lw_gm (i := 683) (by decide +kernel) (by decide +kernel)
theorem qC_X4_weekOpened : Cond.code yX4_weekOpened cX4_weekOpened 3 (some .int) ∈ lw_g := lw_gm (i := 684) (by decide +kernel) (by decide +kernel)
theorem qM_X4_40 : Cond.methodLink RX4 40 yX1_isOpen ∈ lw_g := lw_gm (i := 685) (by decide +kernel) (by decide +kernel)
theorem qM_X4_44 : Cond.methodLink RX4 44 yX1_passWeek ∈ lw_g := lw_gm (i := 686) (by decide +kernel) (by decide +kernel)
theorem qM_X8_225 : Cond.methodLink RX8 225 yX4_openedBy ∈ lw_g := lw_gm (i := 687) (by decide +kernel) (by decide +kernel)
theorem qI_X4_openedBy : Cond.instanceMethod yX4_openedBy ∈ lw_g := lw_gm (i := 688) (by decide +kernel) (by decide +kernel)
theorem qS_X4_openedBy : Cond.selects RX4 yX4_openedBy yX4_openedBy ∈ lw_g := lw_gm (i := 689) (by decide +kernel) (by decide +kernel)
theorem qC_X4_openedBy : Cond.code yX4_openedBy cX4_openedBy 2 (some .int) ∈ lw_g := lw_gm (i := 690) (by decide +kernel) (by decide +kernel)
theorem qM_X4_47 : Cond.methodLink RX4 47 yX1_openedBy ∈ lw_g := lw_gm (i := 691) (by decide +kernel) (by decide +kernel)
theorem qI_X1_openedBy : Cond.instanceMethod yX1_openedBy ∈ lw_g := lw_gm (i := 692) (by decide +kernel) (by decide +kernel)
theorem qS_X1_openedBy : Cond.selects RX1 yX1_openedBy yX1_openedBy ∈ lw_g := lw_gm (i := 693) (by decide +kernel) (by decide +kernel)
theorem qC_X1_openedBy : Cond.code yX1_openedBy cX1_openedBy 2 (some .int) ∈ lw_g := lw_gm (i := 694) (by decide +kernel) (by decide +kernel)
theorem qM_L_77 : Cond.methodLink RL 77 yX8_lasts ∈ lw_g := lw_gm (i := 695) (by decide +kernel) (by decide +kernel)
theorem qI_X8_lasts : Cond.instanceMethod yX8_lasts ∈ lw_g := lw_gm (i := 696) (by decide +kernel) (by decide +kernel)
theorem qS_X8_lasts : Cond.selects RX8 yX8_lasts yX8_lasts ∈ lw_g := lw_gm (i := 697) (by decide +kernel) (by decide +kernel)
theorem qC_X8_lasts : Cond.code yX8_lasts cX8_lasts 5 (some .int) ∈ lw_g := lw_gm (i := 698) (by decide +kernel) (by decide +kernel)
theorem qM_X8_228 : Cond.methodLink RX8 228 yX4_weekBelow ∈ lw_g := lw_gm (i := 699) (by decide +kernel) (by decide +kernel)
theorem qI_X4_weekBelow : Cond.instanceMethod yX4_weekBelow ∈ lw_g := lw_gm (i := 700) (by decide +kernel) (by decide +kernel)
theorem qS_X4_weekBelow : Cond.selects RX4 yX4_weekBelow yX4_weekBelow ∈ lw_g := lw_gm (i := 701) (by decide +kernel) (by decide +kernel)
theorem qC_X4_weekBelow : Cond.code yX4_weekBelow cX4_weekBelow 5 (some .int) ∈ lw_g := lw_gm (i := 702) (by decide +kernel) (by decide +kernel)
theorem qM_L_81 : Cond.methodLink RL 81 yX8_never ∈ lw_g := lw_gm (i := 703) (by decide +kernel) (by decide +kernel)
theorem qI_X8_never : Cond.instanceMethod yX8_never ∈ lw_g := lw_gm (i := 704) (by decide +kernel) (by decide +kernel)
theorem qS_X8_never : Cond.selects RX8 yX8_never yX8_never ∈ lw_g := lw_gm (i := 705) (by decide +kernel) (by decide +kernel)
theorem qC_X8_never : Cond.code yX8_never cX8_never 3 (some .int) ∈ lw_g := lw_gm (i := 706) (by decide +kernel) (by decide +kernel)
theorem qM_X8_231 : Cond.methodLink RX8 231 yX4_sealedFar ∈ lw_g := lw_gm (i := 707) (by decide +kernel) (by decide +kernel)
theorem qI_X4_sealedFar : Cond.instanceMethod yX4_sealedFar ∈ lw_g := lw_gm (i := 708) (by decide +kernel) (by decide +kernel)
theorem qS_X4_sealedFar : Cond.selects RX4 yX4_sealedFar yX4_sealedFar ∈ lw_g := lw_gm (i := 709) (by decide +kernel) (by decide +kernel)
theorem qC_X4_sealedFar : Cond.code yX4_sealedFar cX4_sealedFar 1 (some .int) ∈ lw_g := lw_gm (i := 710) (by decide +kernel) (by decide +kernel)
theorem qM_X4_50 : Cond.methodLink RX4 50 yX1_letterCount ∈ lw_g := lw_gm (i := 711) (by decide +kernel) (by decide +kernel)
theorem qM_X4_53 : Cond.methodLink RX4 53 yX4_openBitsAfter ∈ lw_g := lw_gm (i := 712) (by decide +kernel) (by decide +kernel)
theorem qM_X8_234 : Cond.methodLink RX8 234 yX4_firstOpened ∈ lw_g := lw_gm (i := 713) (by decide +kernel) (by decide +kernel)
theorem qI_X4_firstOpened : Cond.instanceMethod yX4_firstOpened ∈ lw_g := lw_gm (i := 714) (by decide +kernel) (by decide +kernel)
theorem qS_X4_firstOpened : Cond.selects RX4 yX4_firstOpened yX4_firstOpened ∈ lw_g := lw_gm (i := 715) (by decide +kernel) (by decide +kernel)
theorem qC_X4_firstOpened : Cond.code yX4_firstOpened cX4_firstOpened 4 (some .int) ∈ lw_g := lw_gm (i := 716) (by decide +kernel) (by decide +kernel)
theorem qM_X4_56 : Cond.methodLinkNest RX4 56 yX8_bit RX8 ∈ lw_tbl := List.mem_of_getElem? (i := 717) (by decide +kernel)
theorem qM_L_85 : Cond.methodLink RL 85 yX8_insult ∈ lw_g := lw_gm (i := 718) (by decide +kernel) (by decide +kernel)
theorem qI_X8_insult : Cond.instanceMethod yX8_insult ∈ lw_g := lw_gm (i := 719) (by decide +kernel) (by decide +kernel)
theorem qS_X8_insult : Cond.selects RX8 yX8_insult yX8_insult ∈ lw_g := lw_gm (i := 720) (by decide +kernel) (by decide +kernel)
theorem qC_X8_insult : Cond.code yX8_insult cX8_insult 6 (some .int) ∈ lw_g := lw_gm (i := 721) (by decide +kernel) (by decide +kernel)
theorem qM_X8_237 : Cond.methodLink RX8 237 yX4_leastInsult ∈ lw_g := lw_gm (i := 722) (by decide +kernel) (by decide +kernel)
theorem qI_X4_leastInsult : Cond.instanceMethod yX4_leastInsult ∈ lw_g := lw_gm (i := 723) (by decide +kernel) (by decide +kernel)
theorem qS_X4_leastInsult : Cond.selects RX4 yX4_leastInsult yX4_leastInsult ∈ lw_g := lw_gm (i := 724) (by decide +kernel) (by decide +kernel)
theorem qC_X4_leastInsult : Cond.code yX4_leastInsult cX4_leastInsult 5 (some .int) ∈ lw_g := lw_gm (i := 725) (by decide +kernel) (by decide +kernel)
theorem qM_X4_59 : Cond.methodLink RX4 59 yX1_setHate ∈ lw_g := lw_gm (i := 726) (by decide +kernel) (by decide +kernel)
theorem qM_X4_63 : Cond.methodLinkNest RX4 63 yX8_twoName RX8 ∈ lw_tbl := List.mem_of_getElem? (i := 727) (by decide +kernel)
theorem qM_L_161 : Cond.methodLink RL 161 yX8_used ∈ lw_g := lw_gm (i := 728) (by decide +kernel) (by decide +kernel)
theorem qI_X8_used : Cond.instanceMethod yX8_used ∈ lw_g := lw_gm (i := 729) (by decide +kernel) (by decide +kernel)
theorem qS_X8_used : Cond.selects RX8 yX8_used yX8_used ∈ lw_g := lw_gm (i := 730) (by decide +kernel) (by decide +kernel)
theorem qC_X8_used : Cond.code yX8_used cX8_used 5 (some .int) ∈ lw_g := lw_gm (i := 731) (by decide +kernel) (by decide +kernel)
theorem qK_X8_240 : Cond.constant RX8 240 (1000000000) ∈ lw_g := lw_gm (i := 732) (by decide +kernel) (by decide +kernel)
theorem qM_L_169 : Cond.methodLink RL 169 yX8_apart ∈ lw_g := lw_gm (i := 733) (by decide +kernel) (by decide +kernel)
theorem qI_X8_apart : Cond.instanceMethod yX8_apart ∈ lw_g := lw_gm (i := 734) (by decide +kernel) (by decide +kernel)
theorem qS_X8_apart : Cond.selects RX8 yX8_apart yX8_apart ∈ lw_g := lw_gm (i := 735) (by decide +kernel) (by decide +kernel)
theorem qC_X8_apart : Cond.code yX8_apart cX8_apart 3 (some .int) ∈ lw_g := lw_gm (i := 736) (by decide +kernel) (by decide +kernel)
theorem qM_X8_241 : Cond.methodLink RX8 241 yX4_idleWeeks ∈ lw_g := lw_gm (i := 737) (by decide +kernel) (by decide +kernel)
theorem qI_X4_idleWeeks : Cond.instanceMethod yX4_idleWeeks ∈ lw_g := lw_gm (i := 738) (by decide +kernel) (by decide +kernel)
theorem qS_X4_idleWeeks : Cond.selects RX4 yX4_idleWeeks yX4_idleWeeks ∈ lw_g := lw_gm (i := 739) (by decide +kernel) (by decide +kernel)
theorem qC_X4_idleWeeks : Cond.code yX4_idleWeeks cX4_idleWeeks 4 (some .int) ∈ lw_g := lw_gm (i := 740) (by decide +kernel) (by decide +kernel)
theorem qM_L_131 : Cond.methodLink RL 131 yX8_two ∈ lw_g := lw_gm (i := 741) (by decide +kernel) (by decide +kernel)
theorem qI_X8_two : Cond.instanceMethod yX8_two ∈ lw_g := lw_gm (i := 742) (by decide +kernel) (by decide +kernel)
theorem qS_X8_two : Cond.selects RX8 yX8_two yX8_two ∈ lw_g := lw_gm (i := 743) (by decide +kernel) (by decide +kernel)
theorem qC_X8_two : Cond.code yX8_two cX8_two 4 (some .int) ∈ lw_g := lw_gm (i := 744) (by decide +kernel) (by decide +kernel)
theorem qM_X8_244 : Cond.methodLink RX8 244 yX4_settled ∈ lw_g := lw_gm (i := 745) (by decide +kernel) (by decide +kernel)
theorem qI_X4_settled : Cond.instanceMethod yX4_settled ∈ lw_g := lw_gm (i := 746) (by decide +kernel) (by decide +kernel)
theorem qS_X4_settled : Cond.selects RX4 yX4_settled yX4_settled ∈ lw_g := lw_gm (i := 747) (by decide +kernel) (by decide +kernel)
theorem qC_X4_settled : Cond.code yX4_settled cX4_settled 10 (some .int) ∈ lw_g := lw_gm (i := 748) (by decide +kernel) (by decide +kernel)
theorem qM_X4_116 : Cond.methodLink RX4 116 yX4_hateAfter ∈ lw_g := lw_gm (i := 749) (by decide +kernel) (by decide +kernel)
theorem qM_X4_120 : Cond.methodLink RX4 120 yX4_hateMadeUp ∈ lw_g := lw_gm (i := 750) (by decide +kernel) (by decide +kernel)
theorem qI_X4_hateMadeUp : Cond.instanceMethod yX4_hateMadeUp ∈ lw_g := lw_gm (i := 752) (by decide +kernel) (by decide +kernel)
theorem qC_X4_hateMadeUp : Cond.code yX4_hateMadeUp cX4_hateMadeUp 3 (some .int) ∈ lw_g := lw_gm (i := 753) (by decide +kernel) (by decide +kernel)
theorem qM_X4_123 : Cond.methodLink RX4 123 yX4_gain ∈ lw_g := lw_gm (i := 754) (by decide +kernel) (by decide +kernel)
theorem qI_X4_gain : Cond.instanceMethod yX4_gain ∈ lw_g := lw_gm (i := 756) (by decide +kernel) (by decide +kernel)
theorem qC_X4_gain : Cond.code yX4_gain cX4_gain 8 (some .int) ∈ lw_g := lw_gm (i := 757) (by decide +kernel) (by decide +kernel)
theorem qM_X4_126 : Cond.methodLink RX4 126 yX1_wageOf ∈ lw_g := lw_gm (i := 758) (by decide +kernel) (by decide +kernel)
theorem qM_L_89 : Cond.methodLink RL 89 yX8_send ∈ lw_g := lw_gm (i := 759) (by decide +kernel) (by decide +kernel)
theorem qI_X8_send : Cond.instanceMethod yX8_send ∈ lw_g := lw_gm (i := 760) (by decide +kernel) (by decide +kernel)
theorem qS_X8_send : Cond.selects RX8 yX8_send yX8_send ∈ lw_g := lw_gm (i := 761) (by decide +kernel) (by decide +kernel)
theorem qC_X8_send : Cond.code yX8_send cX8_send 3 (some .int) ∈ lw_g := lw_gm (i := 762) (by decide +kernel) (by decide +kernel)
theorem qM_X8_247 : Cond.methodLink RX8 247 yX4_bestSending ∈ lw_g := lw_gm (i := 763) (by decide +kernel) (by decide +kernel)
theorem qI_X4_bestSending : Cond.instanceMethod yX4_bestSending ∈ lw_g := lw_gm (i := 764) (by decide +kernel) (by decide +kernel)
theorem qS_X4_bestSending : Cond.selects RX4 yX4_bestSending yX4_bestSending ∈ lw_g := lw_gm (i := 765) (by decide +kernel) (by decide +kernel)
theorem qC_X4_bestSending : Cond.code yX4_bestSending cX4_bestSending 7 (some .int) ∈ lw_g := lw_gm (i := 766) (by decide +kernel) (by decide +kernel)
theorem qM_X4_66 : Cond.methodLink RX4 66 yX4_openAsAllIs ∈ lw_g := lw_gm (i := 767) (by decide +kernel) (by decide +kernel)
theorem qI_X4_openAsAllIs : Cond.instanceMethod yX4_openAsAllIs ∈ lw_g := lw_gm (i := 769) (by decide +kernel) (by decide +kernel)
theorem qC_X4_openAsAllIs : Cond.code yX4_openAsAllIs cX4_openAsAllIs 2 (some .int) ∈ lw_g := lw_gm (i := 770) (by decide +kernel) (by decide +kernel)
theorem qM_X4_69 : Cond.methodLink RX4 69 yX1_keeperCount ∈ lw_g := lw_gm (i := 771) (by decide +kernel) (by decide +kernel)
theorem qM_X4_72 : Cond.methodLink RX4 72 yX1_townOf ∈ lw_g := lw_gm (i := 772) (by decide +kernel) (by decide +kernel)
theorem qM_X4_75 : Cond.methodLink RX4 75 yX1_move ∈ lw_g := lw_gm (i := 773) (by decide +kernel) (by decide +kernel)
theorem qM_L_165 : Cond.methodLink RL 165 yX8_swap ∈ lw_g := lw_gm (i := 774) (by decide +kernel) (by decide +kernel)
theorem qI_X8_swap : Cond.instanceMethod yX8_swap ∈ lw_g := lw_gm (i := 775) (by decide +kernel) (by decide +kernel)
theorem qS_X8_swap : Cond.selects RX8 yX8_swap yX8_swap ∈ lw_g := lw_gm (i := 776) (by decide +kernel) (by decide +kernel)
theorem qC_X8_swap : Cond.code yX8_swap cX8_swap 3 (some .int) ∈ lw_g := lw_gm (i := 777) (by decide +kernel) (by decide +kernel)
theorem qM_X8_250 : Cond.methodLink RX8 250 yX4_bestSwap ∈ lw_g := lw_gm (i := 778) (by decide +kernel) (by decide +kernel)
theorem qI_X4_bestSwap : Cond.instanceMethod yX4_bestSwap ∈ lw_g := lw_gm (i := 779) (by decide +kernel) (by decide +kernel)
theorem qS_X4_bestSwap : Cond.selects RX4 yX4_bestSwap yX4_bestSwap ∈ lw_g := lw_gm (i := 780) (by decide +kernel) (by decide +kernel)
theorem qC_X4_bestSwap : Cond.code yX4_bestSwap cX4_bestSwap 7 (some .int) ∈ lw_g := lw_gm (i := 781) (by decide +kernel) (by decide +kernel)
theorem qM_L_93 : Cond.methodLink RL 93 yX8_places ∈ lw_g := lw_gm (i := 782) (by decide +kernel) (by decide +kernel)
theorem qI_X8_places : Cond.instanceMethod yX8_places ∈ lw_g := lw_gm (i := 783) (by decide +kernel) (by decide +kernel)
theorem qS_X8_places : Cond.selects RX8 yX8_places yX8_places ∈ lw_g := lw_gm (i := 784) (by decide +kernel) (by decide +kernel)
theorem qC_X8_places : Cond.code yX8_places cX8_places 9 (some .int) ∈ lw_g := lw_gm (i := 785) (by decide +kernel) (by decide +kernel)
theorem qM_X8_253 : Cond.methodLink RX8 253 yX4_bestPlaces ∈ lw_g := lw_gm (i := 786) (by decide +kernel) (by decide +kernel)
theorem qI_X4_bestPlaces : Cond.instanceMethod yX4_bestPlaces ∈ lw_g := lw_gm (i := 787) (by decide +kernel) (by decide +kernel)
theorem qS_X4_bestPlaces : Cond.selects RX4 yX4_bestPlaces yX4_bestPlaces ∈ lw_g := lw_gm (i := 788) (by decide +kernel) (by decide +kernel)
theorem qC_X4_bestPlaces : Cond.code yX4_bestPlaces cX4_bestPlaces 10 (some .int) ∈ lw_g := lw_gm (i := 789) (by decide +kernel) (by decide +kernel)
theorem qM_X4_79 : Cond.methodLink RX4 79 yX4_openPlaced ∈ lw_g := lw_gm (i := 790) (by decide +kernel) (by decide +kernel)
theorem qI_X4_openPlaced : Cond.instanceMethod yX4_openPlaced ∈ lw_g := lw_gm (i := 791) (by decide +kernel) (by decide +kernel)
theorem qS_X4_openPlaced : Cond.selects RX4 yX4_openPlaced yX4_openPlaced ∈ lw_g := lw_gm (i := 792) (by decide +kernel) (by decide +kernel)
theorem qC_X4_openPlaced : Cond.code yX4_openPlaced cX4_openPlaced 6 (some .int) ∈ lw_g := lw_gm (i := 793) (by decide +kernel) (by decide +kernel)
theorem qM_X8_257 : Cond.methodLink RX8 257 yX4_openPlaced ∈ lw_g := lw_gm (i := 794) (by decide +kernel) (by decide +kernel)
theorem qM_L_98 : Cond.methodLink RL 98 yX8_fewest ∈ lw_g := lw_gm (i := 795) (by decide +kernel) (by decide +kernel)
theorem qI_X8_fewest : Cond.instanceMethod yX8_fewest ∈ lw_g := lw_gm (i := 796) (by decide +kernel) (by decide +kernel)
theorem qS_X8_fewest : Cond.selects RX8 yX8_fewest yX8_fewest ∈ lw_g := lw_gm (i := 797) (by decide +kernel) (by decide +kernel)
theorem qC_X8_fewest : Cond.code yX8_fewest cX8_fewest 5 (some .int) ∈ lw_g := lw_gm (i := 798) (by decide +kernel) (by decide +kernel)
theorem qM_X8_261 : Cond.methodLink RX8 261 yX4_fewestKept ∈ lw_g := lw_gm (i := 799) (by decide +kernel) (by decide +kernel)
theorem qI_X4_fewestKept : Cond.instanceMethod yX4_fewestKept ∈ lw_g := lw_gm (i := 800) (by decide +kernel) (by decide +kernel)
theorem qS_X4_fewestKept : Cond.selects RX4 yX4_fewestKept yX4_fewestKept ∈ lw_g := lw_gm (i := 801) (by decide +kernel) (by decide +kernel)
theorem qC_X4_fewestKept : Cond.code yX4_fewestKept cX4_fewestKept 7 (some .int) ∈ lw_g := lw_gm (i := 802) (by decide +kernel) (by decide +kernel)
theorem qM_X4_83 : Cond.methodLink RX4 83 yJ6_bitCount_0f7a4 ∈ lw_g := lw_gm (i := 803) (by decide +kernel) (by decide +kernel)
theorem qM_X4_88 : Cond.methodLink RX4 88 yX4_openKept ∈ lw_g := lw_gm (i := 804) (by decide +kernel) (by decide +kernel)
theorem qI_X4_openKept : Cond.instanceMethod yX4_openKept ∈ lw_g := lw_gm (i := 806) (by decide +kernel) (by decide +kernel)
theorem qC_X4_openKept : Cond.code yX4_openKept cX4_openKept 4 (some .int) ∈ lw_g := lw_gm (i := 807) (by decide +kernel) (by decide +kernel)
theorem qM_X8_264 : Cond.methodLink RX8 264 yX3_wages ∈ lw_g := lw_gm (i := 808) (by decide +kernel) (by decide +kernel)
theorem qI_X3_wages : Cond.instanceMethod yX3_wages ∈ lw_g := lw_gm (i := 809) (by decide +kernel) (by decide +kernel)
theorem qS_X3_wages : Cond.selects RX3 yX3_wages yX3_wages ∈ lw_g := lw_gm (i := 810) (by decide +kernel) (by decide +kernel)
theorem qC_X3_wages : Cond.code yX3_wages cX3_wages 4 (some .int) ∈ lw_g := lw_gm (i := 811) (by decide +kernel) (by decide +kernel)
theorem qM_X3_19 : Cond.methodLink RX3 19 yX1_keeperCount ∈ lw_g := lw_gm (i := 812) (by decide +kernel) (by decide +kernel)
theorem qM_X3_29 : Cond.methodLinkNest RX3 29 yX8_bit RX8 ∈ lw_tbl := List.mem_of_getElem? (i := 813) (by decide +kernel)
theorem qM_X3_33 : Cond.methodLink RX3 33 yX1_wageOf ∈ lw_g := lw_gm (i := 814) (by decide +kernel) (by decide +kernel)
theorem qM_L_102 : Cond.methodLink RL 102 yX8_pay ∈ lw_g := lw_gm (i := 815) (by decide +kernel) (by decide +kernel)
theorem qI_X8_pay : Cond.instanceMethod yX8_pay ∈ lw_g := lw_gm (i := 816) (by decide +kernel) (by decide +kernel)
theorem qS_X8_pay : Cond.selects RX8 yX8_pay yX8_pay ∈ lw_g := lw_gm (i := 817) (by decide +kernel) (by decide +kernel)
theorem qC_X8_pay : Cond.code yX8_pay cX8_pay 4 (some .int) ∈ lw_g := lw_gm (i := 818) (by decide +kernel) (by decide +kernel)
theorem qM_X8_267 : Cond.methodLink RX8 267 yX3_keepersIn ∈ lw_g := lw_gm (i := 819) (by decide +kernel) (by decide +kernel)
theorem qI_X3_keepersIn : Cond.instanceMethod yX3_keepersIn ∈ lw_g := lw_gm (i := 820) (by decide +kernel) (by decide +kernel)
theorem qS_X3_keepersIn : Cond.selects RX3 yX3_keepersIn yX3_keepersIn ∈ lw_g := lw_gm (i := 821) (by decide +kernel) (by decide +kernel)
theorem qC_X3_keepersIn : Cond.code yX3_keepersIn cX3_keepersIn 4 (some .int) ∈ lw_g := lw_gm (i := 822) (by decide +kernel) (by decide +kernel)
theorem qM_X3_25 : Cond.methodLink RX3 25 yX1_townOf ∈ lw_g := lw_gm (i := 823) (by decide +kernel) (by decide +kernel)
theorem qM_L_118 : Cond.methodLink RL 118 yX8_whoHates ∈ lw_g := lw_gm (i := 824) (by decide +kernel) (by decide +kernel)
theorem qI_X8_whoHates : Cond.instanceMethod yX8_whoHates ∈ lw_g := lw_gm (i := 825) (by decide +kernel) (by decide +kernel)
theorem qS_X8_whoHates : Cond.selects RX8 yX8_whoHates yX8_whoHates ∈ lw_g := lw_gm (i := 826) (by decide +kernel) (by decide +kernel)
theorem qC_X8_whoHates : Cond.code yX8_whoHates cX8_whoHates 5 (some .int) ∈ lw_g := lw_gm (i := 827) (by decide +kernel) (by decide +kernel)
theorem qM_X8_270 : Cond.methodLink RX8 270 yX4_fittingHate ∈ lw_g := lw_gm (i := 828) (by decide +kernel) (by decide +kernel)
theorem qI_X4_fittingHate : Cond.instanceMethod yX4_fittingHate ∈ lw_g := lw_gm (i := 829) (by decide +kernel) (by decide +kernel)
theorem qS_X4_fittingHate : Cond.selects RX4 yX4_fittingHate yX4_fittingHate ∈ lw_g := lw_gm (i := 830) (by decide +kernel) (by decide +kernel)
theorem qC_X4_fittingHate : Cond.code yX4_fittingHate cX4_fittingHate 9 (some .int) ∈ lw_g := lw_gm (i := 831) (by decide +kernel) (by decide +kernel)
theorem qM_X4_91 : Cond.methodLink RX4 91 yX4_opensAsTold ∈ lw_g := lw_gm (i := 832) (by decide +kernel) (by decide +kernel)
theorem qI_X4_opensAsTold : Cond.instanceMethod yX4_opensAsTold ∈ lw_g := lw_gm (i := 834) (by decide +kernel) (by decide +kernel)
theorem qC_X4_opensAsTold : Cond.code yX4_opensAsTold cX4_opensAsTold 3 (some .boolean) ∈ lw_g := lw_gm (i := 835) (by decide +kernel) (by decide +kernel)
theorem qM_X4_95 : Cond.methodLink RX4 95 yX6_size ∈ lw_g := lw_gm (i := 836) (by decide +kernel) (by decide +kernel)
theorem qM_X4_100 : Cond.methodLink RX4 100 yX1_openCount ∈ lw_g := lw_gm (i := 837) (by decide +kernel) (by decide +kernel)
theorem qM_X4_103 : Cond.methodLink RX4 103 yX6_number ∈ lw_g := lw_gm (i := 838) (by decide +kernel) (by decide +kernel)
theorem qM_L_122 : Cond.methodLink RL 122 yX8_whatKind ∈ lw_g := lw_gm (i := 839) (by decide +kernel) (by decide +kernel)
theorem qI_X8_whatKind : Cond.instanceMethod yX8_whatKind ∈ lw_g := lw_gm (i := 840) (by decide +kernel) (by decide +kernel)
theorem qS_X8_whatKind : Cond.selects RX8 yX8_whatKind yX8_whatKind ∈ lw_g := lw_gm (i := 841) (by decide +kernel) (by decide +kernel)
theorem qC_X8_whatKind : Cond.code yX8_whatKind cX8_whatKind 5 (some .int) ∈ lw_g := lw_gm (i := 842) (by decide +kernel) (by decide +kernel)
theorem qM_X8_274 : Cond.methodLink RX8 274 yX4_fittingKinds ∈ lw_g := lw_gm (i := 843) (by decide +kernel) (by decide +kernel)
theorem qI_X4_fittingKinds : Cond.instanceMethod yX4_fittingKinds ∈ lw_g := lw_gm (i := 844) (by decide +kernel) (by decide +kernel)
theorem qS_X4_fittingKinds : Cond.selects RX4 yX4_fittingKinds yX4_fittingKinds ∈ lw_g := lw_gm (i := 845) (by decide +kernel) (by decide +kernel)
theorem qC_X4_fittingKinds : Cond.code yX4_fittingKinds cX4_fittingKinds 6 (some .int) ∈ lw_g := lw_gm (i := 846) (by decide +kernel) (by decide +kernel)
theorem qM_X4_106 : Cond.methodLink RX4 106 yX1_setKind ∈ lw_g := lw_gm (i := 847) (by decide +kernel) (by decide +kernel)
theorem qI_X1_setKind : Cond.instanceMethod yX1_setKind ∈ lw_g := lw_gm (i := 848) (by decide +kernel) (by decide +kernel)
theorem qS_X1_setKind : Cond.selects RX1 yX1_setKind yX1_setKind ∈ lw_g := lw_gm (i := 849) (by decide +kernel) (by decide +kernel)
theorem qC_X1_setKind : Cond.code yX1_setKind cX1_setKind 3 none ∈ lw_g := lw_gm (i := 850) (by decide +kernel) (by decide +kernel)
theorem qM_X4_109 : Cond.methodLink RX4 109 yX4_hatesAsTold ∈ lw_g := lw_gm (i := 851) (by decide +kernel) (by decide +kernel)
theorem qI_X4_hatesAsTold : Cond.instanceMethod yX4_hatesAsTold ∈ lw_g := lw_gm (i := 853) (by decide +kernel) (by decide +kernel)
theorem qC_X4_hatesAsTold : Cond.code yX4_hatesAsTold cX4_hatesAsTold 5 (some .boolean) ∈ lw_g := lw_gm (i := 854) (by decide +kernel) (by decide +kernel)
theorem qM_X8_278 : Cond.methodLink RX8 278 yX4_fittingFigures ∈ lw_g := lw_gm (i := 855) (by decide +kernel) (by decide +kernel)
theorem qI_X4_fittingFigures : Cond.instanceMethod yX4_fittingFigures ∈ lw_g := lw_gm (i := 856) (by decide +kernel) (by decide +kernel)
theorem qS_X4_fittingFigures : Cond.selects RX4 yX4_fittingFigures yX4_fittingFigures ∈ lw_g := lw_gm (i := 857) (by decide +kernel) (by decide +kernel)
theorem qC_X4_fittingFigures : Cond.code yX4_fittingFigures cX4_fittingFigures 6 (some .int) ∈ lw_g := lw_gm (i := 858) (by decide +kernel) (by decide +kernel)
theorem qM_X4_113 : Cond.methodLink RX4 113 yX1_setFigure ∈ lw_g := lw_gm (i := 859) (by decide +kernel) (by decide +kernel)
theorem qI_X1_setFigure : Cond.instanceMethod yX1_setFigure ∈ lw_g := lw_gm (i := 860) (by decide +kernel) (by decide +kernel)
theorem qS_X1_setFigure : Cond.selects RX1 yX1_setFigure yX1_setFigure ∈ lw_g := lw_gm (i := 861) (by decide +kernel) (by decide +kernel)
theorem qC_X1_setFigure : Cond.code yX1_setFigure cX1_setFigure 3 none ∈ lw_g := lw_gm (i := 862) (by decide +kernel) (by decide +kernel)
theorem qM_L_126 : Cond.methodLink RL 126 yX8_jug ∈ lw_g := lw_gm (i := 863) (by decide +kernel) (by decide +kernel)
theorem qI_X8_jug : Cond.instanceMethod yX8_jug ∈ lw_g := lw_gm (i := 864) (by decide +kernel) (by decide +kernel)
theorem qS_X8_jug : Cond.selects RX8 yX8_jug yX8_jug ∈ lw_g := lw_gm (i := 865) (by decide +kernel) (by decide +kernel)
theorem qC_X8_jug : Cond.code yX8_jug cX8_jug 8 (some .long) ∈ lw_g := lw_gm (i := 866) (by decide +kernel) (by decide +kernel)
theorem qK_X8_281 : Cond.constantLong RX8 281 (4000000000000000000) ∈ lw_g := lw_gm (i := 867) (by decide +kernel) (by decide +kernel)
theorem qM_X8_283 : Cond.methodLink RX8 283 yX0_ways ∈ lw_g := lw_gm (i := 868) (by decide +kernel) (by decide +kernel)
theorem qT_X0_ways : Cond.static yX0_ways ∈ lw_g := lw_gm (i := 869) (by decide +kernel) (by decide +kernel)
theorem qC_X0_ways : Cond.code yX0_ways cX0_ways 6 (some .long) ∈ lw_g := lw_gm (i := 870) (by decide +kernel) (by decide +kernel)
theorem qM_X0_7 : Cond.methodLink RX0 7 yJ6_bitCount_0f7a4 ∈ lw_g := lw_gm (i := 871) (by decide +kernel) (by decide +kernel)
theorem qM_X0_13 : Cond.methodLink RX0 13 yX0_power ∈ lw_g := lw_gm (i := 872) (by decide +kernel) (by decide +kernel)
theorem qT_X0_power : Cond.static yX0_power ∈ lw_g := lw_gm (i := 873) (by decide +kernel) (by decide +kernel)
theorem qC_X0_power : Cond.code yX0_power cX0_power 5 (some .long) ∈ lw_g := lw_gm (i := 874) (by decide +kernel) (by decide +kernel)
theorem qM_X8_289 : Cond.methodLink RX8 289 yX0_power ∈ lw_g := lw_gm (i := 875) (by decide +kernel) (by decide +kernel)
theorem qM_X8_293 : Cond.methodLink RX8 293 yX0_part ∈ lw_g := lw_gm (i := 876) (by decide +kernel) (by decide +kernel)
theorem qT_X0_part : Cond.static yX0_part ∈ lw_g := lw_gm (i := 877) (by decide +kernel) (by decide +kernel)
theorem qC_X0_part : Cond.code yX0_part cX0_part 9 (some .long) ∈ lw_g := lw_gm (i := 878) (by decide +kernel) (by decide +kernel)
theorem qM_X0_19 : Cond.methodLink RX0 19 yX0_commonDivisor ∈ lw_g := lw_gm (i := 879) (by decide +kernel) (by decide +kernel)
theorem qT_X0_commonDivisor : Cond.static yX0_commonDivisor ∈ lw_g := lw_gm (i := 880) (by decide +kernel) (by decide +kernel)
theorem qC_X0_commonDivisor : Cond.code yX0_commonDivisor cX0_commonDivisor 11 (some .long) ∈ lw_g := lw_gm (i := 881) (by decide +kernel) (by decide +kernel)
theorem qM_L_135 : Cond.methodLink RL 135 yX8_meetings ∈ lw_g := lw_gm (i := 882) (by decide +kernel) (by decide +kernel)
theorem qI_X8_meetings : Cond.instanceMethod yX8_meetings ∈ lw_g := lw_gm (i := 883) (by decide +kernel) (by decide +kernel)
theorem qS_X8_meetings : Cond.selects RX8 yX8_meetings yX8_meetings ∈ lw_g := lw_gm (i := 884) (by decide +kernel) (by decide +kernel)
theorem qC_X8_meetings : Cond.code yX8_meetings cX8_meetings 11 (some .long) ∈ lw_g := lw_gm (i := 885) (by decide +kernel) (by decide +kernel)
theorem qM_X8_297 : Cond.methodLink RX8 297 yX4_meetingWays ∈ lw_g := lw_gm (i := 886) (by decide +kernel) (by decide +kernel)
theorem qI_X4_meetingWays : Cond.instanceMethod yX4_meetingWays ∈ lw_g := lw_gm (i := 887) (by decide +kernel) (by decide +kernel)
theorem qS_X4_meetingWays : Cond.selects RX4 yX4_meetingWays yX4_meetingWays ∈ lw_g := lw_gm (i := 888) (by decide +kernel) (by decide +kernel)
theorem qC_X4_meetingWays : Cond.code yX4_meetingWays cX4_meetingWays 10 (some .long) ∈ lw_g := lw_gm (i := 889) (by decide +kernel) (by decide +kernel)
theorem qM_X4_129 : Cond.methodLink RX4 129 yX0_power ∈ lw_g := lw_gm (i := 890) (by decide +kernel) (by decide +kernel)
theorem qM_L_193 : Cond.methodLink RL 193 yX8_lots ∈ lw_g := lw_gm (i := 891) (by decide +kernel) (by decide +kernel)
theorem qI_X8_lots : Cond.instanceMethod yX8_lots ∈ lw_g := lw_gm (i := 892) (by decide +kernel) (by decide +kernel)
theorem qS_X8_lots : Cond.selects RX8 yX8_lots yX8_lots ∈ lw_g := lw_gm (i := 893) (by decide +kernel) (by decide +kernel)
theorem qC_X8_lots : Cond.code yX8_lots cX8_lots 5 (some .int) ∈ lw_g := lw_gm (i := 894) (by decide +kernel) (by decide +kernel)
theorem qM_X8_301 : Cond.methodLink RX8 301 yX4_byLot ∈ lw_g := lw_gm (i := 895) (by decide +kernel) (by decide +kernel)
theorem qI_X4_byLot : Cond.instanceMethod yX4_byLot ∈ lw_g := lw_gm (i := 896) (by decide +kernel) (by decide +kernel)
theorem qS_X4_byLot : Cond.selects RX4 yX4_byLot yX4_byLot ∈ lw_g := lw_gm (i := 897) (by decide +kernel) (by decide +kernel)
theorem qC_X4_byLot : Cond.code yX4_byLot cX4_byLot 10 (some .int) ∈ lw_g := lw_gm (i := 898) (by decide +kernel) (by decide +kernel)
theorem qK_X4_135 : Cond.constant RX4 135 (1103515245) ∈ lw_g := lw_gm (i := 899) (by decide +kernel) (by decide +kernel)
theorem qK_X4_136 : Cond.constant RX4 136 (2147483647) ∈ lw_g := lw_gm (i := 900) (by decide +kernel) (by decide +kernel)
theorem qK_X4_137 : Cond.constant RX4 137 (65536) ∈ lw_g := lw_gm (i := 901) (by decide +kernel) (by decide +kernel)
theorem qM_L_106 : Cond.methodLink RL 106 yX8_deepest ∈ lw_g := lw_gm (i := 902) (by decide +kernel) (by decide +kernel)
theorem qI_X8_deepest : Cond.instanceMethod yX8_deepest ∈ lw_g := lw_gm (i := 903) (by decide +kernel) (by decide +kernel)
theorem qS_X8_deepest : Cond.selects RX8 yX8_deepest yX8_deepest ∈ lw_g := lw_gm (i := 904) (by decide +kernel) (by decide +kernel)
theorem qC_X8_deepest : Cond.code yX8_deepest cX8_deepest 3 (some .int) ∈ lw_g := lw_gm (i := 905) (by decide +kernel) (by decide +kernel)
theorem qM_X8_304 : Cond.methodLink RX8 304 yX3_mostHateIn ∈ lw_g := lw_gm (i := 906) (by decide +kernel) (by decide +kernel)
theorem qI_X3_mostHateIn : Cond.instanceMethod yX3_mostHateIn ∈ lw_g := lw_gm (i := 907) (by decide +kernel) (by decide +kernel)
theorem qS_X3_mostHateIn : Cond.selects RX3 yX3_mostHateIn yX3_mostHateIn ∈ lw_g := lw_gm (i := 908) (by decide +kernel) (by decide +kernel)
theorem qC_X3_mostHateIn : Cond.code yX3_mostHateIn cX3_mostHateIn 5 (some .int) ∈ lw_g := lw_gm (i := 909) (by decide +kernel) (by decide +kernel)
theorem qM_X3_47 : Cond.methodLink RX3 47 yX1_areBothIn ∈ lw_g := lw_gm (i := 910) (by decide +kernel) (by decide +kernel)
theorem qM_X3_54 : Cond.methodLink RX3 54 Lib.Math.max.name ∈ lw_g := lw_gm (i := 911) (by decide +kernel) (by decide +kernel)
theorem qM_L_177 : Cond.methodLink RL 177 yX8_can ∈ lw_g := lw_gm (i := 912) (by decide +kernel) (by decide +kernel)
theorem qI_X8_can : Cond.instanceMethod yX8_can ∈ lw_g := lw_gm (i := 913) (by decide +kernel) (by decide +kernel)
theorem qS_X8_can : Cond.selects RX8 yX8_can yX8_can ∈ lw_g := lw_gm (i := 914) (by decide +kernel) (by decide +kernel)
theorem qC_X8_can : Cond.code yX8_can cX8_can 3 (some .int) ∈ lw_g := lw_gm (i := 915) (by decide +kernel) (by decide +kernel)
theorem qM_X8_307 : Cond.methodLink RX8 307 yX3_townsThatOpen ∈ lw_g := lw_gm (i := 916) (by decide +kernel) (by decide +kernel)
theorem qI_X3_townsThatOpen : Cond.instanceMethod yX3_townsThatOpen ∈ lw_g := lw_gm (i := 917) (by decide +kernel) (by decide +kernel)
theorem qS_X3_townsThatOpen : Cond.selects RX3 yX3_townsThatOpen yX3_townsThatOpen ∈ lw_g := lw_gm (i := 918) (by decide +kernel) (by decide +kernel)
theorem qC_X3_townsThatOpen : Cond.code yX3_townsThatOpen cX3_townsThatOpen 4 (some .int) ∈ lw_g := lw_gm (i := 919) (by decide +kernel) (by decide +kernel)
theorem qM_X3_59 : Cond.methodLink RX3 59 yX3_mostHateIn ∈ lw_g := lw_gm (i := 920) (by decide +kernel) (by decide +kernel)
theorem qM_L_110 : Cond.methodLink RL 110 yX8_pairs ∈ lw_g := lw_gm (i := 921) (by decide +kernel) (by decide +kernel)
theorem qI_X8_pairs : Cond.instanceMethod yX8_pairs ∈ lw_g := lw_gm (i := 922) (by decide +kernel) (by decide +kernel)
theorem qS_X8_pairs : Cond.selects RX8 yX8_pairs yX8_pairs ∈ lw_g := lw_gm (i := 923) (by decide +kernel) (by decide +kernel)
theorem qC_X8_pairs : Cond.code yX8_pairs cX8_pairs 3 (some .int) ∈ lw_g := lw_gm (i := 924) (by decide +kernel) (by decide +kernel)
theorem qM_X8_310 : Cond.methodLink RX8 310 yX3_mostTwos ∈ lw_g := lw_gm (i := 925) (by decide +kernel) (by decide +kernel)
theorem qI_X3_mostTwos : Cond.instanceMethod yX3_mostTwos ∈ lw_g := lw_gm (i := 926) (by decide +kernel) (by decide +kernel)
theorem qS_X3_mostTwos : Cond.selects RX3 yX3_mostTwos yX3_mostTwos ∈ lw_g := lw_gm (i := 927) (by decide +kernel) (by decide +kernel)
theorem qC_X3_mostTwos : Cond.code yX3_mostTwos cX3_mostTwos 4 (some .int) ∈ lw_g := lw_gm (i := 928) (by decide +kernel) (by decide +kernel)
theorem qM_X3_62 : Cond.methodLink RX3 62 yX3_mostTwosWith ∈ lw_g := lw_gm (i := 929) (by decide +kernel) (by decide +kernel)
theorem qI_X3_mostTwosWith : Cond.instanceMethod yX3_mostTwosWith ∈ lw_g := lw_gm (i := 931) (by decide +kernel) (by decide +kernel)
theorem qC_X3_mostTwosWith : Cond.code yX3_mostTwosWith cX3_mostTwosWith 7 (some .int) ∈ lw_g := lw_gm (i := 932) (by decide +kernel) (by decide +kernel)
theorem qM_X3_70 : Cond.methodLinkNest RX3 70 yX8_at RX8 ∈ lw_tbl := List.mem_of_getElem? (i := 933) (by decide +kernel)
theorem qM_X3_66 : Cond.methodLinkNest RX3 66 yX8_put RX8 ∈ lw_tbl := List.mem_of_getElem? (i := 934) (by decide +kernel)
theorem qM_L_114 : Cond.methodLink RL 114 yX8_worst ∈ lw_g := lw_gm (i := 935) (by decide +kernel) (by decide +kernel)
theorem qI_X8_worst : Cond.instanceMethod yX8_worst ∈ lw_g := lw_gm (i := 936) (by decide +kernel) (by decide +kernel)
theorem qS_X8_worst : Cond.selects RX8 yX8_worst yX8_worst ∈ lw_g := lw_gm (i := 937) (by decide +kernel) (by decide +kernel)
theorem qC_X8_worst : Cond.code yX8_worst cX8_worst 3 (some .int) ∈ lw_g := lw_gm (i := 938) (by decide +kernel) (by decide +kernel)
theorem qM_X8_313 : Cond.methodLink RX8 313 yX3_friends ∈ lw_g := lw_gm (i := 939) (by decide +kernel) (by decide +kernel)
theorem qI_X3_friends : Cond.instanceMethod yX3_friends ∈ lw_g := lw_gm (i := 940) (by decide +kernel) (by decide +kernel)
theorem qS_X3_friends : Cond.selects RX3 yX3_friends yX3_friends ∈ lw_g := lw_gm (i := 941) (by decide +kernel) (by decide +kernel)
theorem qC_X3_friends : Cond.code yX3_friends cX3_friends 4 (some .int) ∈ lw_g := lw_gm (i := 942) (by decide +kernel) (by decide +kernel)
theorem qM_X8_316 : Cond.methodLink RX8 316 yX3_worstTwo ∈ lw_g := lw_gm (i := 943) (by decide +kernel) (by decide +kernel)
theorem qI_X3_worstTwo : Cond.instanceMethod yX3_worstTwo ∈ lw_g := lw_gm (i := 944) (by decide +kernel) (by decide +kernel)
theorem qS_X3_worstTwo : Cond.selects RX3 yX3_worstTwo yX3_worstTwo ∈ lw_g := lw_gm (i := 945) (by decide +kernel) (by decide +kernel)
theorem qC_X3_worstTwo : Cond.code yX3_worstTwo cX3_worstTwo 6 (some .int) ∈ lw_g := lw_gm (i := 946) (by decide +kernel) (by decide +kernel)
theorem qM_X3_74 : Cond.methodLinkNest RX3 74 yX8_twoName RX8 ∈ lw_tbl := List.mem_of_getElem? (i := 947) (by decide +kernel)
theorem qM_L_140 : Cond.methodLink RL 140 yX8_fullest ∈ lw_g := lw_gm (i := 948) (by decide +kernel) (by decide +kernel)
theorem qI_X8_fullest : Cond.instanceMethod yX8_fullest ∈ lw_g := lw_gm (i := 949) (by decide +kernel) (by decide +kernel)
theorem qS_X8_fullest : Cond.selects RX8 yX8_fullest yX8_fullest ∈ lw_g := lw_gm (i := 950) (by decide +kernel) (by decide +kernel)
theorem qC_X8_fullest : Cond.code yX8_fullest cX8_fullest 4 (some .int) ∈ lw_g := lw_gm (i := 951) (by decide +kernel) (by decide +kernel)
theorem qM_X8_320 : Cond.methodLink RX8 320 yX3_townOfMost ∈ lw_g := lw_gm (i := 952) (by decide +kernel) (by decide +kernel)
theorem qI_X3_townOfMost : Cond.instanceMethod yX3_townOfMost ∈ lw_g := lw_gm (i := 953) (by decide +kernel) (by decide +kernel)
theorem qS_X3_townOfMost : Cond.selects RX3 yX3_townOfMost yX3_townOfMost ∈ lw_g := lw_gm (i := 954) (by decide +kernel) (by decide +kernel)
theorem qC_X3_townOfMost : Cond.code yX3_townOfMost cX3_townOfMost 3 (some .int) ∈ lw_g := lw_gm (i := 955) (by decide +kernel) (by decide +kernel)
theorem qM_X3_44 : Cond.methodLink RX3 44 yX3_crowd ∈ lw_g := lw_gm (i := 956) (by decide +kernel) (by decide +kernel)
theorem qI_X3_crowd : Cond.instanceMethod yX3_crowd ∈ lw_g := lw_gm (i := 957) (by decide +kernel) (by decide +kernel)
theorem qS_X3_crowd : Cond.selects RX3 yX3_crowd yX3_crowd ∈ lw_g := lw_gm (i := 958) (by decide +kernel) (by decide +kernel)
theorem qC_X3_crowd : Cond.code yX3_crowd cX3_crowd 2 (some .int) ∈ lw_g := lw_gm (i := 959) (by decide +kernel) (by decide +kernel)
theorem qM_X3_36 : Cond.methodLink RX3 36 yX3_keepersIn ∈ lw_g := lw_gm (i := 960) (by decide +kernel) (by decide +kernel)
theorem qM_X3_39 : Cond.methodLink RX3 39 yJ6_bitCount_0f7a4 ∈ lw_g := lw_gm (i := 961) (by decide +kernel) (by decide +kernel)
theorem qM_X8_323 : Cond.methodLink RX8 323 yX3_crowd ∈ lw_g := lw_gm (i := 962) (by decide +kernel) (by decide +kernel)
theorem qM_L_144 : Cond.methodLink RL 144 yX8_thickest ∈ lw_g := lw_gm (i := 963) (by decide +kernel) (by decide +kernel)
theorem qI_X8_thickest : Cond.instanceMethod yX8_thickest ∈ lw_g := lw_gm (i := 964) (by decide +kernel) (by decide +kernel)
theorem qS_X8_thickest : Cond.selects RX8 yX8_thickest yX8_thickest ∈ lw_g := lw_gm (i := 965) (by decide +kernel) (by decide +kernel)
theorem qC_X8_thickest : Cond.code yX8_thickest cX8_thickest 1 (some .int) ∈ lw_g := lw_gm (i := 966) (by decide +kernel) (by decide +kernel)
theorem qM_X8_326 : Cond.methodLink RX8 326 yX3_deepestSealed ∈ lw_g := lw_gm (i := 967) (by decide +kernel) (by decide +kernel)
theorem qI_X3_deepestSealed : Cond.instanceMethod yX3_deepestSealed ∈ lw_g := lw_gm (i := 968) (by decide +kernel) (by decide +kernel)
theorem qS_X3_deepestSealed : Cond.selects RX3 yX3_deepestSealed yX3_deepestSealed ∈ lw_g := lw_gm (i := 969) (by decide +kernel) (by decide +kernel)
theorem qC_X3_deepestSealed : Cond.code yX3_deepestSealed cX3_deepestSealed 4 (some .int) ∈ lw_g := lw_gm (i := 970) (by decide +kernel) (by decide +kernel)
theorem qM_X3_77 : Cond.methodLink RX3 77 yX1_letterCount ∈ lw_g := lw_gm (i := 971) (by decide +kernel) (by decide +kernel)
theorem qM_X3_80 : Cond.methodLink RX3 80 yX1_depthOf ∈ lw_g := lw_gm (i := 972) (by decide +kernel) (by decide +kernel)
theorem qM_X3_83 : Cond.methodLink RX3 83 yX1_isOpen ∈ lw_g := lw_gm (i := 973) (by decide +kernel) (by decide +kernel)
theorem qM_L_148 : Cond.methodLink RL 148 yX8_mildest ∈ lw_g := lw_gm (i := 974) (by decide +kernel) (by decide +kernel)
theorem qI_X8_mildest : Cond.instanceMethod yX8_mildest ∈ lw_g := lw_gm (i := 975) (by decide +kernel) (by decide +kernel)
theorem qS_X8_mildest : Cond.selects RX8 yX8_mildest yX8_mildest ∈ lw_g := lw_gm (i := 976) (by decide +kernel) (by decide +kernel)
theorem qC_X8_mildest : Cond.code yX8_mildest cX8_mildest 1 (some .int) ∈ lw_g := lw_gm (i := 977) (by decide +kernel) (by decide +kernel)
theorem qM_X8_329 : Cond.methodLink RX8 329 yX3_leastHating ∈ lw_g := lw_gm (i := 978) (by decide +kernel) (by decide +kernel)
theorem qI_X3_leastHating : Cond.instanceMethod yX3_leastHating ∈ lw_g := lw_gm (i := 979) (by decide +kernel) (by decide +kernel)
theorem qS_X3_leastHating : Cond.selects RX3 yX3_leastHating yX3_leastHating ∈ lw_g := lw_gm (i := 980) (by decide +kernel) (by decide +kernel)
theorem qC_X3_leastHating : Cond.code yX3_leastHating cX3_leastHating 3 (some .int) ∈ lw_g := lw_gm (i := 981) (by decide +kernel) (by decide +kernel)
theorem qM_X3_87 : Cond.methodLink RX3 87 yX3_hatesTogether ∈ lw_g := lw_gm (i := 982) (by decide +kernel) (by decide +kernel)
theorem qI_X3_hatesTogether : Cond.instanceMethod yX3_hatesTogether ∈ lw_g := lw_gm (i := 984) (by decide +kernel) (by decide +kernel)
theorem qC_X3_hatesTogether : Cond.code yX3_hatesTogether cX3_hatesTogether 4 (some .int) ∈ lw_g := lw_gm (i := 985) (by decide +kernel) (by decide +kernel)
theorem qM_L_152 : Cond.methodLink RL 152 yX8_bare ∈ lw_g := lw_gm (i := 986) (by decide +kernel) (by decide +kernel)
theorem qI_X8_bare : Cond.instanceMethod yX8_bare ∈ lw_g := lw_gm (i := 987) (by decide +kernel) (by decide +kernel)
theorem qS_X8_bare : Cond.selects RX8 yX8_bare yX8_bare ∈ lw_g := lw_gm (i := 988) (by decide +kernel) (by decide +kernel)
theorem qC_X8_bare : Cond.code yX8_bare cX8_bare 1 (some .int) ∈ lw_g := lw_gm (i := 989) (by decide +kernel) (by decide +kernel)
theorem qM_X8_332 : Cond.methodLink RX8 332 yX3_bareTowns ∈ lw_g := lw_gm (i := 990) (by decide +kernel) (by decide +kernel)
theorem qI_X3_bareTowns : Cond.instanceMethod yX3_bareTowns ∈ lw_g := lw_gm (i := 991) (by decide +kernel) (by decide +kernel)
theorem qS_X3_bareTowns : Cond.selects RX3 yX3_bareTowns yX3_bareTowns ∈ lw_g := lw_gm (i := 992) (by decide +kernel) (by decide +kernel)
theorem qC_X3_bareTowns : Cond.code yX3_bareTowns cX3_bareTowns 3 (some .int) ∈ lw_g := lw_gm (i := 993) (by decide +kernel) (by decide +kernel)
theorem qM_X3_93 : Cond.methodLink RX3 93 yX1_letterTownOf ∈ lw_g := lw_gm (i := 994) (by decide +kernel) (by decide +kernel)
theorem qM_L_173 : Cond.methodLink RL 173 yX8_enemy ∈ lw_g := lw_gm (i := 995) (by decide +kernel) (by decide +kernel)
theorem qI_X8_enemy : Cond.instanceMethod yX8_enemy ∈ lw_g := lw_gm (i := 996) (by decide +kernel) (by decide +kernel)
theorem qS_X8_enemy : Cond.selects RX8 yX8_enemy yX8_enemy ∈ lw_g := lw_gm (i := 997) (by decide +kernel) (by decide +kernel)
theorem qC_X8_enemy : Cond.code yX8_enemy cX8_enemy 3 (some .int) ∈ lw_g := lw_gm (i := 998) (by decide +kernel) (by decide +kernel)
theorem qM_X8_335 : Cond.methodLink RX8 335 yX3_mostHated ∈ lw_g := lw_gm (i := 999) (by decide +kernel) (by decide +kernel)
theorem qI_X3_mostHated : Cond.instanceMethod yX3_mostHated ∈ lw_g := lw_gm (i := 1000) (by decide +kernel) (by decide +kernel)
theorem qS_X3_mostHated : Cond.selects RX3 yX3_mostHated yX3_mostHated ∈ lw_g := lw_gm (i := 1001) (by decide +kernel) (by decide +kernel)
theorem qC_X3_mostHated : Cond.code yX3_mostHated cX3_mostHated 5 (some .int) ∈ lw_g := lw_gm (i := 1002) (by decide +kernel) (by decide +kernel)
theorem qM_L_156 : Cond.methodLink RL 156 yX8_mean ∈ lw_g := lw_gm (i := 1003) (by decide +kernel) (by decide +kernel)
theorem qI_X8_mean : Cond.instanceMethod yX8_mean ∈ lw_g := lw_gm (i := 1004) (by decide +kernel) (by decide +kernel)
theorem qS_X8_mean : Cond.selects RX8 yX8_mean yX8_mean ∈ lw_g := lw_gm (i := 1005) (by decide +kernel) (by decide +kernel)
theorem qC_X8_mean : Cond.code yX8_mean cX8_mean 4 (some .long) ∈ lw_g := lw_gm (i := 1006) (by decide +kernel) (by decide +kernel)
theorem qL_L_10 : Cond.classLink RL 10 RX9 ∈ lw_g := lw_gm (i := 1007) (by decide +kernel) (by decide +kernel)
theorem qB_X9 : Cond.instantiable RX9 31 ∈ lw_g := lw_gm (i := 1008) (by decide +kernel) (by decide +kernel)
theorem qM_L_12 : Cond.methodLink RL 12 yX9_init ∈ lw_g := lw_gm (i := 1009) (by decide +kernel) (by decide +kernel)
theorem qI_X9_init : Cond.instanceMethod yX9_init ∈ lw_g := lw_gm (i := 1010) (by decide +kernel) (by decide +kernel)
theorem qC_X9_init : Cond.code yX9_init cX9_init 1 none ∈ lw_g := lw_gm (i := 1011) (by decide +kernel) (by decide +kernel)
theorem qM_X9_1 : Cond.methodLink RX9 1 objectInit ∈ lw_g := lw_gm (i := 1012) (by decide +kernel) (by decide +kernel)
theorem qF_X9_7 : Cond.fieldLink RX9 7 "OnlyTwoEnemiesModel" "refused" "[I" ∈ lw_g := lw_gm (i := 1013) (by decide +kernel) (by decide +kernel)
theorem qF_X9_13 : Cond.fieldLink RX9 13 "OnlyTwoEnemiesModel" "kind" "[I" ∈ lw_g := lw_gm (i := 1014) (by decide +kernel) (by decide +kernel)
theorem qF_X9_16 : Cond.fieldLink RX9 16 "OnlyTwoEnemiesModel" "figure" "[I" ∈ lw_g := lw_gm (i := 1015) (by decide +kernel) (by decide +kernel)
theorem qF_X9_19 : Cond.fieldLink RX9 19 "OnlyTwoEnemiesModel" "town" "[I" ∈ lw_g := lw_gm (i := 1016) (by decide +kernel) (by decide +kernel)
theorem qF_X9_22 : Cond.fieldLink RX9 22 "OnlyTwoEnemiesModel" "hate" "[I" ∈ lw_g := lw_gm (i := 1017) (by decide +kernel) (by decide +kernel)
theorem qF_X9_25 : Cond.fieldLink RX9 25 "OnlyTwoEnemiesModel" "depth" "[I" ∈ lw_g := lw_gm (i := 1018) (by decide +kernel) (by decide +kernel)
theorem qF_X9_28 : Cond.fieldLink RX9 28 "OnlyTwoEnemiesModel" "lies" "[I" ∈ lw_g := lw_gm (i := 1019) (by decide +kernel) (by decide +kernel)
theorem qF_X9_31 : Cond.fieldLink RX9 31 "OnlyTwoEnemiesModel" "open" "[I" ∈ lw_g := lw_gm (i := 1020) (by decide +kernel) (by decide +kernel)
theorem qF_X9_65 : Cond.fieldLink RX9 65 "OnlyTwoEnemiesModel" "keepers" "I" ∈ lw_g := lw_gm (i := 1021) (by decide +kernel) (by decide +kernel)
theorem qF_X9_58 : Cond.fieldLink RX9 58 "OnlyTwoEnemiesModel" "letters" "I" ∈ lw_g := lw_gm (i := 1022) (by decide +kernel) (by decide +kernel)
theorem qF_X9_115 : Cond.fieldLink RX9 115 "OnlyTwoEnemiesModel" "week" "I" ∈ lw_g := lw_gm (i := 1023) (by decide +kernel) (by decide +kernel)
theorem qF_X9_171 : Cond.fieldLink RX9 171 "OnlyTwoEnemiesModel" "out" "I" ∈ lw_g := lw_gm (i := 1024) (by decide +kernel) (by decide +kernel)
theorem qF_X9_34 : Cond.fieldLink RX9 34 "OnlyTwoEnemiesModel" "tape" "[I" ∈ lw_g := lw_gm (i := 1025) (by decide +kernel) (by decide +kernel)
theorem qF_X9_37 : Cond.fieldLink RX9 37 "OnlyTwoEnemiesModel" "mark" "[I" ∈ lw_g := lw_gm (i := 1026) (by decide +kernel) (by decide +kernel)
theorem qF_X9_40 : Cond.fieldLink RX9 40 "OnlyTwoEnemiesModel" "markAt" "[I" ∈ lw_g := lw_gm (i := 1027) (by decide +kernel) (by decide +kernel)
theorem qF_X9_43 : Cond.fieldLink RX9 43 "OnlyTwoEnemiesModel" "told" "[I" ∈ lw_g := lw_gm (i := 1028) (by decide +kernel) (by decide +kernel)
theorem qF_X9_76 : Cond.fieldLink RX9 76 "OnlyTwoEnemiesModel" "taped" "I" ∈ lw_g := lw_gm (i := 1029) (by decide +kernel) (by decide +kernel)
theorem qF_X9_83 : Cond.fieldLink RX9 83 "OnlyTwoEnemiesModel" "reading" "I" ∈ lw_g := lw_gm (i := 1030) (by decide +kernel) (by decide +kernel)
theorem qF_X9_98 : Cond.fieldLink RX9 98 "OnlyTwoEnemiesModel" "statements" "I" ∈ lw_g := lw_gm (i := 1031) (by decide +kernel) (by decide +kernel)
theorem qF_X9_46 : Cond.fieldLink RX9 46 "OnlyTwoEnemiesModel" "kept" "[I" ∈ lw_g := lw_gm (i := 1032) (by decide +kernel) (by decide +kernel)
theorem qF_X9_168 : Cond.fieldLink RX9 168 "OnlyTwoEnemiesModel" "hasImage" "Z" ∈ lw_g := lw_gm (i := 1033) (by decide +kernel) (by decide +kernel)
theorem qF_X9_154 : Cond.fieldLink RX9 154 "OnlyTwoEnemiesModel" "isKeeping" "Z" ∈ lw_g := lw_gm (i := 1034) (by decide +kernel) (by decide +kernel)
theorem qF_X9_158 : Cond.fieldLink RX9 158 "OnlyTwoEnemiesModel" "cursor" "I" ∈ lw_g := lw_gm (i := 1035) (by decide +kernel) (by decide +kernel)
theorem qF_X9_151 : Cond.fieldLink RX9 151 "OnlyTwoEnemiesModel" "backs" "I" ∈ lw_g := lw_gm (i := 1036) (by decide +kernel) (by decide +kernel)
theorem qF_X9_49 : Cond.fieldLink RX9 49 "OnlyTwoEnemiesModel" "openedBy" "[I" ∈ lw_g := lw_gm (i := 1037) (by decide +kernel) (by decide +kernel)
theorem qF_X9_193 : Cond.fieldLink RX9 193 "OnlyTwoEnemiesModel" "openedNow" "I" ∈ lw_g := lw_gm (i := 1038) (by decide +kernel) (by decide +kernel)
theorem qF_X9_235 : Cond.fieldLink RX9 235 "OnlyTwoEnemiesModel" "byWhom" "I" ∈ lw_g := lw_gm (i := 1039) (by decide +kernel) (by decide +kernel)
theorem qF_X9_52 : Cond.fieldLink RX9 52 "OnlyTwoEnemiesModel" "twosOf" "[I" ∈ lw_g := lw_gm (i := 1040) (by decide +kernel) (by decide +kernel)
theorem qF_X9_55 : Cond.fieldLink RX9 55 "OnlyTwoEnemiesModel" "row" "[I" ∈ lw_g := lw_gm (i := 1041) (by decide +kernel) (by decide +kernel)
theorem qF_X9_268 : Cond.fieldLink RX9 268 "OnlyTwoEnemiesModel" "rowMany" "I" ∈ lw_g := lw_gm (i := 1042) (by decide +kernel) (by decide +kernel)
theorem qF_X9_318 : Cond.fieldLink RX9 318 "OnlyTwoEnemiesModel" "lots" "I" ∈ lw_g := lw_gm (i := 1043) (by decide +kernel) (by decide +kernel)
theorem qM_L_17 : Cond.methodLink RL 17 yX9_feed ∈ lw_g := lw_gm (i := 1107) (by decide +kernel) (by decide +kernel)
theorem qI_X9_feed : Cond.instanceMethod yX9_feed ∈ lw_g := lw_gm (i := 1108) (by decide +kernel) (by decide +kernel)
theorem qS_X9_feed : Cond.selects RX9 yX9_feed yX9_feed ∈ lw_g := lw_gm (i := 1109) (by decide +kernel) (by decide +kernel)
theorem qC_X9_feed : Cond.code yX9_feed cX9_feed 3 (some .int) ∈ lw_g := lw_gm (i := 1110) (by decide +kernel) (by decide +kernel)
theorem qM_X9_72 : Cond.methodLink RX9 72 yX9_bound ∈ lw_g := lw_gm (i := 1111) (by decide +kernel) (by decide +kernel)
theorem qT_X9_bound : Cond.static yX9_bound ∈ lw_g := lw_gm (i := 1112) (by decide +kernel) (by decide +kernel)
theorem qC_X9_bound : Cond.code yX9_bound cX9_bound 3 (some .int) ∈ lw_g := lw_gm (i := 1113) (by decide +kernel) (by decide +kernel)
theorem qM_X9_79 : Cond.methodLink RX9 79 yX9_no ∈ lw_g := lw_gm (i := 1114) (by decide +kernel) (by decide +kernel)
theorem qI_X9_no : Cond.instanceMethod yX9_no ∈ lw_g := lw_gm (i := 1116) (by decide +kernel) (by decide +kernel)
theorem qC_X9_no : Cond.code yX9_no cX9_no 2 (some .int) ∈ lw_g := lw_gm (i := 1117) (by decide +kernel) (by decide +kernel)
theorem qM_L_22 : Cond.methodLink RL 22 yX9_land ∈ lw_g := lw_gm (i := 1118) (by decide +kernel) (by decide +kernel)
theorem qI_X9_land : Cond.instanceMethod yX9_land ∈ lw_g := lw_gm (i := 1119) (by decide +kernel) (by decide +kernel)
theorem qS_X9_land : Cond.selects RX9 yX9_land yX9_land ∈ lw_g := lw_gm (i := 1120) (by decide +kernel) (by decide +kernel)
theorem qC_X9_land : Cond.code yX9_land cX9_land 3 (some .int) ∈ lw_g := lw_gm (i := 1121) (by decide +kernel) (by decide +kernel)
theorem qM_X9_140 : Cond.methodLink RX9 140 yX9_statement ∈ lw_g := lw_gm (i := 1122) (by decide +kernel) (by decide +kernel)
theorem qI_X9_statement : Cond.instanceMethod yX9_statement ∈ lw_g := lw_gm (i := 1124) (by decide +kernel) (by decide +kernel)
theorem qC_X9_statement : Cond.code yX9_statement cX9_statement 2 (some .boolean) ∈ lw_g := lw_gm (i := 1125) (by decide +kernel) (by decide +kernel)
theorem qM_X9_86 : Cond.methodLink RX9 86 yX9_next ∈ lw_g := lw_gm (i := 1126) (by decide +kernel) (by decide +kernel)
theorem qI_X9_next : Cond.instanceMethod yX9_next ∈ lw_g := lw_gm (i := 1128) (by decide +kernel) (by decide +kernel)
theorem qC_X9_next : Cond.code yX9_next cX9_next 1 (some .int) ∈ lw_g := lw_gm (i := 1129) (by decide +kernel) (by decide +kernel)
theorem qM_X9_101 : Cond.methodLink RX9 101 yX9_readsAll ∈ lw_g := lw_gm (i := 1130) (by decide +kernel) (by decide +kernel)
theorem qI_X9_readsAll : Cond.instanceMethod yX9_readsAll ∈ lw_g := lw_gm (i := 1132) (by decide +kernel) (by decide +kernel)
theorem qC_X9_readsAll : Cond.code yX9_readsAll cX9_readsAll 3 (some .boolean) ∈ lw_g := lw_gm (i := 1133) (by decide +kernel) (by decide +kernel)
theorem qM_X9_94 : Cond.methodLink RX9 94 yX9_readsDigits ∈ lw_g := lw_gm (i := 1134) (by decide +kernel) (by decide +kernel)
theorem qI_X9_readsDigits : Cond.instanceMethod yX9_readsDigits ∈ lw_g := lw_gm (i := 1136) (by decide +kernel) (by decide +kernel)
theorem qC_X9_readsDigits : Cond.code yX9_readsDigits cX9_readsDigits 5 (some .boolean) ∈ lw_g := lw_gm (i := 1137) (by decide +kernel) (by decide +kernel)
theorem qM_X9_90 : Cond.methodLink RX9 90 yX9_isIn ∈ lw_g := lw_gm (i := 1138) (by decide +kernel) (by decide +kernel)
theorem qT_X9_isIn : Cond.static yX9_isIn ∈ lw_g := lw_gm (i := 1139) (by decide +kernel) (by decide +kernel)
theorem qC_X9_isIn : Cond.code yX9_isIn cX9_isIn 3 (some .boolean) ∈ lw_g := lw_gm (i := 1140) (by decide +kernel) (by decide +kernel)
theorem qM_X9_144 : Cond.methodLink RX9 144 yX9_passesAll ∈ lw_g := lw_gm (i := 1141) (by decide +kernel) (by decide +kernel)
theorem qI_X9_passesAll : Cond.instanceMethod yX9_passesAll ∈ lw_g := lw_gm (i := 1143) (by decide +kernel) (by decide +kernel)
theorem qC_X9_passesAll : Cond.code yX9_passesAll cX9_passesAll 3 none ∈ lw_g := lw_gm (i := 1144) (by decide +kernel) (by decide +kernel)
theorem qM_X9_161 : Cond.methodLink RX9 161 yX9_passes ∈ lw_g := lw_gm (i := 1145) (by decide +kernel) (by decide +kernel)
theorem qI_X9_passes : Cond.instanceMethod yX9_passes ∈ lw_g := lw_gm (i := 1147) (by decide +kernel) (by decide +kernel)
theorem qC_X9_passes : Cond.code yX9_passes cX9_passes 3 none ∈ lw_g := lw_gm (i := 1148) (by decide +kernel) (by decide +kernel)
theorem qM_X9_165 : Cond.methodLink RX9 165 yX9_passOne ∈ lw_g := lw_gm (i := 1149) (by decide +kernel) (by decide +kernel)
theorem qI_X9_passOne : Cond.instanceMethod yX9_passOne ∈ lw_g := lw_gm (i := 1151) (by decide +kernel) (by decide +kernel)
theorem qC_X9_passOne : Cond.code yX9_passOne cX9_passOne 3 (some .int) ∈ lw_g := lw_gm (i := 1152) (by decide +kernel) (by decide +kernel)
theorem qM_X9_148 : Cond.methodLink RX9 148 yX9_comes ∈ lw_g := lw_gm (i := 1153) (by decide +kernel) (by decide +kernel)
theorem qI_X9_comes : Cond.instanceMethod yX9_comes ∈ lw_g := lw_gm (i := 1155) (by decide +kernel) (by decide +kernel)
theorem qC_X9_comes : Cond.code yX9_comes cX9_comes 3 (some .boolean) ∈ lw_g := lw_gm (i := 1156) (by decide +kernel) (by decide +kernel)
theorem qM_X9_122 : Cond.methodLink RX9 122 yX9_comesKeeper ∈ lw_g := lw_gm (i := 1157) (by decide +kernel) (by decide +kernel)
theorem qI_X9_comesKeeper : Cond.instanceMethod yX9_comesKeeper ∈ lw_g := lw_gm (i := 1159) (by decide +kernel) (by decide +kernel)
theorem qC_X9_comesKeeper : Cond.code yX9_comesKeeper cX9_comesKeeper 4 (some .boolean) ∈ lw_g := lw_gm (i := 1160) (by decide +kernel) (by decide +kernel)
theorem qM_X9_104 : Cond.methodLink RX9 104 yX9_isTown ∈ lw_g := lw_gm (i := 1161) (by decide +kernel) (by decide +kernel)
theorem qT_X9_isTown : Cond.static yX9_isTown ∈ lw_g := lw_gm (i := 1162) (by decide +kernel) (by decide +kernel)
theorem qC_X9_isTown : Cond.code yX9_isTown cX9_isTown 1 (some .boolean) ∈ lw_g := lw_gm (i := 1163) (by decide +kernel) (by decide +kernel)
theorem qM_X9_107 : Cond.methodLink RX9 107 yX9_addsKeeper ∈ lw_g := lw_gm (i := 1164) (by decide +kernel) (by decide +kernel)
theorem qI_X9_addsKeeper : Cond.instanceMethod yX9_addsKeeper ∈ lw_g := lw_gm (i := 1166) (by decide +kernel) (by decide +kernel)
theorem qC_X9_addsKeeper : Cond.code yX9_addsKeeper cX9_addsKeeper 5 none ∈ lw_g := lw_gm (i := 1167) (by decide +kernel) (by decide +kernel)
theorem qM_X9_128 : Cond.methodLink RX9 128 yX9_sets ∈ lw_g := lw_gm (i := 1168) (by decide +kernel) (by decide +kernel)
theorem qI_X9_sets : Cond.instanceMethod yX9_sets ∈ lw_g := lw_gm (i := 1170) (by decide +kernel) (by decide +kernel)
theorem qC_X9_sets : Cond.code yX9_sets cX9_sets 4 none ∈ lw_g := lw_gm (i := 1171) (by decide +kernel) (by decide +kernel)
theorem qM_X9_125 : Cond.methodLink RX9 125 yX9_areTwo ∈ lw_g := lw_gm (i := 1172) (by decide +kernel) (by decide +kernel)
theorem qI_X9_areTwo : Cond.instanceMethod yX9_areTwo ∈ lw_g := lw_gm (i := 1174) (by decide +kernel) (by decide +kernel)
theorem qC_X9_areTwo : Cond.code yX9_areTwo cX9_areTwo 3 (some .boolean) ∈ lw_g := lw_gm (i := 1175) (by decide +kernel) (by decide +kernel)
theorem qM_X9_68 : Cond.methodLink RX9 68 yX9_isKeeper ∈ lw_g := lw_gm (i := 1176) (by decide +kernel) (by decide +kernel)
theorem qI_X9_isKeeper : Cond.instanceMethod yX9_isKeeper ∈ lw_g := lw_gm (i := 1178) (by decide +kernel) (by decide +kernel)
theorem qC_X9_isKeeper : Cond.code yX9_isKeeper cX9_isKeeper 2 (some .boolean) ∈ lw_g := lw_gm (i := 1179) (by decide +kernel) (by decide +kernel)
theorem qM_X9_131 : Cond.methodLink RX9 131 yX9_comesLetter ∈ lw_g := lw_gm (i := 1180) (by decide +kernel) (by decide +kernel)
theorem qI_X9_comesLetter : Cond.instanceMethod yX9_comesLetter ∈ lw_g := lw_gm (i := 1182) (by decide +kernel) (by decide +kernel)
theorem qC_X9_comesLetter : Cond.code yX9_comesLetter cX9_comesLetter 3 (some .boolean) ∈ lw_g := lw_gm (i := 1183) (by decide +kernel) (by decide +kernel)
theorem qM_X9_111 : Cond.methodLink RX9 111 yX9_addsLetter ∈ lw_g := lw_gm (i := 1184) (by decide +kernel) (by decide +kernel)
theorem qI_X9_addsLetter : Cond.instanceMethod yX9_addsLetter ∈ lw_g := lw_gm (i := 1186) (by decide +kernel) (by decide +kernel)
theorem qC_X9_addsLetter : Cond.code yX9_addsLetter cX9_addsLetter 3 none ∈ lw_g := lw_gm (i := 1187) (by decide +kernel) (by decide +kernel)
theorem qM_X9_134 : Cond.methodLink RX9 134 yX9_isLetter ∈ lw_g := lw_gm (i := 1188) (by decide +kernel) (by decide +kernel)
theorem qI_X9_isLetter : Cond.instanceMethod yX9_isLetter ∈ lw_g := lw_gm (i := 1190) (by decide +kernel) (by decide +kernel)
theorem qC_X9_isLetter : Cond.code yX9_isLetter cX9_isLetter 2 (some .boolean) ∈ lw_g := lw_gm (i := 1191) (by decide +kernel) (by decide +kernel)
theorem qM_X9_137 : Cond.methodLink RX9 137 yX9_comesWeeks ∈ lw_g := lw_gm (i := 1192) (by decide +kernel) (by decide +kernel)
theorem qI_X9_comesWeeks : Cond.instanceMethod yX9_comesWeeks ∈ lw_g := lw_gm (i := 1194) (by decide +kernel) (by decide +kernel)
theorem qC_X9_comesWeeks : Cond.code yX9_comesWeeks cX9_comesWeeks 2 (some .boolean) ∈ lw_g := lw_gm (i := 1195) (by decide +kernel) (by decide +kernel)
theorem qM_X9_118 : Cond.methodLink RX9 118 yX9_goesOn ∈ lw_g := lw_gm (i := 1196) (by decide +kernel) (by decide +kernel)
theorem qI_X9_goesOn : Cond.instanceMethod yX9_goesOn ∈ lw_g := lw_gm (i := 1198) (by decide +kernel) (by decide +kernel)
theorem qC_X9_goesOn : Cond.code yX9_goesOn cX9_goesOn 3 none ∈ lw_g := lw_gm (i := 1199) (by decide +kernel) (by decide +kernel)
theorem qM_X9_202 : Cond.methodLink RX9 202 yX9_goesWeek ∈ lw_g := lw_gm (i := 1200) (by decide +kernel) (by decide +kernel)
theorem qI_X9_goesWeek : Cond.instanceMethod yX9_goesWeek ∈ lw_g := lw_gm (i := 1202) (by decide +kernel) (by decide +kernel)
theorem qC_X9_goesWeek : Cond.code yX9_goesWeek cX9_goesWeek 4 none ∈ lw_g := lw_gm (i := 1203) (by decide +kernel) (by decide +kernel)
theorem qM_X9_196 : Cond.methodLink RX9 196 yX9_fadesTwo ∈ lw_g := lw_gm (i := 1204) (by decide +kernel) (by decide +kernel)
theorem qI_X9_fadesTwo : Cond.instanceMethod yX9_fadesTwo ∈ lw_g := lw_gm (i := 1206) (by decide +kernel) (by decide +kernel)
theorem qC_X9_fadesTwo : Cond.code yX9_fadesTwo cX9_fadesTwo 4 none ∈ lw_g := lw_gm (i := 1207) (by decide +kernel) (by decide +kernel)
theorem qM_X9_174 : Cond.methodLink RX9 174 yX9_has ∈ lw_g := lw_gm (i := 1208) (by decide +kernel) (by decide +kernel)
theorem qT_X9_has : Cond.static yX9_has ∈ lw_g := lw_gm (i := 1209) (by decide +kernel) (by decide +kernel)
theorem qC_X9_has : Cond.code yX9_has cX9_has 2 (some .boolean) ∈ lw_g := lw_gm (i := 1210) (by decide +kernel) (by decide +kernel)
theorem qM_X9_180 : Cond.methodLink RX9 180 yX9_hateOf ∈ lw_g := lw_gm (i := 1211) (by decide +kernel) (by decide +kernel)
theorem qI_X9_hateOf : Cond.instanceMethod yX9_hateOf ∈ lw_g := lw_gm (i := 1213) (by decide +kernel) (by decide +kernel)
theorem qC_X9_hateOf : Cond.code yX9_hateOf cX9_hateOf 3 (some .int) ∈ lw_g := lw_gm (i := 1214) (by decide +kernel) (by decide +kernel)
theorem qM_X9_184 : Cond.methodLink RX9 184 yX9_fadesOf ∈ lw_g := lw_gm (i := 1215) (by decide +kernel) (by decide +kernel)
theorem qI_X9_fadesOf : Cond.instanceMethod yX9_fadesOf ∈ lw_g := lw_gm (i := 1217) (by decide +kernel) (by decide +kernel)
theorem qC_X9_fadesOf : Cond.code yX9_fadesOf cX9_fadesOf 2 (some .int) ∈ lw_g := lw_gm (i := 1218) (by decide +kernel) (by decide +kernel)
theorem qM_X9_187 : Cond.methodLink RX9 187 yX9_held ∈ lw_g := lw_gm (i := 1219) (by decide +kernel) (by decide +kernel)
theorem qT_X9_held : Cond.static yX9_held ∈ lw_g := lw_gm (i := 1220) (by decide +kernel) (by decide +kernel)
theorem qC_X9_held : Cond.code yX9_held cX9_held 3 (some .int) ∈ lw_g := lw_gm (i := 1221) (by decide +kernel) (by decide +kernel)
theorem qM_X9_190 : Cond.methodLink RX9 190 yX9_stirsOf ∈ lw_g := lw_gm (i := 1222) (by decide +kernel) (by decide +kernel)
theorem qI_X9_stirsOf : Cond.instanceMethod yX9_stirsOf ∈ lw_g := lw_gm (i := 1224) (by decide +kernel) (by decide +kernel)
theorem qC_X9_stirsOf : Cond.code yX9_stirsOf cX9_stirsOf 2 (some .int) ∈ lw_g := lw_gm (i := 1225) (by decide +kernel) (by decide +kernel)
theorem qM_X9_199 : Cond.methodLink RX9 199 yX9_opensAt ∈ lw_g := lw_gm (i := 1226) (by decide +kernel) (by decide +kernel)
theorem qI_X9_opensAt : Cond.instanceMethod yX9_opensAt ∈ lw_g := lw_gm (i := 1228) (by decide +kernel) (by decide +kernel)
theorem qC_X9_opensAt : Cond.code yX9_opensAt cX9_opensAt 7 (some .int) ∈ lw_g := lw_gm (i := 1229) (by decide +kernel) (by decide +kernel)
theorem qM_X9_177 : Cond.methodLink RX9 177 yX9_areThere ∈ lw_g := lw_gm (i := 1230) (by decide +kernel) (by decide +kernel)
theorem qI_X9_areThere : Cond.instanceMethod yX9_areThere ∈ lw_g := lw_gm (i := 1232) (by decide +kernel) (by decide +kernel)
theorem qC_X9_areThere : Cond.code yX9_areThere cX9_areThere 4 (some .boolean) ∈ lw_g := lw_gm (i := 1233) (by decide +kernel) (by decide +kernel)
theorem qM_L_64 : Cond.methodLink RL 64 yX9_back ∈ lw_g := lw_gm (i := 1234) (by decide +kernel) (by decide +kernel)
theorem qI_X9_back : Cond.instanceMethod yX9_back ∈ lw_g := lw_gm (i := 1235) (by decide +kernel) (by decide +kernel)
theorem qS_X9_back : Cond.selects RX9 yX9_back yX9_back ∈ lw_g := lw_gm (i := 1236) (by decide +kernel) (by decide +kernel)
theorem qC_X9_back : Cond.code yX9_back cX9_back 1 (some .int) ∈ lw_g := lw_gm (i := 1237) (by decide +kernel) (by decide +kernel)
theorem qM_L_200 : Cond.methodLink RL 200 yX9_image ∈ lw_g := lw_gm (i := 1238) (by decide +kernel) (by decide +kernel)
theorem qI_X9_image : Cond.instanceMethod yX9_image ∈ lw_g := lw_gm (i := 1239) (by decide +kernel) (by decide +kernel)
theorem qS_X9_image : Cond.selects RX9 yX9_image yX9_image ∈ lw_g := lw_gm (i := 1240) (by decide +kernel) (by decide +kernel)
theorem qC_X9_image : Cond.code yX9_image cX9_image 1 (some .int) ∈ lw_g := lw_gm (i := 1241) (by decide +kernel) (by decide +kernel)
theorem qM_L_204 : Cond.methodLink RL 204 yX9_restore ∈ lw_g := lw_gm (i := 1242) (by decide +kernel) (by decide +kernel)
theorem qI_X9_restore : Cond.instanceMethod yX9_restore ∈ lw_g := lw_gm (i := 1243) (by decide +kernel) (by decide +kernel)
theorem qS_X9_restore : Cond.selects RX9 yX9_restore yX9_restore ∈ lw_g := lw_gm (i := 1244) (by decide +kernel) (by decide +kernel)
theorem qC_X9_restore : Cond.code yX9_restore cX9_restore 1 (some .int) ∈ lw_g := lw_gm (i := 1245) (by decide +kernel) (by decide +kernel)
theorem qM_L_27 : Cond.methodLink RL 27 yX9_keeperOf ∈ lw_g := lw_gm (i := 1246) (by decide +kernel) (by decide +kernel)
theorem qI_X9_keeperOf : Cond.instanceMethod yX9_keeperOf ∈ lw_g := lw_gm (i := 1247) (by decide +kernel) (by decide +kernel)
theorem qS_X9_keeperOf : Cond.selects RX9 yX9_keeperOf yX9_keeperOf ∈ lw_g := lw_gm (i := 1248) (by decide +kernel) (by decide +kernel)
theorem qC_X9_keeperOf : Cond.code yX9_keeperOf cX9_keeperOf 3 (some .int) ∈ lw_g := lw_gm (i := 1249) (by decide +kernel) (by decide +kernel)
theorem qM_X9_205 : Cond.methodLink RX9 205 yX9_payOf ∈ lw_g := lw_gm (i := 1250) (by decide +kernel) (by decide +kernel)
theorem qI_X9_payOf : Cond.instanceMethod yX9_payOf ∈ lw_g := lw_gm (i := 1252) (by decide +kernel) (by decide +kernel)
theorem qC_X9_payOf : Cond.code yX9_payOf cX9_payOf 2 (some .int) ∈ lw_g := lw_gm (i := 1253) (by decide +kernel) (by decide +kernel)
theorem qM_L_31 : Cond.methodLink RL 31 yX9_letterOf ∈ lw_g := lw_gm (i := 1254) (by decide +kernel) (by decide +kernel)
theorem qI_X9_letterOf : Cond.instanceMethod yX9_letterOf ∈ lw_g := lw_gm (i := 1255) (by decide +kernel) (by decide +kernel)
theorem qS_X9_letterOf : Cond.selects RX9 yX9_letterOf yX9_letterOf ∈ lw_g := lw_gm (i := 1256) (by decide +kernel) (by decide +kernel)
theorem qC_X9_letterOf : Cond.code yX9_letterOf cX9_letterOf 3 (some .int) ∈ lw_g := lw_gm (i := 1257) (by decide +kernel) (by decide +kernel)
theorem qM_L_35 : Cond.methodLink RL 35 yX9_hate ∈ lw_g := lw_gm (i := 1258) (by decide +kernel) (by decide +kernel)
theorem qI_X9_hate : Cond.instanceMethod yX9_hate ∈ lw_g := lw_gm (i := 1259) (by decide +kernel) (by decide +kernel)
theorem qS_X9_hate : Cond.selects RX9 yX9_hate yX9_hate ∈ lw_g := lw_gm (i := 1260) (by decide +kernel) (by decide +kernel)
theorem qC_X9_hate : Cond.code yX9_hate cX9_hate 3 (some .int) ∈ lw_g := lw_gm (i := 1261) (by decide +kernel) (by decide +kernel)
theorem qM_L_40 : Cond.methodLink RL 40 yX9_keeper ∈ lw_g := lw_gm (i := 1262) (by decide +kernel) (by decide +kernel)
theorem qI_X9_keeper : Cond.instanceMethod yX9_keeper ∈ lw_g := lw_gm (i := 1263) (by decide +kernel) (by decide +kernel)
theorem qS_X9_keeper : Cond.selects RX9 yX9_keeper yX9_keeper ∈ lw_g := lw_gm (i := 1264) (by decide +kernel) (by decide +kernel)
theorem qC_X9_keeper : Cond.code yX9_keeper cX9_keeper 5 (some .int) ∈ lw_g := lw_gm (i := 1265) (by decide +kernel) (by decide +kernel)
theorem qM_L_44 : Cond.methodLink RL 44 yX9_letter ∈ lw_g := lw_gm (i := 1266) (by decide +kernel) (by decide +kernel)
theorem qI_X9_letter : Cond.instanceMethod yX9_letter ∈ lw_g := lw_gm (i := 1267) (by decide +kernel) (by decide +kernel)
theorem qS_X9_letter : Cond.selects RX9 yX9_letter yX9_letter ∈ lw_g := lw_gm (i := 1268) (by decide +kernel) (by decide +kernel)
theorem qC_X9_letter : Cond.code yX9_letter cX9_letter 4 (some .int) ∈ lw_g := lw_gm (i := 1269) (by decide +kernel) (by decide +kernel)
theorem qM_L_48 : Cond.methodLink RL 48 yX9_hates ∈ lw_g := lw_gm (i := 1270) (by decide +kernel) (by decide +kernel)
theorem qI_X9_hates : Cond.instanceMethod yX9_hates ∈ lw_g := lw_gm (i := 1271) (by decide +kernel) (by decide +kernel)
theorem qS_X9_hates : Cond.selects RX9 yX9_hates yX9_hates ∈ lw_g := lw_gm (i := 1272) (by decide +kernel) (by decide +kernel)
theorem qC_X9_hates : Cond.code yX9_hates cX9_hates 6 (some .int) ∈ lw_g := lw_gm (i := 1273) (by decide +kernel) (by decide +kernel)
theorem qM_X9_208 : Cond.methodLink RX9 208 yX9_keepsBack ∈ lw_g := lw_gm (i := 1274) (by decide +kernel) (by decide +kernel)
theorem qI_X9_keepsBack : Cond.instanceMethod yX9_keepsBack ∈ lw_g := lw_gm (i := 1276) (by decide +kernel) (by decide +kernel)
theorem qC_X9_keepsBack : Cond.code yX9_keepsBack cX9_keepsBack 2 none ∈ lw_g := lw_gm (i := 1277) (by decide +kernel) (by decide +kernel)
theorem qM_L_52 : Cond.methodLink RL 52 yX9_goes ∈ lw_g := lw_gm (i := 1278) (by decide +kernel) (by decide +kernel)
theorem qI_X9_goes : Cond.instanceMethod yX9_goes ∈ lw_g := lw_gm (i := 1279) (by decide +kernel) (by decide +kernel)
theorem qS_X9_goes : Cond.selects RX9 yX9_goes yX9_goes ∈ lw_g := lw_gm (i := 1280) (by decide +kernel) (by decide +kernel)
theorem qC_X9_goes : Cond.code yX9_goes cX9_goes 4 (some .int) ∈ lw_g := lw_gm (i := 1281) (by decide +kernel) (by decide +kernel)
theorem qM_L_56 : Cond.methodLink RL 56 yX9_seals ∈ lw_g := lw_gm (i := 1282) (by decide +kernel) (by decide +kernel)
theorem qI_X9_seals : Cond.instanceMethod yX9_seals ∈ lw_g := lw_gm (i := 1283) (by decide +kernel) (by decide +kernel)
theorem qS_X9_seals : Cond.selects RX9 yX9_seals yX9_seals ∈ lw_g := lw_gm (i := 1284) (by decide +kernel) (by decide +kernel)
theorem qC_X9_seals : Cond.code yX9_seals cX9_seals 2 (some .int) ∈ lw_g := lw_gm (i := 1285) (by decide +kernel) (by decide +kernel)
theorem qM_L_60 : Cond.methodLink RL 60 yX9_weeks ∈ lw_g := lw_gm (i := 1286) (by decide +kernel) (by decide +kernel)
theorem qI_X9_weeks : Cond.instanceMethod yX9_weeks ∈ lw_g := lw_gm (i := 1287) (by decide +kernel) (by decide +kernel)
theorem qS_X9_weeks : Cond.selects RX9 yX9_weeks yX9_weeks ∈ lw_g := lw_gm (i := 1288) (by decide +kernel) (by decide +kernel)
theorem qC_X9_weeks : Cond.code yX9_weeks cX9_weeks 3 (some .int) ∈ lw_g := lw_gm (i := 1289) (by decide +kernel) (by decide +kernel)
theorem qM_X9_211 : Cond.methodLink RX9 211 yX9_openOnes ∈ lw_g := lw_gm (i := 1290) (by decide +kernel) (by decide +kernel)
theorem qI_X9_openOnes : Cond.instanceMethod yX9_openOnes ∈ lw_g := lw_gm (i := 1292) (by decide +kernel) (by decide +kernel)
theorem qC_X9_openOnes : Cond.code yX9_openOnes cX9_openOnes 3 (some .int) ∈ lw_g := lw_gm (i := 1293) (by decide +kernel) (by decide +kernel)
theorem qM_X9_214 : Cond.methodLink RX9 214 yX9_bits ∈ lw_g := lw_gm (i := 1294) (by decide +kernel) (by decide +kernel)
theorem qT_X9_bits : Cond.static yX9_bits ∈ lw_g := lw_gm (i := 1295) (by decide +kernel) (by decide +kernel)
theorem qC_X9_bits : Cond.code yX9_bits cX9_bits 3 (some .int) ∈ lw_g := lw_gm (i := 1296) (by decide +kernel) (by decide +kernel)
theorem qM_L_68 : Cond.methodLink RL 68 yX9_behind ∈ lw_g := lw_gm (i := 1297) (by decide +kernel) (by decide +kernel)
theorem qI_X9_behind : Cond.instanceMethod yX9_behind ∈ lw_g := lw_gm (i := 1298) (by decide +kernel) (by decide +kernel)
theorem qS_X9_behind : Cond.selects RX9 yX9_behind yX9_behind ∈ lw_g := lw_gm (i := 1299) (by decide +kernel) (by decide +kernel)
theorem qC_X9_behind : Cond.code yX9_behind cX9_behind 5 (some .int) ∈ lw_g := lw_gm (i := 1300) (by decide +kernel) (by decide +kernel)
theorem qM_X9_223 : Cond.methodLink RX9 223 yX9_notWeeks ∈ lw_g := lw_gm (i := 1301) (by decide +kernel) (by decide +kernel)
theorem qT_X9_notWeeks : Cond.static yX9_notWeeks ∈ lw_g := lw_gm (i := 1302) (by decide +kernel) (by decide +kernel)
theorem qC_X9_notWeeks : Cond.code yX9_notWeeks cX9_notWeeks 1 (some .int) ∈ lw_g := lw_gm (i := 1303) (by decide +kernel) (by decide +kernel)
theorem qM_X9_226 : Cond.methodLink RX9 226 yX9_hateIn ∈ lw_g := lw_gm (i := 1304) (by decide +kernel) (by decide +kernel)
theorem qI_X9_hateIn : Cond.instanceMethod yX9_hateIn ∈ lw_g := lw_gm (i := 1306) (by decide +kernel) (by decide +kernel)
theorem qC_X9_hateIn : Cond.code yX9_hateIn cX9_hateIn 5 (some .int) ∈ lw_g := lw_gm (i := 1307) (by decide +kernel) (by decide +kernel)
theorem qM_X9_217 : Cond.methodLink RX9 217 yX9_thinks ∈ lw_g := lw_gm (i := 1308) (by decide +kernel) (by decide +kernel)
theorem qI_X9_thinks : Cond.instanceMethod yX9_thinks ∈ lw_g := lw_gm (i := 1310) (by decide +kernel) (by decide +kernel)
theorem qC_X9_thinks : Cond.code yX9_thinks cX9_thinks 1 none ∈ lw_g := lw_gm (i := 1311) (by decide +kernel) (by decide +kernel)
theorem qM_X9_220 : Cond.methodLink RX9 220 yX9_forgets ∈ lw_g := lw_gm (i := 1312) (by decide +kernel) (by decide +kernel)
theorem qI_X9_forgets : Cond.instanceMethod yX9_forgets ∈ lw_g := lw_gm (i := 1314) (by decide +kernel) (by decide +kernel)
theorem qC_X9_forgets : Cond.code yX9_forgets cX9_forgets 1 none ∈ lw_g := lw_gm (i := 1315) (by decide +kernel) (by decide +kernel)
theorem qM_L_72 : Cond.methodLink RL 72 yX9_then ∈ lw_g := lw_gm (i := 1316) (by decide +kernel) (by decide +kernel)
theorem qI_X9_then : Cond.instanceMethod yX9_then ∈ lw_g := lw_gm (i := 1317) (by decide +kernel) (by decide +kernel)
theorem qS_X9_then : Cond.selects RX9 yX9_then yX9_then ∈ lw_g := lw_gm (i := 1318) (by decide +kernel) (by decide +kernel)
theorem qC_X9_then : Cond.code yX9_then cX9_then 5 (some .int) ∈ lw_g := lw_gm (i := 1319) (by decide +kernel) (by decide +kernel)
theorem qM_X9_229 : Cond.methodLink RX9 229 yX9_openIn ∈ lw_g := lw_gm (i := 1320) (by decide +kernel) (by decide +kernel)
theorem qI_X9_openIn : Cond.instanceMethod yX9_openIn ∈ lw_g := lw_gm (i := 1322) (by decide +kernel) (by decide +kernel)
theorem qC_X9_openIn : Cond.code yX9_openIn cX9_openIn 3 (some .int) ∈ lw_g := lw_gm (i := 1323) (by decide +kernel) (by decide +kernel)
theorem qM_X9_232 : Cond.methodLink RX9 232 yX9_allHate ∈ lw_g := lw_gm (i := 1324) (by decide +kernel) (by decide +kernel)
theorem qI_X9_allHate : Cond.instanceMethod yX9_allHate ∈ lw_g := lw_gm (i := 1326) (by decide +kernel) (by decide +kernel)
theorem qC_X9_allHate : Cond.code yX9_allHate cX9_allHate 4 (some .int) ∈ lw_g := lw_gm (i := 1327) (by decide +kernel) (by decide +kernel)
theorem qM_L_76 : Cond.methodLink RL 76 yX9_when ∈ lw_g := lw_gm (i := 1328) (by decide +kernel) (by decide +kernel)
theorem qI_X9_when : Cond.instanceMethod yX9_when ∈ lw_g := lw_gm (i := 1329) (by decide +kernel) (by decide +kernel)
theorem qS_X9_when : Cond.selects RX9 yX9_when yX9_when ∈ lw_g := lw_gm (i := 1330) (by decide +kernel) (by decide +kernel)
theorem qC_X9_when : Cond.code yX9_when cX9_when 5 (some .int) ∈ lw_g := lw_gm (i := 1331) (by decide +kernel) (by decide +kernel)
theorem qM_X9_238 : Cond.methodLink RX9 238 yX9_whenOf ∈ lw_g := lw_gm (i := 1332) (by decide +kernel) (by decide +kernel)
theorem qI_X9_whenOf : Cond.instanceMethod yX9_whenOf ∈ lw_g := lw_gm (i := 1334) (by decide +kernel) (by decide +kernel)
theorem qC_X9_whenOf : Cond.code yX9_whenOf cX9_whenOf 4 (some .int) ∈ lw_g := lw_gm (i := 1335) (by decide +kernel) (by decide +kernel)
theorem qM_L_80 : Cond.methodLink RL 80 yX9_lasts ∈ lw_g := lw_gm (i := 1336) (by decide +kernel) (by decide +kernel)
theorem qI_X9_lasts : Cond.instanceMethod yX9_lasts ∈ lw_g := lw_gm (i := 1337) (by decide +kernel) (by decide +kernel)
theorem qS_X9_lasts : Cond.selects RX9 yX9_lasts yX9_lasts ∈ lw_g := lw_gm (i := 1338) (by decide +kernel) (by decide +kernel)
theorem qC_X9_lasts : Cond.code yX9_lasts cX9_lasts 7 (some .int) ∈ lw_g := lw_gm (i := 1339) (by decide +kernel) (by decide +kernel)
theorem qM_L_84 : Cond.methodLink RL 84 yX9_never ∈ lw_g := lw_gm (i := 1340) (by decide +kernel) (by decide +kernel)
theorem qI_X9_never : Cond.instanceMethod yX9_never ∈ lw_g := lw_gm (i := 1341) (by decide +kernel) (by decide +kernel)
theorem qS_X9_never : Cond.selects RX9 yX9_never yX9_never ∈ lw_g := lw_gm (i := 1342) (by decide +kernel) (by decide +kernel)
theorem qC_X9_never : Cond.code yX9_never cX9_never 2 (some .int) ∈ lw_g := lw_gm (i := 1343) (by decide +kernel) (by decide +kernel)
theorem qM_X9_241 : Cond.methodLink RX9 241 yX9_firstOne ∈ lw_g := lw_gm (i := 1344) (by decide +kernel) (by decide +kernel)
theorem qI_X9_firstOne : Cond.instanceMethod yX9_firstOne ∈ lw_g := lw_gm (i := 1346) (by decide +kernel) (by decide +kernel)
theorem qC_X9_firstOne : Cond.code yX9_firstOne cX9_firstOne 5 (some .int) ∈ lw_g := lw_gm (i := 1347) (by decide +kernel) (by decide +kernel)
theorem qM_L_88 : Cond.methodLink RL 88 yX9_insult ∈ lw_g := lw_gm (i := 1348) (by decide +kernel) (by decide +kernel)
theorem qI_X9_insult : Cond.instanceMethod yX9_insult ∈ lw_g := lw_gm (i := 1349) (by decide +kernel) (by decide +kernel)
theorem qS_X9_insult : Cond.selects RX9 yX9_insult yX9_insult ∈ lw_g := lw_gm (i := 1350) (by decide +kernel) (by decide +kernel)
theorem qC_X9_insult : Cond.code yX9_insult cX9_insult 8 (some .int) ∈ lw_g := lw_gm (i := 1351) (by decide +kernel) (by decide +kernel)
theorem qM_X9_244 : Cond.methodLink RX9 244 yX9_isOpenedBy ∈ lw_g := lw_gm (i := 1352) (by decide +kernel) (by decide +kernel)
theorem qI_X9_isOpenedBy : Cond.instanceMethod yX9_isOpenedBy ∈ lw_g := lw_gm (i := 1354) (by decide +kernel) (by decide +kernel)
theorem qC_X9_isOpenedBy : Cond.code yX9_isOpenedBy cX9_isOpenedBy 5 (some .boolean) ∈ lw_g := lw_gm (i := 1355) (by decide +kernel) (by decide +kernel)
theorem qM_L_92 : Cond.methodLink RL 92 yX9_send ∈ lw_g := lw_gm (i := 1356) (by decide +kernel) (by decide +kernel)
theorem qI_X9_send : Cond.instanceMethod yX9_send ∈ lw_g := lw_gm (i := 1357) (by decide +kernel) (by decide +kernel)
theorem qS_X9_send : Cond.selects RX9 yX9_send yX9_send ∈ lw_g := lw_gm (i := 1358) (by decide +kernel) (by decide +kernel)
theorem qC_X9_send : Cond.code yX9_send cX9_send 8 (some .int) ∈ lw_g := lw_gm (i := 1359) (by decide +kernel) (by decide +kernel)
theorem qM_X9_247 : Cond.methodLink RX9 247 yX9_manyAt ∈ lw_g := lw_gm (i := 1360) (by decide +kernel) (by decide +kernel)
theorem qI_X9_manyAt : Cond.instanceMethod yX9_manyAt ∈ lw_g := lw_gm (i := 1362) (by decide +kernel) (by decide +kernel)
theorem qC_X9_manyAt : Cond.code yX9_manyAt cX9_manyAt 6 (some .int) ∈ lw_g := lw_gm (i := 1363) (by decide +kernel) (by decide +kernel)
theorem qM_L_97 : Cond.methodLink RL 97 yX9_places ∈ lw_g := lw_gm (i := 1364) (by decide +kernel) (by decide +kernel)
theorem qI_X9_places : Cond.instanceMethod yX9_places ∈ lw_g := lw_gm (i := 1365) (by decide +kernel) (by decide +kernel)
theorem qS_X9_places : Cond.selects RX9 yX9_places yX9_places ∈ lw_g := lw_gm (i := 1366) (by decide +kernel) (by decide +kernel)
theorem qC_X9_places : Cond.code yX9_places cX9_places 11 (some .int) ∈ lw_g := lw_gm (i := 1367) (by decide +kernel) (by decide +kernel)
theorem qM_X9_250 : Cond.methodLink RX9 250 yX9_changes ∈ lw_g := lw_gm (i := 1368) (by decide +kernel) (by decide +kernel)
theorem qI_X9_changes : Cond.instanceMethod yX9_changes ∈ lw_g := lw_gm (i := 1370) (by decide +kernel) (by decide +kernel)
theorem qC_X9_changes : Cond.code yX9_changes cX9_changes 1 none ∈ lw_g := lw_gm (i := 1371) (by decide +kernel) (by decide +kernel)
theorem qM_X9_253 : Cond.methodLink RX9 253 yX9_changesBack ∈ lw_g := lw_gm (i := 1372) (by decide +kernel) (by decide +kernel)
theorem qI_X9_changesBack : Cond.instanceMethod yX9_changesBack ∈ lw_g := lw_gm (i := 1374) (by decide +kernel) (by decide +kernel)
theorem qC_X9_changesBack : Cond.code yX9_changesBack cX9_changesBack 1 none ∈ lw_g := lw_gm (i := 1375) (by decide +kernel) (by decide +kernel)
theorem qM_L_101 : Cond.methodLink RL 101 yX9_fewest ∈ lw_g := lw_gm (i := 1376) (by decide +kernel) (by decide +kernel)
theorem qI_X9_fewest : Cond.instanceMethod yX9_fewest ∈ lw_g := lw_gm (i := 1377) (by decide +kernel) (by decide +kernel)
theorem qS_X9_fewest : Cond.selects RX9 yX9_fewest yX9_fewest ∈ lw_g := lw_gm (i := 1378) (by decide +kernel) (by decide +kernel)
theorem qC_X9_fewest : Cond.code yX9_fewest cX9_fewest 7 (some .int) ∈ lw_g := lw_gm (i := 1379) (by decide +kernel) (by decide +kernel)
theorem qM_X9_256 : Cond.methodLink RX9 256 yX9_manyBy ∈ lw_g := lw_gm (i := 1380) (by decide +kernel) (by decide +kernel)
theorem qI_X9_manyBy : Cond.instanceMethod yX9_manyBy ∈ lw_g := lw_gm (i := 1382) (by decide +kernel) (by decide +kernel)
theorem qC_X9_manyBy : Cond.code yX9_manyBy cX9_manyBy 4 (some .int) ∈ lw_g := lw_gm (i := 1383) (by decide +kernel) (by decide +kernel)
theorem qM_X9_259 : Cond.methodLink RX9 259 yX9_payOfAll ∈ lw_g := lw_gm (i := 1384) (by decide +kernel) (by decide +kernel)
theorem qI_X9_payOfAll : Cond.instanceMethod yX9_payOfAll ∈ lw_g := lw_gm (i := 1386) (by decide +kernel) (by decide +kernel)
theorem qC_X9_payOfAll : Cond.code yX9_payOfAll cX9_payOfAll 4 (some .int) ∈ lw_g := lw_gm (i := 1387) (by decide +kernel) (by decide +kernel)
theorem qM_L_105 : Cond.methodLink RL 105 yX9_pay ∈ lw_g := lw_gm (i := 1388) (by decide +kernel) (by decide +kernel)
theorem qI_X9_pay : Cond.instanceMethod yX9_pay ∈ lw_g := lw_gm (i := 1389) (by decide +kernel) (by decide +kernel)
theorem qS_X9_pay : Cond.selects RX9 yX9_pay yX9_pay ∈ lw_g := lw_gm (i := 1390) (by decide +kernel) (by decide +kernel)
theorem qC_X9_pay : Cond.code yX9_pay cX9_pay 4 (some .int) ∈ lw_g := lw_gm (i := 1391) (by decide +kernel) (by decide +kernel)
theorem qM_X9_262 : Cond.methodLink RX9 262 yX9_keepersIn ∈ lw_g := lw_gm (i := 1392) (by decide +kernel) (by decide +kernel)
theorem qI_X9_keepersIn : Cond.instanceMethod yX9_keepersIn ∈ lw_g := lw_gm (i := 1394) (by decide +kernel) (by decide +kernel)
theorem qC_X9_keepersIn : Cond.code yX9_keepersIn cX9_keepersIn 4 (some .int) ∈ lw_g := lw_gm (i := 1395) (by decide +kernel) (by decide +kernel)
theorem qM_L_109 : Cond.methodLink RL 109 yX9_deepest ∈ lw_g := lw_gm (i := 1396) (by decide +kernel) (by decide +kernel)
theorem qI_X9_deepest : Cond.instanceMethod yX9_deepest ∈ lw_g := lw_gm (i := 1397) (by decide +kernel) (by decide +kernel)
theorem qS_X9_deepest : Cond.selects RX9 yX9_deepest yX9_deepest ∈ lw_g := lw_gm (i := 1398) (by decide +kernel) (by decide +kernel)
theorem qC_X9_deepest : Cond.code yX9_deepest cX9_deepest 5 (some .int) ∈ lw_g := lw_gm (i := 1399) (by decide +kernel) (by decide +kernel)
theorem qM_L_113 : Cond.methodLink RL 113 yX9_pairs ∈ lw_g := lw_gm (i := 1400) (by decide +kernel) (by decide +kernel)
theorem qI_X9_pairs : Cond.instanceMethod yX9_pairs ∈ lw_g := lw_gm (i := 1401) (by decide +kernel) (by decide +kernel)
theorem qS_X9_pairs : Cond.selects RX9 yX9_pairs yX9_pairs ∈ lw_g := lw_gm (i := 1402) (by decide +kernel) (by decide +kernel)
theorem qC_X9_pairs : Cond.code yX9_pairs cX9_pairs 4 (some .int) ∈ lw_g := lw_gm (i := 1403) (by decide +kernel) (by decide +kernel)
theorem qM_X9_265 : Cond.methodLink RX9 265 yX9_findTwos ∈ lw_g := lw_gm (i := 1404) (by decide +kernel) (by decide +kernel)
theorem qI_X9_findTwos : Cond.instanceMethod yX9_findTwos ∈ lw_g := lw_gm (i := 1406) (by decide +kernel) (by decide +kernel)
theorem qC_X9_findTwos : Cond.code yX9_findTwos cX9_findTwos 8 none ∈ lw_g := lw_gm (i := 1407) (by decide +kernel) (by decide +kernel)
theorem qM_L_117 : Cond.methodLink RL 117 yX9_worst ∈ lw_g := lw_gm (i := 1408) (by decide +kernel) (by decide +kernel)
theorem qI_X9_worst : Cond.instanceMethod yX9_worst ∈ lw_g := lw_gm (i := 1409) (by decide +kernel) (by decide +kernel)
theorem qS_X9_worst : Cond.selects RX9 yX9_worst yX9_worst ∈ lw_g := lw_gm (i := 1410) (by decide +kernel) (by decide +kernel)
theorem qC_X9_worst : Cond.code yX9_worst cX9_worst 8 (some .int) ∈ lw_g := lw_gm (i := 1411) (by decide +kernel) (by decide +kernel)
theorem qM_L_121 : Cond.methodLink RL 121 yX9_whoHates ∈ lw_g := lw_gm (i := 1412) (by decide +kernel) (by decide +kernel)
theorem qI_X9_whoHates : Cond.instanceMethod yX9_whoHates ∈ lw_g := lw_gm (i := 1413) (by decide +kernel) (by decide +kernel)
theorem qS_X9_whoHates : Cond.selects RX9 yX9_whoHates yX9_whoHates ∈ lw_g := lw_gm (i := 1414) (by decide +kernel) (by decide +kernel)
theorem qC_X9_whoHates : Cond.code yX9_whoHates cX9_whoHates 10 (some .int) ∈ lw_g := lw_gm (i := 1415) (by decide +kernel) (by decide +kernel)
theorem qM_X9_271 : Cond.methodLink RX9 271 yX9_opensSo ∈ lw_g := lw_gm (i := 1416) (by decide +kernel) (by decide +kernel)
theorem qI_X9_opensSo : Cond.instanceMethod yX9_opensSo ∈ lw_g := lw_gm (i := 1418) (by decide +kernel) (by decide +kernel)
theorem qC_X9_opensSo : Cond.code yX9_opensSo cX9_opensSo 3 (some .boolean) ∈ lw_g := lw_gm (i := 1419) (by decide +kernel) (by decide +kernel)
theorem qM_L_125 : Cond.methodLink RL 125 yX9_whatKind ∈ lw_g := lw_gm (i := 1420) (by decide +kernel) (by decide +kernel)
theorem qI_X9_whatKind : Cond.instanceMethod yX9_whatKind ∈ lw_g := lw_gm (i := 1421) (by decide +kernel) (by decide +kernel)
theorem qS_X9_whatKind : Cond.selects RX9 yX9_whatKind yX9_whatKind ∈ lw_g := lw_gm (i := 1422) (by decide +kernel) (by decide +kernel)
theorem qC_X9_whatKind : Cond.code yX9_whatKind cX9_whatKind 5 (some .int) ∈ lw_g := lw_gm (i := 1423) (by decide +kernel) (by decide +kernel)
theorem qM_X9_277 : Cond.methodLink RX9 277 yX9_bitsFor ∈ lw_g := lw_gm (i := 1424) (by decide +kernel) (by decide +kernel)
theorem qI_X9_bitsFor : Cond.instanceMethod yX9_bitsFor ∈ lw_g := lw_gm (i := 1426) (by decide +kernel) (by decide +kernel)
theorem qC_X9_bitsFor : Cond.code yX9_bitsFor cX9_bitsFor 8 (some .int) ∈ lw_g := lw_gm (i := 1427) (by decide +kernel) (by decide +kernel)
theorem qM_X9_274 : Cond.methodLink RX9 274 yX9_hatesSo ∈ lw_g := lw_gm (i := 1428) (by decide +kernel) (by decide +kernel)
theorem qI_X9_hatesSo : Cond.instanceMethod yX9_hatesSo ∈ lw_g := lw_gm (i := 1430) (by decide +kernel) (by decide +kernel)
theorem qC_X9_hatesSo : Cond.code yX9_hatesSo cX9_hatesSo 5 (some .boolean) ∈ lw_g := lw_gm (i := 1431) (by decide +kernel) (by decide +kernel)
theorem qM_L_130 : Cond.methodLink RL 130 yX9_jug ∈ lw_g := lw_gm (i := 1432) (by decide +kernel) (by decide +kernel)
theorem qI_X9_jug : Cond.instanceMethod yX9_jug ∈ lw_g := lw_gm (i := 1433) (by decide +kernel) (by decide +kernel)
theorem qS_X9_jug : Cond.selects RX9 yX9_jug yX9_jug ∈ lw_g := lw_gm (i := 1434) (by decide +kernel) (by decide +kernel)
theorem qC_X9_jug : Cond.code yX9_jug cX9_jug 9 (some .long) ∈ lw_g := lw_gm (i := 1435) (by decide +kernel) (by decide +kernel)
theorem qM_X9_285 : Cond.methodLink RX9 285 yX9_lowestOf ∈ lw_g := lw_gm (i := 1436) (by decide +kernel) (by decide +kernel)
theorem qI_X9_lowestOf : Cond.instanceMethod yX9_lowestOf ∈ lw_g := lw_gm (i := 1438) (by decide +kernel) (by decide +kernel)
theorem qC_X9_lowestOf : Cond.code yX9_lowestOf cX9_lowestOf 2 (some .long) ∈ lw_g := lw_gm (i := 1439) (by decide +kernel) (by decide +kernel)
theorem qK_X9_63 : Cond.constantLong RX9 63 (4000000000000000000) ∈ lw_g := lw_gm (i := 1440) (by decide +kernel) (by decide +kernel)
theorem qM_X9_289 : Cond.methodLink RX9 289 yX9_partsOf ∈ lw_g := lw_gm (i := 1441) (by decide +kernel) (by decide +kernel)
theorem qT_X9_partsOf : Cond.static yX9_partsOf ∈ lw_g := lw_gm (i := 1442) (by decide +kernel) (by decide +kernel)
theorem qC_X9_partsOf : Cond.code yX9_partsOf cX9_partsOf 6 (some .long) ∈ lw_g := lw_gm (i := 1443) (by decide +kernel) (by decide +kernel)
theorem qM_X9_293 : Cond.methodLink RX9 293 yX9_power ∈ lw_g := lw_gm (i := 1444) (by decide +kernel) (by decide +kernel)
theorem qT_X9_power : Cond.static yX9_power ∈ lw_g := lw_gm (i := 1445) (by decide +kernel) (by decide +kernel)
theorem qC_X9_power : Cond.code yX9_power cX9_power 5 (some .long) ∈ lw_g := lw_gm (i := 1446) (by decide +kernel) (by decide +kernel)
theorem qM_X9_297 : Cond.methodLink RX9 297 yX9_partOf ∈ lw_g := lw_gm (i := 1447) (by decide +kernel) (by decide +kernel)
theorem qT_X9_partOf : Cond.static yX9_partOf ∈ lw_g := lw_gm (i := 1448) (by decide +kernel) (by decide +kernel)
theorem qC_X9_partOf : Cond.code yX9_partOf cX9_partOf 5 (some .long) ∈ lw_g := lw_gm (i := 1449) (by decide +kernel) (by decide +kernel)
theorem qM_X9_281 : Cond.methodLink RX9 281 yX9_divisor ∈ lw_g := lw_gm (i := 1450) (by decide +kernel) (by decide +kernel)
theorem qT_X9_divisor : Cond.static yX9_divisor ∈ lw_g := lw_gm (i := 1451) (by decide +kernel) (by decide +kernel)
theorem qC_X9_divisor : Cond.code yX9_divisor cX9_divisor 10 (some .long) ∈ lw_g := lw_gm (i := 1452) (by decide +kernel) (by decide +kernel)
theorem qM_L_134 : Cond.methodLink RL 134 yX9_two ∈ lw_g := lw_gm (i := 1453) (by decide +kernel) (by decide +kernel)
theorem qI_X9_two : Cond.instanceMethod yX9_two ∈ lw_g := lw_gm (i := 1454) (by decide +kernel) (by decide +kernel)
theorem qS_X9_two : Cond.selects RX9 yX9_two yX9_two ∈ lw_g := lw_gm (i := 1455) (by decide +kernel) (by decide +kernel)
theorem qC_X9_two : Cond.code yX9_two cX9_two 6 (some .int) ∈ lw_g := lw_gm (i := 1456) (by decide +kernel) (by decide +kernel)
theorem qM_X9_301 : Cond.methodLink RX9 301 yX9_getsOf ∈ lw_g := lw_gm (i := 1457) (by decide +kernel) (by decide +kernel)
theorem qI_X9_getsOf : Cond.instanceMethod yX9_getsOf ∈ lw_g := lw_gm (i := 1459) (by decide +kernel) (by decide +kernel)
theorem qC_X9_getsOf : Cond.code yX9_getsOf cX9_getsOf 7 (some .int) ∈ lw_g := lw_gm (i := 1460) (by decide +kernel) (by decide +kernel)
theorem qM_L_139 : Cond.methodLink RL 139 yX9_meetings ∈ lw_g := lw_gm (i := 1461) (by decide +kernel) (by decide +kernel)
theorem qI_X9_meetings : Cond.instanceMethod yX9_meetings ∈ lw_g := lw_gm (i := 1462) (by decide +kernel) (by decide +kernel)
theorem qS_X9_meetings : Cond.selects RX9 yX9_meetings yX9_meetings ∈ lw_g := lw_gm (i := 1463) (by decide +kernel) (by decide +kernel)
theorem qC_X9_meetings : Cond.code yX9_meetings cX9_meetings 11 (some .long) ∈ lw_g := lw_gm (i := 1464) (by decide +kernel) (by decide +kernel)
theorem qM_X9_305 : Cond.methodLink RX9 305 yX9_isOpenMeeting ∈ lw_g := lw_gm (i := 1465) (by decide +kernel) (by decide +kernel)
theorem qI_X9_isOpenMeeting : Cond.instanceMethod yX9_isOpenMeeting ∈ lw_g := lw_gm (i := 1467) (by decide +kernel) (by decide +kernel)
theorem qC_X9_isOpenMeeting : Cond.code yX9_isOpenMeeting cX9_isOpenMeeting 7 (some .boolean) ∈ lw_g := lw_gm (i := 1468) (by decide +kernel) (by decide +kernel)
theorem qM_L_143 : Cond.methodLink RL 143 yX9_fullest ∈ lw_g := lw_gm (i := 1469) (by decide +kernel) (by decide +kernel)
theorem qI_X9_fullest : Cond.instanceMethod yX9_fullest ∈ lw_g := lw_gm (i := 1470) (by decide +kernel) (by decide +kernel)
theorem qS_X9_fullest : Cond.selects RX9 yX9_fullest yX9_fullest ∈ lw_g := lw_gm (i := 1471) (by decide +kernel) (by decide +kernel)
theorem qC_X9_fullest : Cond.code yX9_fullest cX9_fullest 4 (some .int) ∈ lw_g := lw_gm (i := 1472) (by decide +kernel) (by decide +kernel)
theorem qM_L_147 : Cond.methodLink RL 147 yX9_thickest ∈ lw_g := lw_gm (i := 1473) (by decide +kernel) (by decide +kernel)
theorem qI_X9_thickest : Cond.instanceMethod yX9_thickest ∈ lw_g := lw_gm (i := 1474) (by decide +kernel) (by decide +kernel)
theorem qS_X9_thickest : Cond.selects RX9 yX9_thickest yX9_thickest ∈ lw_g := lw_gm (i := 1475) (by decide +kernel) (by decide +kernel)
theorem qC_X9_thickest : Cond.code yX9_thickest cX9_thickest 3 (some .int) ∈ lw_g := lw_gm (i := 1476) (by decide +kernel) (by decide +kernel)
theorem qM_L_151 : Cond.methodLink RL 151 yX9_mildest ∈ lw_g := lw_gm (i := 1477) (by decide +kernel) (by decide +kernel)
theorem qI_X9_mildest : Cond.instanceMethod yX9_mildest ∈ lw_g := lw_gm (i := 1478) (by decide +kernel) (by decide +kernel)
theorem qS_X9_mildest : Cond.selects RX9 yX9_mildest yX9_mildest ∈ lw_g := lw_gm (i := 1479) (by decide +kernel) (by decide +kernel)
theorem qC_X9_mildest : Cond.code yX9_mildest cX9_mildest 3 (some .int) ∈ lw_g := lw_gm (i := 1480) (by decide +kernel) (by decide +kernel)
theorem qM_X9_309 : Cond.methodLink RX9 309 yX9_hatesOf ∈ lw_g := lw_gm (i := 1481) (by decide +kernel) (by decide +kernel)
theorem qI_X9_hatesOf : Cond.instanceMethod yX9_hatesOf ∈ lw_g := lw_gm (i := 1483) (by decide +kernel) (by decide +kernel)
theorem qC_X9_hatesOf : Cond.code yX9_hatesOf cX9_hatesOf 4 (some .int) ∈ lw_g := lw_gm (i := 1484) (by decide +kernel) (by decide +kernel)
theorem qM_L_155 : Cond.methodLink RL 155 yX9_bare ∈ lw_g := lw_gm (i := 1485) (by decide +kernel) (by decide +kernel)
theorem qI_X9_bare : Cond.instanceMethod yX9_bare ∈ lw_g := lw_gm (i := 1486) (by decide +kernel) (by decide +kernel)
theorem qS_X9_bare : Cond.selects RX9 yX9_bare yX9_bare ∈ lw_g := lw_gm (i := 1487) (by decide +kernel) (by decide +kernel)
theorem qC_X9_bare : Cond.code yX9_bare cX9_bare 3 (some .int) ∈ lw_g := lw_gm (i := 1488) (by decide +kernel) (by decide +kernel)
theorem qM_L_160 : Cond.methodLink RL 160 yX9_mean ∈ lw_g := lw_gm (i := 1489) (by decide +kernel) (by decide +kernel)
theorem qI_X9_mean : Cond.instanceMethod yX9_mean ∈ lw_g := lw_gm (i := 1490) (by decide +kernel) (by decide +kernel)
theorem qS_X9_mean : Cond.selects RX9 yX9_mean yX9_mean ∈ lw_g := lw_gm (i := 1491) (by decide +kernel) (by decide +kernel)
theorem qC_X9_mean : Cond.code yX9_mean cX9_mean 2 (some .long) ∈ lw_g := lw_gm (i := 1492) (by decide +kernel) (by decide +kernel)
theorem qM_L_164 : Cond.methodLink RL 164 yX9_used ∈ lw_g := lw_gm (i := 1493) (by decide +kernel) (by decide +kernel)
theorem qI_X9_used : Cond.instanceMethod yX9_used ∈ lw_g := lw_gm (i := 1494) (by decide +kernel) (by decide +kernel)
theorem qS_X9_used : Cond.selects RX9 yX9_used yX9_used ∈ lw_g := lw_gm (i := 1495) (by decide +kernel) (by decide +kernel)
theorem qC_X9_used : Cond.code yX9_used cX9_used 5 (some .int) ∈ lw_g := lw_gm (i := 1496) (by decide +kernel) (by decide +kernel)
theorem qM_X9_312 : Cond.methodLink RX9 312 yX9_lower ∈ lw_g := lw_gm (i := 1497) (by decide +kernel) (by decide +kernel)
theorem qI_X9_lower : Cond.instanceMethod yX9_lower ∈ lw_g := lw_gm (i := 1499) (by decide +kernel) (by decide +kernel)
theorem qC_X9_lower : Cond.code yX9_lower cX9_lower 2 (some .int) ∈ lw_g := lw_gm (i := 1500) (by decide +kernel) (by decide +kernel)
theorem qK_X9_62 : Cond.constant RX9 62 (1000000000) ∈ lw_g := lw_gm (i := 1501) (by decide +kernel) (by decide +kernel)
theorem qM_L_168 : Cond.methodLink RL 168 yX9_swap ∈ lw_g := lw_gm (i := 1502) (by decide +kernel) (by decide +kernel)
theorem qI_X9_swap : Cond.instanceMethod yX9_swap ∈ lw_g := lw_gm (i := 1503) (by decide +kernel) (by decide +kernel)
theorem qS_X9_swap : Cond.selects RX9 yX9_swap yX9_swap ∈ lw_g := lw_gm (i := 1504) (by decide +kernel) (by decide +kernel)
theorem qC_X9_swap : Cond.code yX9_swap cX9_swap 8 (some .int) ∈ lw_g := lw_gm (i := 1505) (by decide +kernel) (by decide +kernel)
theorem qM_X9_315 : Cond.methodLink RX9 315 yX9_manySwapped ∈ lw_g := lw_gm (i := 1506) (by decide +kernel) (by decide +kernel)
theorem qI_X9_manySwapped : Cond.instanceMethod yX9_manySwapped ∈ lw_g := lw_gm (i := 1508) (by decide +kernel) (by decide +kernel)
theorem qC_X9_manySwapped : Cond.code yX9_manySwapped cX9_manySwapped 6 (some .int) ∈ lw_g := lw_gm (i := 1509) (by decide +kernel) (by decide +kernel)
theorem qM_L_172 : Cond.methodLink RL 172 yX9_apart ∈ lw_g := lw_gm (i := 1510) (by decide +kernel) (by decide +kernel)
theorem qI_X9_apart : Cond.instanceMethod yX9_apart ∈ lw_g := lw_gm (i := 1511) (by decide +kernel) (by decide +kernel)
theorem qS_X9_apart : Cond.selects RX9 yX9_apart yX9_apart ∈ lw_g := lw_gm (i := 1512) (by decide +kernel) (by decide +kernel)
theorem qC_X9_apart : Cond.code yX9_apart cX9_apart 5 (some .int) ∈ lw_g := lw_gm (i := 1513) (by decide +kernel) (by decide +kernel)
theorem qM_L_176 : Cond.methodLink RL 176 yX9_enemy ∈ lw_g := lw_gm (i := 1514) (by decide +kernel) (by decide +kernel)
theorem qI_X9_enemy : Cond.instanceMethod yX9_enemy ∈ lw_g := lw_gm (i := 1515) (by decide +kernel) (by decide +kernel)
theorem qS_X9_enemy : Cond.selects RX9 yX9_enemy yX9_enemy ∈ lw_g := lw_gm (i := 1516) (by decide +kernel) (by decide +kernel)
theorem qC_X9_enemy : Cond.code yX9_enemy cX9_enemy 4 (some .int) ∈ lw_g := lw_gm (i := 1517) (by decide +kernel) (by decide +kernel)
theorem qM_L_180 : Cond.methodLink RL 180 yX9_can ∈ lw_g := lw_gm (i := 1518) (by decide +kernel) (by decide +kernel)
theorem qI_X9_can : Cond.instanceMethod yX9_can ∈ lw_g := lw_gm (i := 1519) (by decide +kernel) (by decide +kernel)
theorem qS_X9_can : Cond.selects RX9 yX9_can yX9_can ∈ lw_g := lw_gm (i := 1520) (by decide +kernel) (by decide +kernel)
theorem qC_X9_can : Cond.code yX9_can cX9_can 5 (some .int) ∈ lw_g := lw_gm (i := 1521) (by decide +kernel) (by decide +kernel)
theorem qM_L_184 : Cond.methodLink RL 184 yX9_row ∈ lw_g := lw_gm (i := 1522) (by decide +kernel) (by decide +kernel)
theorem qI_X9_row : Cond.instanceMethod yX9_row ∈ lw_g := lw_gm (i := 1523) (by decide +kernel) (by decide +kernel)
theorem qS_X9_row : Cond.selects RX9 yX9_row yX9_row ∈ lw_g := lw_gm (i := 1524) (by decide +kernel) (by decide +kernel)
theorem qC_X9_row : Cond.code yX9_row cX9_row 3 (some .int) ∈ lw_g := lw_gm (i := 1525) (by decide +kernel) (by decide +kernel)
theorem qM_L_188 : Cond.methodLink RL 188 yX9_judge ∈ lw_g := lw_gm (i := 1526) (by decide +kernel) (by decide +kernel)
theorem qI_X9_judge : Cond.instanceMethod yX9_judge ∈ lw_g := lw_gm (i := 1527) (by decide +kernel) (by decide +kernel)
theorem qS_X9_judge : Cond.selects RX9 yX9_judge yX9_judge ∈ lw_g := lw_gm (i := 1528) (by decide +kernel) (by decide +kernel)
theorem qC_X9_judge : Cond.code yX9_judge cX9_judge 4 (some .int) ∈ lw_g := lw_gm (i := 1529) (by decide +kernel) (by decide +kernel)
theorem qM_L_192 : Cond.methodLink RL 192 yX9_clear ∈ lw_g := lw_gm (i := 1530) (by decide +kernel) (by decide +kernel)
theorem qI_X9_clear : Cond.instanceMethod yX9_clear ∈ lw_g := lw_gm (i := 1531) (by decide +kernel) (by decide +kernel)
theorem qS_X9_clear : Cond.selects RX9 yX9_clear yX9_clear ∈ lw_g := lw_gm (i := 1532) (by decide +kernel) (by decide +kernel)
theorem qC_X9_clear : Cond.code yX9_clear cX9_clear 2 (some .int) ∈ lw_g := lw_gm (i := 1533) (by decide +kernel) (by decide +kernel)
theorem qM_L_196 : Cond.methodLink RL 196 yX9_lots ∈ lw_g := lw_gm (i := 1534) (by decide +kernel) (by decide +kernel)
theorem qI_X9_lots : Cond.instanceMethod yX9_lots ∈ lw_g := lw_gm (i := 1535) (by decide +kernel) (by decide +kernel)
theorem qS_X9_lots : Cond.selects RX9 yX9_lots yX9_lots ∈ lw_g := lw_gm (i := 1536) (by decide +kernel) (by decide +kernel)
theorem qC_X9_lots : Cond.code yX9_lots cX9_lots 10 (some .int) ∈ lw_g := lw_gm (i := 1537) (by decide +kernel) (by decide +kernel)
theorem qM_X9_324 : Cond.methodLink RX9 324 yX9_draw ∈ lw_g := lw_gm (i := 1538) (by decide +kernel) (by decide +kernel)
theorem qI_X9_draw : Cond.instanceMethod yX9_draw ∈ lw_g := lw_gm (i := 1540) (by decide +kernel) (by decide +kernel)
theorem qC_X9_draw : Cond.code yX9_draw cX9_draw 2 (some .int) ∈ lw_g := lw_gm (i := 1541) (by decide +kernel) (by decide +kernel)
theorem qK_X9_321 : Cond.constant RX9 321 (1103515245) ∈ lw_g := lw_gm (i := 1542) (by decide +kernel) (by decide +kernel)
theorem qK_X9_322 : Cond.constant RX9 322 (2147483647) ∈ lw_g := lw_gm (i := 1543) (by decide +kernel) (by decide +kernel)
theorem qK_X9_323 : Cond.constant RX9 323 (65536) ∈ lw_g := lw_gm (i := 1544) (by decide +kernel) (by decide +kernel)
theorem qM_L_208 : Cond.methodLink RL 208 yX9_count ∈ lw_g := lw_gm (i := 1545) (by decide +kernel) (by decide +kernel)
theorem qI_X9_count : Cond.instanceMethod yX9_count ∈ lw_g := lw_gm (i := 1546) (by decide +kernel) (by decide +kernel)
theorem qS_X9_count : Cond.selects RX9 yX9_count yX9_count ∈ lw_g := lw_gm (i := 1547) (by decide +kernel) (by decide +kernel)
theorem qC_X9_count : Cond.code yX9_count cX9_count 2 (some .int) ∈ lw_g := lw_gm (i := 1548) (by decide +kernel) (by decide +kernel)
theorem qS_X8_refused : Cond.selects RX8 yX8_refused yX8_refused ∈ lw_g := lw_gm (i := 0) (by decide +kernel) (by decide +kernel)
theorem qS_X7_brokenPlace : Cond.selects RX7 yX7_brokenPlace yX7_brokenPlace ∈ lw_g := lw_gm (i := 1) (by decide +kernel) (by decide +kernel)
theorem qS_X7_sign : Cond.selects RX7 yX7_sign yX7_sign ∈ lw_g := lw_gm (i := 2) (by decide +kernel) (by decide +kernel)
theorem qS_X7_isDigit : Cond.selects RX7 yX7_isDigit yX7_isDigit ∈ lw_g := lw_gm (i := 3) (by decide +kernel) (by decide +kernel)
theorem qS_X7_isRight : Cond.selects RX7 yX7_isRight yX7_isRight ∈ lw_g := lw_gm (i := 4) (by decide +kernel) (by decide +kernel)
theorem qS_X7_digit : Cond.selects RX7 yX7_digit yX7_digit ∈ lw_g := lw_gm (i := 5) (by decide +kernel) (by decide +kernel)
theorem qS_X7_twoDigits : Cond.selects RX7 yX7_twoDigits yX7_twoDigits ∈ lw_g := lw_gm (i := 6) (by decide +kernel) (by decide +kernel)
theorem qS_X7_comes : Cond.selects RX7 yX7_comes yX7_comes ∈ lw_g := lw_gm (i := 7) (by decide +kernel) (by decide +kernel)
theorem qS_X1_change : Cond.selects RX1 yX1_change yX1_change ∈ lw_g := lw_gm (i := 8) (by decide +kernel) (by decide +kernel)
theorem qS_X8_keeperRefusal : Cond.selects RX8 yX8_keeperRefusal yX8_keeperRefusal ∈ lw_g := lw_gm (i := 9) (by decide +kernel) (by decide +kernel)
theorem qS_X8_letterRefusal : Cond.selects RX8 yX8_letterRefusal yX8_letterRefusal ∈ lw_g := lw_gm (i := 10) (by decide +kernel) (by decide +kernel)
theorem qS_X8_twoRefusal : Cond.selects RX8 yX8_twoRefusal yX8_twoRefusal ∈ lw_g := lw_gm (i := 11) (by decide +kernel) (by decide +kernel)
theorem qS_X5_country : Cond.selects RX5 yX5_country yX5_country ∈ lw_g := lw_gm (i := 12) (by decide +kernel) (by decide +kernel)
theorem qS_X3_hateOrSelf : Cond.selects RX3 yX3_hateOrSelf yX3_hateOrSelf ∈ lw_g := lw_gm (i := 13) (by decide +kernel) (by decide +kernel)
theorem qS_X4_hateMadeUp : Cond.selects RX4 yX4_hateMadeUp yX4_hateMadeUp ∈ lw_g := lw_gm (i := 14) (by decide +kernel) (by decide +kernel)
theorem qS_X4_gain : Cond.selects RX4 yX4_gain yX4_gain ∈ lw_g := lw_gm (i := 15) (by decide +kernel) (by decide +kernel)
theorem qS_X4_openAsAllIs : Cond.selects RX4 yX4_openAsAllIs yX4_openAsAllIs ∈ lw_g := lw_gm (i := 16) (by decide +kernel) (by decide +kernel)
theorem qS_X4_openKept : Cond.selects RX4 yX4_openKept yX4_openKept ∈ lw_g := lw_gm (i := 17) (by decide +kernel) (by decide +kernel)
theorem qS_X4_opensAsTold : Cond.selects RX4 yX4_opensAsTold yX4_opensAsTold ∈ lw_g := lw_gm (i := 18) (by decide +kernel) (by decide +kernel)
theorem qS_X4_hatesAsTold : Cond.selects RX4 yX4_hatesAsTold yX4_hatesAsTold ∈ lw_g := lw_gm (i := 19) (by decide +kernel) (by decide +kernel)
theorem qS_X3_mostTwosWith : Cond.selects RX3 yX3_mostTwosWith yX3_mostTwosWith ∈ lw_g := lw_gm (i := 20) (by decide +kernel) (by decide +kernel)
theorem qS_X3_hatesTogether : Cond.selects RX3 yX3_hatesTogether yX3_hatesTogether ∈ lw_g := lw_gm (i := 21) (by decide +kernel) (by decide +kernel)
theorem qS_X9_no : Cond.selects RX9 yX9_no yX9_no ∈ lw_g := lw_gm (i := 22) (by decide +kernel) (by decide +kernel)
theorem qS_X9_statement : Cond.selects RX9 yX9_statement yX9_statement ∈ lw_g := lw_gm (i := 23) (by decide +kernel) (by decide +kernel)
theorem qS_X9_next : Cond.selects RX9 yX9_next yX9_next ∈ lw_g := lw_gm (i := 24) (by decide +kernel) (by decide +kernel)
theorem qS_X9_readsAll : Cond.selects RX9 yX9_readsAll yX9_readsAll ∈ lw_g := lw_gm (i := 25) (by decide +kernel) (by decide +kernel)
theorem qS_X9_readsDigits : Cond.selects RX9 yX9_readsDigits yX9_readsDigits ∈ lw_g := lw_gm (i := 26) (by decide +kernel) (by decide +kernel)
theorem qS_X9_passesAll : Cond.selects RX9 yX9_passesAll yX9_passesAll ∈ lw_g := lw_gm (i := 27) (by decide +kernel) (by decide +kernel)
theorem qS_X9_passes : Cond.selects RX9 yX9_passes yX9_passes ∈ lw_g := lw_gm (i := 28) (by decide +kernel) (by decide +kernel)
theorem qS_X9_passOne : Cond.selects RX9 yX9_passOne yX9_passOne ∈ lw_g := lw_gm (i := 29) (by decide +kernel) (by decide +kernel)
theorem qS_X9_comes : Cond.selects RX9 yX9_comes yX9_comes ∈ lw_g := lw_gm (i := 30) (by decide +kernel) (by decide +kernel)
theorem qS_X9_comesKeeper : Cond.selects RX9 yX9_comesKeeper yX9_comesKeeper ∈ lw_g := lw_gm (i := 31) (by decide +kernel) (by decide +kernel)
theorem qS_X9_addsKeeper : Cond.selects RX9 yX9_addsKeeper yX9_addsKeeper ∈ lw_g := lw_gm (i := 32) (by decide +kernel) (by decide +kernel)
theorem qS_X9_sets : Cond.selects RX9 yX9_sets yX9_sets ∈ lw_g := lw_gm (i := 33) (by decide +kernel) (by decide +kernel)
theorem qS_X9_areTwo : Cond.selects RX9 yX9_areTwo yX9_areTwo ∈ lw_g := lw_gm (i := 34) (by decide +kernel) (by decide +kernel)
theorem qS_X9_isKeeper : Cond.selects RX9 yX9_isKeeper yX9_isKeeper ∈ lw_g := lw_gm (i := 35) (by decide +kernel) (by decide +kernel)
theorem qS_X9_comesLetter : Cond.selects RX9 yX9_comesLetter yX9_comesLetter ∈ lw_g := lw_gm (i := 36) (by decide +kernel) (by decide +kernel)
theorem qS_X9_addsLetter : Cond.selects RX9 yX9_addsLetter yX9_addsLetter ∈ lw_g := lw_gm (i := 37) (by decide +kernel) (by decide +kernel)
theorem qS_X9_isLetter : Cond.selects RX9 yX9_isLetter yX9_isLetter ∈ lw_g := lw_gm (i := 38) (by decide +kernel) (by decide +kernel)
theorem qS_X9_comesWeeks : Cond.selects RX9 yX9_comesWeeks yX9_comesWeeks ∈ lw_g := lw_gm (i := 39) (by decide +kernel) (by decide +kernel)
theorem qS_X9_goesOn : Cond.selects RX9 yX9_goesOn yX9_goesOn ∈ lw_g := lw_gm (i := 40) (by decide +kernel) (by decide +kernel)
theorem qS_X9_goesWeek : Cond.selects RX9 yX9_goesWeek yX9_goesWeek ∈ lw_g := lw_gm (i := 41) (by decide +kernel) (by decide +kernel)
theorem qS_X9_fadesTwo : Cond.selects RX9 yX9_fadesTwo yX9_fadesTwo ∈ lw_g := lw_gm (i := 42) (by decide +kernel) (by decide +kernel)
theorem qS_X9_hateOf : Cond.selects RX9 yX9_hateOf yX9_hateOf ∈ lw_g := lw_gm (i := 43) (by decide +kernel) (by decide +kernel)
theorem qS_X9_fadesOf : Cond.selects RX9 yX9_fadesOf yX9_fadesOf ∈ lw_g := lw_gm (i := 44) (by decide +kernel) (by decide +kernel)
theorem qS_X9_stirsOf : Cond.selects RX9 yX9_stirsOf yX9_stirsOf ∈ lw_g := lw_gm (i := 45) (by decide +kernel) (by decide +kernel)
theorem qS_X9_opensAt : Cond.selects RX9 yX9_opensAt yX9_opensAt ∈ lw_g := lw_gm (i := 46) (by decide +kernel) (by decide +kernel)
theorem qS_X9_areThere : Cond.selects RX9 yX9_areThere yX9_areThere ∈ lw_g := lw_gm (i := 47) (by decide +kernel) (by decide +kernel)
theorem qS_X9_payOf : Cond.selects RX9 yX9_payOf yX9_payOf ∈ lw_g := lw_gm (i := 48) (by decide +kernel) (by decide +kernel)
theorem qS_X9_keepsBack : Cond.selects RX9 yX9_keepsBack yX9_keepsBack ∈ lw_g := lw_gm (i := 49) (by decide +kernel) (by decide +kernel)
theorem qS_X9_openOnes : Cond.selects RX9 yX9_openOnes yX9_openOnes ∈ lw_g := lw_gm (i := 50) (by decide +kernel) (by decide +kernel)
theorem qS_X9_hateIn : Cond.selects RX9 yX9_hateIn yX9_hateIn ∈ lw_g := lw_gm (i := 51) (by decide +kernel) (by decide +kernel)
theorem qS_X9_thinks : Cond.selects RX9 yX9_thinks yX9_thinks ∈ lw_g := lw_gm (i := 52) (by decide +kernel) (by decide +kernel)
theorem qS_X9_forgets : Cond.selects RX9 yX9_forgets yX9_forgets ∈ lw_g := lw_gm (i := 53) (by decide +kernel) (by decide +kernel)
theorem qS_X9_openIn : Cond.selects RX9 yX9_openIn yX9_openIn ∈ lw_g := lw_gm (i := 54) (by decide +kernel) (by decide +kernel)
theorem qS_X9_allHate : Cond.selects RX9 yX9_allHate yX9_allHate ∈ lw_g := lw_gm (i := 55) (by decide +kernel) (by decide +kernel)
theorem qS_X9_whenOf : Cond.selects RX9 yX9_whenOf yX9_whenOf ∈ lw_g := lw_gm (i := 56) (by decide +kernel) (by decide +kernel)
theorem qS_X9_firstOne : Cond.selects RX9 yX9_firstOne yX9_firstOne ∈ lw_g := lw_gm (i := 57) (by decide +kernel) (by decide +kernel)
theorem qS_X9_isOpenedBy : Cond.selects RX9 yX9_isOpenedBy yX9_isOpenedBy ∈ lw_g := lw_gm (i := 58) (by decide +kernel) (by decide +kernel)
theorem qS_X9_manyAt : Cond.selects RX9 yX9_manyAt yX9_manyAt ∈ lw_g := lw_gm (i := 59) (by decide +kernel) (by decide +kernel)
theorem qS_X9_changes : Cond.selects RX9 yX9_changes yX9_changes ∈ lw_g := lw_gm (i := 60) (by decide +kernel) (by decide +kernel)
theorem qS_X9_changesBack : Cond.selects RX9 yX9_changesBack yX9_changesBack ∈ lw_g := lw_gm (i := 61) (by decide +kernel) (by decide +kernel)
theorem qS_X9_manyBy : Cond.selects RX9 yX9_manyBy yX9_manyBy ∈ lw_g := lw_gm (i := 62) (by decide +kernel) (by decide +kernel)
theorem qS_X9_payOfAll : Cond.selects RX9 yX9_payOfAll yX9_payOfAll ∈ lw_g := lw_gm (i := 63) (by decide +kernel) (by decide +kernel)
theorem qS_X9_keepersIn : Cond.selects RX9 yX9_keepersIn yX9_keepersIn ∈ lw_g := lw_gm (i := 64) (by decide +kernel) (by decide +kernel)
theorem qS_X9_findTwos : Cond.selects RX9 yX9_findTwos yX9_findTwos ∈ lw_g := lw_gm (i := 65) (by decide +kernel) (by decide +kernel)
theorem qS_X9_opensSo : Cond.selects RX9 yX9_opensSo yX9_opensSo ∈ lw_g := lw_gm (i := 66) (by decide +kernel) (by decide +kernel)
theorem qS_X9_bitsFor : Cond.selects RX9 yX9_bitsFor yX9_bitsFor ∈ lw_g := lw_gm (i := 67) (by decide +kernel) (by decide +kernel)
theorem qS_X9_hatesSo : Cond.selects RX9 yX9_hatesSo yX9_hatesSo ∈ lw_g := lw_gm (i := 68) (by decide +kernel) (by decide +kernel)
theorem qS_X9_lowestOf : Cond.selects RX9 yX9_lowestOf yX9_lowestOf ∈ lw_g := lw_gm (i := 69) (by decide +kernel) (by decide +kernel)
theorem qS_X9_getsOf : Cond.selects RX9 yX9_getsOf yX9_getsOf ∈ lw_g := lw_gm (i := 70) (by decide +kernel) (by decide +kernel)
theorem qS_X9_isOpenMeeting : Cond.selects RX9 yX9_isOpenMeeting yX9_isOpenMeeting ∈ lw_g := lw_gm (i := 71) (by decide +kernel) (by decide +kernel)
theorem qS_X9_hatesOf : Cond.selects RX9 yX9_hatesOf yX9_hatesOf ∈ lw_g := lw_gm (i := 72) (by decide +kernel) (by decide +kernel)
theorem qS_X9_lower : Cond.selects RX9 yX9_lower yX9_lower ∈ lw_g := lw_gm (i := 73) (by decide +kernel) (by decide +kernel)
theorem qS_X9_manySwapped : Cond.selects RX9 yX9_manySwapped yX9_manySwapped ∈ lw_g := lw_gm (i := 74) (by decide +kernel) (by decide +kernel)
theorem qS_X9_draw : Cond.selects RX9 yX9_draw yX9_draw ∈ lw_g := lw_gm (i := 75) (by decide +kernel) (by decide +kernel)
theorem inX1 : ∀ w ∈ u_ws RX1 TX1 11, w ∈ lw_g := lw_gp [116, 118, 120, 122, 124, 126, 128, 130, 132, 134, 136] (by decide +kernel) (by decide +kernel)
theorem inX3 : ∀ w ∈ u_ws RX3 TX3 2, w ∈ lw_g := lw_gp [193, 195] (by decide +kernel) (by decide +kernel)
theorem inX4 : ∀ w ∈ u_ws RX4 TX4 2, w ∈ lw_g := lw_gp [208, 210] (by decide +kernel) (by decide +kernel)
theorem inX5 : ∀ w ∈ u_ws RX5 TX5 3, w ∈ lw_g := lw_gp [152, 154, 156] (by decide +kernel) (by decide +kernel)
theorem inX6 : ∀ w ∈ u_ws RX6 TX6 2, w ∈ lw_g := lw_gp [180, 182] (by decide +kernel) (by decide +kernel)
theorem inX7 : ∀ w ∈ u_ws RX7 TX7 2, w ∈ lw_g := lw_gp [167, 169] (by decide +kernel) (by decide +kernel)
theorem inX8 : ∀ w ∈ u_ws RX8 TX8 10, w ∈ lw_g := lw_gp [223, 225, 227, 229, 231, 233, 235, 237, 239, 241] (by decide +kernel) (by decide +kernel)
theorem inX9 : ∀ w ∈ u_ws RX9 TX9 31, w ∈ lw_g := lw_gp [1044, 1046, 1048, 1050, 1052, 1054, 1056, 1058, 1060, 1062, 1064, 1066, 1068, 1070, 1072, 1074, 1076, 1078, 1080, 1082, 1084, 1086, 1088, 1090, 1092, 1094, 1096, 1098, 1100, 1102, 1104] (by decide +kernel) (by decide +kernel)
end
section
/-! the world: cells by number; st k j: the int in place j of cell k -/
abbrev St : Type := Nat → Nat → Int32
def u1 (st : St) (k : Nat) (f : Nat → Int32) : St := fun j => if j = k then f else st j
def u2 (st : St) (k j : Nat) (v : Int32) : St := u1 st k (upd (st k) j v)
abbrev Sy : Type := va_G × ClassId × ClassId × (Nat → Nat)
abbrev En : Type := Sy → Nat → (Nat → Int32) → va_E
abbrev ad (y : Sy) (k : Nat) : Nat := y.2.2.2 k
def gW (N : Nat) (en : En) (y : Sy) (st : St) : va_W := (List.range N).map fun k => (ad y k, en y k (st k))
theorem gW_at {N : Nat} {en : En} {y : Sy} {st : St} {k : Nat} (hk : k < N) : (gW N en y st)[k]? = some (ad y k, en y k (st k)) := by
  simp [gW, hk]
theorem gW_set {N : Nat} {en : En} {y : Sy} {st : St} {k : Nat} (hk : k < N) (f : Nat → Int32) : (gW N en y st).set k (ad y k, en y k f) = gW N en y (u1 st k f) := by
  apply List.ext_getElem?
  intro i
  by_cases hi : i = k
  · subst hi
    rw [List.getElem?_set_self (by simp [gW, hk]), gW_at hk]
    simp [u1]
  · rw [List.getElem?_set_ne (fun h => hi h.symm)]
    by_cases hl : i < N
    · rw [gW_at hl, gW_at hl]; simp [u1, hi]
    · simp [gW, hl]
def gA (N : Nat) (y : Sy) : Nat → Prop := fun q => ∃ k, k < N ∧ q = ad y k
abbrev gT (y : Sy) : List (ClassId × FieldType) := [(y.2.1, .int), (y.2.2.1, .object "OnlyTwoEnemies$Country")]
def gB (N : Nat) (en : En) (y : Sy) (st : St) (U : State) : Prop := va_P y.1 vwCl (gW N en y st) U.heap ∧ va_K y.1 vwCl (gT y) U ∧ va_D (gA N y) (gW N en y st)
def gH (N : Nat) (en : En) (y : Sy) (st : St) (s : State) (H : Heap) (locs : List Loc) : Prop := va_P y.1 vwCl (gW N en y st) H ∧ va_D (gA N y) (gW N en y st) ∧ va_S (gA N y) s.heap H locs
def isNest : Cond → Bool
  | .methodLinkNest .. => true
  | _ => false
def nW (U : State) : Prop := ∀ w ∈ lw_tbl, isNest w = true → va_Nw w U
theorem nW.warm {s U : State} (hW : s.WarmedH U.vm) (h : nW s) : nW U := by
  intro w hw hn
  cases w <;> first | (cases hn; done) | exact va_Nw.warmM hW (h _ hw hn)
theorem nW.same {s U : State} (hv : s.vm = U.vm) (h : nW s) : nW U := by
  intro w hw hn
  cases w <;> first | (cases hn; done) | exact va_Nw.same rfl hv (h _ hw hn)
def gP (N : Nat) (en : En) (y : Sy) (st : St) (U : State) : Prop := gB N en y st U ∧ nW U
def cw (Y : MethodName) (b : ByteArray) (n : Nat) (ret : Option FieldType) : List Cond := .code Y b n ret :: lw_g
abbrev rmm (fr lo : Nat) : Room := { frames := fr, cells := 0, slots := 0, locals := lo }
abbrev Ci (N : Nat) (en : En) (l : Launch) (Y : MethodName) (b : ByteArray) (n : Nat) (ret : Option FieldType) (fr lo : Nat) (y : Sy) (av : List Value) (st : St) (K : Int32 → St → Prop) : Prop :=
  Met l Y (cw Y b n ret) (rmm fr lo) (va_Pc av (gP N en y st)) (va_Qi K (gB N en y) (gA N y)) 0 0 (gA N y)
abbrev Cl (N : Nat) (en : En) (l : Launch) (Y : MethodName) (b : ByteArray) (n : Nat) (ret : Option FieldType) (fr lo : Nat) (y : Sy) (av : List Value) (st : St) (K : Int64 → St → Prop) : Prop :=
  Met l Y (cw Y b n ret) (rmm fr lo) (va_Pc av (gP N en y st)) (va_Ql K (gB N en y) (gA N y)) 0 0 (gA N y)
abbrev Cv (N : Nat) (en : En) (l : Launch) (Y : MethodName) (b : ByteArray) (n : Nat) (ret : Option FieldType) (fr lo : Nat) (y : Sy) (av : List Value) (st : St) (K : St → Prop) : Prop :=
  Met l Y (cw Y b n ret) (rmm fr lo) (va_Pc av (gP N en y st)) (va_Qv K (gB N en y) (gA N y)) 0 0 (gA N y)
/-- what every row of a method's body needs -/
def Sd (p : Program) (s : State) (m : MethodId) (args : Array Value) (meth : Method) (c : Code) (cc : ByteArray) (nL : Nat) (own : String) (ret : Option FieldType) (y : Sy) : Prop :=
  p.tables.exec = Jvm.exec ∧ c.code = cc ∧ c.maxLocals = nL ∧ s.vm.findClass own = some m.cls ∧ (∀ w ∈ lw_g, w.before args s = true) ∧ meth.sig.returnType = ret ∧ meth.locks = false ∧ va_K y.1 vwCl (gT y) s ∧ nW s
theorem gB_blind {N : Nat} {en : En} {y : Sy} {st : St} {av : List Value} : FrameBlind (va_Pc av (gP N en y st)) := fun a U g mk q => by
  obtain ⟨e, ⟨qP, qK, qD⟩, qN⟩ := q
  exact ⟨e, ⟨qP, va_K.moved (u := U) (U := U.calling g mk a) (Vm.Alike.refl U.vm) qK, qD⟩, nW.same rfl qN⟩
theorem ent {l : Launch} {Y : MethodName} {cc : ByteArray} {n : Nat} {ret : Option FieldType} {fr lo N : Nat} {en : En} {y : Sy} {av : List Value} {st : St} {Qc : Array Value → State → Outcome → State → Prop} (hcls : plainName Y.cls = true) (hlen : (lg_sl av).length ≤ n)
    (body : ∀ (p : Program) (e : Env) (s : State) (m : MethodId) (below : List Frame) (meth : Method) (c : Code), Sd p s m av.toArray meth c cc n Y.cls ret y → gH N en y st s s.heap [] → ∀ ls : Array Slot, lv_has ls n (lv_args 0 av) →
      W p l e (rmm fr lo) s m av.toArray below meth c s.heap [] 0 0 (MQ below Qc av.toArray s 0 0 (gA N y)) (F0 m 0 ls [])) :
    Met l Y (cw Y cc n ret) (rmm fr lo) (va_Pc av (gP N en y st)) Qc 0 0 (gA N y) := by
  refine Met.ofW (cc := cc) (maxL := n) (ret := ret) hcls rfl ?_
  intro p e s m args below meth c s₁ B hml hv
  obtain ⟨rfl, ⟨hP, hK, hD⟩, hN⟩ := hv
  have hts := atoms_spec (ws := cw Y cc n ret) B.pre
  have hown : s.vm.findClass Y.cls = some m.cls := findClass_of_methodNamed B.named
  rw [lg_entry_eq]
  exact body p e s m below meth c ⟨B.exec, B.bytes, hml, hown, fun w h => hts w (List.mem_cons_of_mem _ h), B.returns, B.notSynchronized, hK, hN⟩ ⟨hP, hD, va_S.rf⟩ _ (lv_entry av hlen)
section Rows
variable {p : Program} {l : Launch} {e : Env} {R : Room} {s : State} {m : MethodId} {args : Array Value} {below : List Frame} {meth : Method} {c : Code} {H : Heap} {locs : List Loc} {Q : State → Prop} {cc : ByteArray} {pc : Nat} {ls : Array Slot} {rest : List Value} {N : Nat} {en : En} {y : Sy} {st : St} {own : String}
theorem r_get (hx : p.tables.exec = Jvm.exec) (hb : c.code = cc) (hts : ∀ w ∈ lw_g, w.before args s = true) (hown : s.vm.findClass own = some m.cls) (hK : va_K y.1 vwCl (gT y) s) (hG : gH N en y st s H locs) {k ci idx Nf : Nat} {C : String} {T : u_T} {fs : List Value} {v : Value} (hk : k < N) (he : en y k (st k) = .inr (ci, fs)) (hc : vwCl[ci]? = some (C, T, Nf)) (hin : ∀ w ∈ u_ws C T Nf, w ∈ lw_g) (j : Nat) (hj : j < Nf)
    (hl : Cond.fieldLink own idx (T j).1 (T j).2.1 (T j).2.2.1 ∈ lw_g) (hv : fs[j]? = some v) (d : decode cc pc = .ok (.getfield idx, 3)) (kk : W p l e R s m args below meth c H locs 0 0 Q (F0 m (pc + 3) ls (v :: rest))) : W p l e R s m args below meth c H locs 0 0 Q (F0 m pc ls (.ref (ad y k) :: rest)) :=
  va_get hx hb hts hin hown hK hG.1 k (by rw [gW_at hk, he]) hc j hj (hts _ hl) (fun x h => h) hv d kk
theorem r_put (hx : p.tables.exec = Jvm.exec) (hb : c.code = cc) (hts : ∀ w ∈ lw_g, w.before args s = true) (hown : s.vm.findClass own = some m.cls) (hK : va_K y.1 vwCl (gT y) s) (hG : gH N en y st s H locs) {k ci idx Nf : Nat} {C : String} {T : u_T} {fs : List Value} {ty0 : Nat → FieldType} (hk : k < N) (he : en y k (st k) = .inr (ci, fs)) (hc : vwCl[ci]? = some (C, T, Nf)) (hin : ∀ w ∈ u_ws C T Nf, w ∈ lw_g) (hty : ∀ k, k < Nf → parseFieldDescriptor (T k).2.2.1 = some (ty0 k)) (hnm : ∀ a, a < Nf → ∀ b, b < Nf → a ≠ b → (T a).2.1 ≠ (T b).2.1) (j : Nat) (hj : j < Nf)
    (hl : Cond.fieldLink own idx (T j).1 (T j).2.1 (T j).2.2.1 ∈ lw_g) (hfin : (T j).2.2.2 = false) (v : Int32) (hes : en y k (upd (st k) j v) = .inr (ci, fs.set j (.int v))) (hn : narrow (ty0 j) (.int v) = .int v) (hfit : fits (ty0 j) (.int v) = true) (hl2 : j < fs.length) (d : decode cc pc = .ok (.putfield idx, 3))
    (kk : ∀ (H1 : Heap) (locs1 : List Loc), gH N en y (u2 st k j v) s H1 locs1 → W p l e R s m args below meth c H1 locs1 0 0 Q (F0 m (pc + 3) ls rest)) : W p l e R s m args below meth c H locs 0 0 Q (F0 m pc ls (.int v :: .ref (ad y k) :: rest)) :=
  va_put hx hb hts hin ty0 hty hnm hown hK hG.1 hG.2.1 hG.2.2 k (by rw [gW_at hk, he]) hc j hj (hts _ hl) (fun x h => h) hfin (hty j hj) hn hfit hl2 d fun H1 locs1 h1 h2 h3 => kk H1 locs1 (by
    rw [← hes, gW_set hk] at h1 h2
    exact ⟨h1, h2, h3⟩)
theorem r_iald (hx : p.tables.exec = Jvm.exec) (hb : c.code = cc) (hK : va_K y.1 vwCl (gT y) s) (hG : gH N en y st s H locs) {k n : Nat} (hk : k < N) (he : en y k (st k) = .inl (y.2.1, n, .inl (st k))) {i : Int32} (hi : vp_in i n) (d : decode cc pc = .ok (.iaload, 1))
    (kk : W p l e R s m args below meth c H locs 0 0 Q (F0 m (pc + 1) ls (.int (st k i.toNatClampNeg) :: rest))) : W p l e R s m args below meth c H locs 0 0 Q (F0 m pc ls (.int i :: .ref (ad y k) :: rest)) :=
  va_iald hx hb hK hG.1 k 0 (by rw [gW_at hk, he]) rfl hi d kk
theorem r_iast (hx : p.tables.exec = Jvm.exec) (hb : c.code = cc) (hK : va_K y.1 vwCl (gT y) s) (hG : gH N en y st s H locs) {k n : Nat} (hk : k < N) (he : ∀ f, en y k f = .inl (y.2.1, n, .inl f)) {i v : Int32} (hi : vp_in i n) (d : decode cc pc = .ok (.iastore, 1))
    (kk : ∀ (H1 : Heap) (locs1 : List Loc), gH N en y (u2 st k i.toNatClampNeg v) s H1 locs1 → W p l e R s m args below meth c H1 locs1 0 0 Q (F0 m (pc + 1) ls rest)) : W p l e R s m args below meth c H locs 0 0 Q (F0 m pc ls (.int v :: .int i :: .ref (ad y k) :: rest)) :=
  va_iast hx hb hK hG.1 hG.2.1 hG.2.2 k 0 (by rw [gW_at hk, he]) rfl hi d fun H1 locs1 h1 h2 h3 => kk H1 locs1 (by
    rw [← he, gW_set hk] at h1 h2
    exact ⟨h1, h2, h3⟩)
theorem r_alen (hx : p.tables.exec = Jvm.exec) (hb : c.code = cc) (hK : va_K y.1 vwCl (gT y) s) (hG : gH N en y st s H locs) {k n : Nat} {v : Int32} (hk : k < N) (he : en y k (st k) = .inl (y.2.1, n, .inl (st k))) (hv : Int32.ofNat n = v) (d : decode cc pc = .ok (.arraylength, 1))
    (kk : W p l e R s m args below meth c H locs 0 0 Q (F0 m (pc + 1) ls (.int v :: rest))) : W p l e R s m args below meth c H locs 0 0 Q (F0 m pc ls (.ref (ad y k) :: rest)) :=
  va_alen hx hb hK hG.1 k 0 (by rw [gW_at hk, he]) rfl hv d kk
theorem r_iret (hx : p.tables.exec = Jvm.exec) (hb : c.code = cc) {ty : FieldType} (hr : meth.sig.returnType = some ty) (hlk : meth.locks = false) (hK : va_K y.1 vwCl (gT y) s) (hG : gH N en y st s H locs) {K : Int32 → St → Prop} {v : Int32} (hn : narrow ty (.int v) = .int v) (hw : K v st) (d : decode cc pc = .ok (.ireturn, 1)) :
    W p l e R s m args below meth c H locs 0 0 (MQ below (va_Qi K (gB N en y) (gA N y)) args s 0 0 (gA N y)) (F0 m pc ls [.int v]) :=
  W.zret hx hb hr hn (fun t ht hW => ⟨⟨v, st, rfl, hw, by rw [ht]; exact hG.1, va_K.moved hW.alike hK, hG.2.1⟩, hG.2.2.F ht⟩) hG.2.2.2.2 d hlk
theorem r_lret (hx : p.tables.exec = Jvm.exec) (hb : c.code = cc) (hr : meth.sig.returnType = some .long) (hlk : meth.locks = false) (hK : va_K y.1 vwCl (gT y) s) (hG : gH N en y st s H locs) {K : Int64 → St → Prop} {v : Int64} (hw : K v st) (d : decode cc pc = .ok (.lreturn, 1)) :
    W p l e R s m args below meth c H locs 0 0 (MQ below (va_Ql K (gB N en y) (gA N y)) args s 0 0 (gA N y)) (F0 m pc ls [.long v]) :=
  W.lret hx hb hr (fun t ht hW => ⟨⟨v, st, rfl, hw, by rw [ht]; exact hG.1, va_K.moved hW.alike hK, hG.2.1⟩, hG.2.2.F ht⟩) hG.2.2.2.2 d hlk
theorem r_vret (hx : p.tables.exec = Jvm.exec) (hb : c.code = cc) (hr : meth.sig.returnType = none) (hlk : meth.locks = false) (hK : va_K y.1 vwCl (gT y) s) (hG : gH N en y st s H locs) {K : St → Prop} (hw : K st) (d : decode cc pc = .ok (.return_, 1)) :
    W p l e R s m args below meth c H locs 0 0 (MQ below (va_Qv K (gB N en y) (gA N y)) args s 0 0 (gA N y)) (F0 m pc ls []) :=
  W.vret hx hb hr (fun t ht hW => ⟨⟨st, rfl, hw, by rw [ht]; exact hG.1, va_K.moved hW.alike hK, hG.2.1⟩, hG.2.2.F ht⟩) hG.2.2.2.2 d hlk
/-- what a call gives back, by the world -/
theorem g_back {H1 : Heap} {locs1 : List Loc} {t : State} {st' : St} (ht : t.heap = H1) (hB : gB N en y st' t) (hS : va_S (gA N y) s.heap H1 locs1) : gH N en y st' s H1 locs1 := by
  obtain ⟨h1, -, h3⟩ := hB
  rw [ht] at h1
  exact ⟨h1, h3, hS⟩
theorem g_pre {av : List Value} (hK : va_K y.1 vwCl (gT y) s) (hN : nW s) (hG : gH N en y st s H locs) : ∀ U : State, U.heap = H → s.WarmedH U.vm → va_Pc av (gP N en y st) av.toArray U := fun U hU hW => ⟨rfl, ⟨by rw [hU]; exact hG.1, va_K.moved hW.alike hK, hG.2.1⟩, hN.warm hW⟩
variable {Y : MethodName} {b : ByteArray} {nY idx fr lo nL : Nat} {rt : Option FieldType} {As stk : List Value}
theorem r_run_V {k ci : Nat} {q : vw_C} {fs : List Value} {Qc : Array Value → State → Outcome → State → Prop} (hx : p.tables.exec = Jvm.exec) (hb : c.code = cc) (hml : c.maxLocals = nL) (hown : s.vm.findClass own = some m.cls) (hts : ∀ w ∈ lw_g, w.before args s = true) (hK : va_K y.1 vwCl (gT y) s) (hN : nW s) (hG : gH N en y st s H locs)
    (hM : Met l Y (cw Y b nY rt) (rmm fr lo) (va_Pc (.ref (ad y k) :: As) (gP N en y st)) Qc 0 0 (gA N y)) (hk : k < N) (he : en y k (st k) = .inr (ci, fs)) (hc : vwCl[ci]? = some q) (hq : q.1 = Y.cls)
    (q1 : Cond.methodLink own idx Y ∈ lw_g) (q2 : Cond.instanceMethod Y ∈ lw_g) (q3 : Cond.selects Y.cls Y Y ∈ lw_g) (q4 : Cond.initialized Y.cls ∈ lw_g) (q5 : Cond.code Y b nY rt ∈ lw_g)
    (hd : Y.cls ≠ "java/lang/invoke/MethodHandle" ∧ Y.cls ≠ "java/lang/invoke/VarHandle" ∧ (parseMethodDescriptor Y.desc).map (fun d => d.parameters.length) = some As.length) (hR : fr + 1 ≤ R.frames ∧ 8 + (nY + 11) + lo ≤ R.locals)
    (hsize : ls.size = nL) (hstk : stk = As.reverse ++ .ref (ad y k) :: rest) (hW : (rest.map fun v => v.category).sum ≤ 8) (d : decode cc pc = .ok (.invokevirtual idx, 3)) :
    va_Run p l e R s m args below meth c H locs 0 0 0 0 (F0 m pc ls stk) rest (Qc (Value.ref (ad y k) :: As).toArray) (gA N y) :=
  va_runV (As := As) (rest := rest) ⟨hx, hb, hml, hown, hts⟩ hM
    (cwV (C := Y.cls) As.length hts (lw_gi (by
      intro w hw
      simp only [wsV, List.mem_append, List.mem_cons, List.not_mem_nil, or_false, cw] at hw
      rcases hw with (rfl | rfl | rfl | rfl) | (rfl | h)
      · exact q1
      · exact q2
      · exact q3
      · exact q4
      · exact q5
      · exact h)) rfl rfl rfl ⟨rfl, hd⟩ hR)
    ⟨gB_blind, by rw [← hq]; exact va_recv hK hG.1 (ci := ci) (q0 := k) hc (by rw [gW_at hk, he]), g_pre hK hN hG⟩ rfl rfl hsize hstk (lv_room hW) d ⟨Nat.zero_le _, Nat.zero_le _⟩
theorem r_run_S {Qc : Array Value → State → Outcome → State → Prop} (hx : p.tables.exec = Jvm.exec) (hb : c.code = cc) (hml : c.maxLocals = nL) (hown : s.vm.findClass own = some m.cls) (hts : ∀ w ∈ lw_g, w.before args s = true) (hK : va_K y.1 vwCl (gT y) s) (hN : nW s) (hG : gH N en y st s H locs)
    (hM : Met l Y (cw Y b nY rt) (rmm fr lo) (va_Pc As (gP N en y st)) Qc 0 0 (gA N y))
    (q1 : Cond.methodLink own idx Y ∈ lw_g) (q2 : Cond.static Y ∈ lw_g) (q4 : Cond.initialized Y.cls ∈ lw_g) (q5 : Cond.code Y b nY rt ∈ lw_g)
    (hd : Y.cls ≠ "java/lang/invoke/MethodHandle" ∧ Y.cls ≠ "java/lang/invoke/VarHandle" ∧ (parseMethodDescriptor Y.desc).map (fun d => d.parameters.length) = some As.length) (hR : fr + 1 ≤ R.frames ∧ 8 + (nY + 11) + lo ≤ R.locals)
    (hsize : ls.size = nL) (hstk : stk = As.reverse ++ rest) (hW : (rest.map fun v => v.category).sum ≤ 8) (d : decode cc pc = .ok (.invokestatic idx, 3)) :
    va_Run p l e R s m args below meth c H locs 0 0 0 0 (F0 m pc ls stk) rest (Qc As.toArray) (gA N y) :=
  va_runS (As := As) (rest := rest) ⟨hx, hb, hml, hown, hts⟩ hM
    (va_cwS As.length hts (lw_gi (by
      intro w hw
      simp only [va_wsS, List.mem_append, List.mem_cons, List.not_mem_nil, or_false, cw] at hw
      rcases hw with (rfl | rfl | rfl) | (rfl | h)
      · exact q1
      · exact q2
      · exact q4
      · exact q5
      · exact h)) rfl rfl rfl hd hR)
    ⟨gB_blind, g_pre hK hN hG⟩ rfl rfl hsize hstk (lv_room hW) d ⟨Nat.zero_le _, Nat.zero_le _⟩
theorem r_run_N {host : String} {Qc : Array Value → State → Outcome → State → Prop} (hx : p.tables.exec = Jvm.exec) (hb : c.code = cc) (hml : c.maxLocals = nL) (hown : s.vm.findClass own = some m.cls) (hts : ∀ w ∈ lw_g, w.before args s = true) (hK : va_K y.1 vwCl (gT y) s) (hN : nW s) (hG : gH N en y st s H locs)
    (hM : Met l Y (cw Y b nY rt) (rmm fr lo) (va_Pc As (gP N en y st)) Qc 0 0 (gA N y))
    (q1 : Cond.methodLinkNest own idx Y host ∈ lw_tbl) (q2 : Cond.static Y ∈ lw_g) (q4 : Cond.initialized Y.cls ∈ lw_g) (q5 : Cond.code Y b nY rt ∈ lw_g)
    (hd : Y.cls ≠ "java/lang/invoke/MethodHandle" ∧ Y.cls ≠ "java/lang/invoke/VarHandle" ∧ (parseMethodDescriptor Y.desc).map (fun d => d.parameters.length) = some As.length) (hR : fr + 1 ≤ R.frames ∧ 8 + (nY + 11) + lo ≤ R.locals)
    (hsize : ls.size = nL) (hstk : stk = As.reverse ++ rest) (hW : (rest.map fun v => v.category).sum ≤ 8) (d : decode cc pc = .ok (.invokestatic idx, 3)) :
    va_Run p l e R s m args below meth c H locs 0 0 0 0 (F0 m pc ls stk) rest (Qc As.toArray) (gA N y) :=
  va_runSN (As := As) (rest := rest) ⟨hx, hb, hml, hown, hts⟩ hM
    ⟨va_cnB (ws' := lw_g) As.length hts (lw_gi (by
      intro w hw
      simp only [List.mem_cons, cw] at hw
      rcases hw with rfl | h
      · exact q5
      · exact h)) rfl rfl rfl (hN _ q1 rfl) (hts _ q4) hd hR, hts _ q2, trivial⟩
    ⟨gB_blind, g_pre hK hN hG⟩ rfl rfl hsize hstk (lv_room hW) d ⟨Nat.zero_le _, Nat.zero_le _⟩
theorem r_ki {K : Int32 → St → Prop} {a : Array Value} (hr : va_Run p l e R s m args below meth c H locs 0 0 0 0 (F0 m pc ls stk) rest (va_Qi K (gB N en y) (gA N y) a) (gA N y)) (hG : gH N en y st s H locs)
    (kk : ∀ (r : Int32) (st' : St) (H1 : Heap) (locs1 : List Loc), K r st' → gH N en y st' s H1 locs1 → W p l e R s m args below meth c H1 locs1 0 0 Q (F0 m (pc + 3) ls (.int r :: rest))) : W p l e R s m args below meth c H locs 0 0 Q (F0 m pc ls stk) :=
  va_calli hr hG.2.2 (fun _ _ h => h) (fun _ h => h) fun r u t H1 locs1 ht _ hp hB _ _ hS => kk r u H1 locs1 hp (g_back ht hB hS)
theorem r_kl {K : Int64 → St → Prop} {a : Array Value} (hr : va_Run p l e R s m args below meth c H locs 0 0 0 0 (F0 m pc ls stk) rest (va_Ql K (gB N en y) (gA N y) a) (gA N y)) (hG : gH N en y st s H locs)
    (kk : ∀ (r : Int64) (st' : St) (H1 : Heap) (locs1 : List Loc), K r st' → gH N en y st' s H1 locs1 → W p l e R s m args below meth c H1 locs1 0 0 Q (F0 m (pc + 3) ls (.long r :: rest))) : W p l e R s m args below meth c H locs 0 0 Q (F0 m pc ls stk) :=
  va_calll hr hG.2.2 (fun _ _ h => h) (fun _ h => h) fun r u t H1 locs1 ht _ hp hB _ _ hS => kk r u H1 locs1 hp (g_back ht hB hS)
theorem r_kv {K : St → Prop} {a : Array Value} (hr : va_Run p l e R s m args below meth c H locs 0 0 0 0 (F0 m pc ls stk) rest (va_Qv K (gB N en y) (gA N y) a) (gA N y)) (hG : gH N en y st s H locs)
    (kk : ∀ (st' : St) (H1 : Heap) (locs1 : List Loc), K st' → gH N en y st' s H1 locs1 → W p l e R s m args below meth c H1 locs1 0 0 Q (F0 m (pc + 3) ls rest)) : W p l e R s m args below meth c H locs 0 0 Q (F0 m pc ls stk) :=
  va_callv hr hG.2.2 (fun _ _ h => h) (fun _ h => h) fun u t H1 locs1 ht _ hp hB _ _ hS => kk u H1 locs1 hp (g_back ht hB hS)
end Rows
end
section
/-! the class's cells: 0 the object, 1 refusals, 2 past, 3 earlier, 4 telling, 5 signs, 6 row, 7 numbers, 8 look, 9 twosAmong, 10 mind, 11 + 8 i .. : country i (0 now, 1 draft, 2 kept, 3 .. 10 earlier, 11 ahead); the check's: 0 the object, 1 .. 16 its rows -/
def eC (y : Sy) (k : Nat) (f : Nat → Int32) : va_E := .inr (0, [.ref (ad y (k + 1)), .ref (ad y (k + 2)), .ref (ad y (k + 3)), .ref (ad y (k + 4)), .ref (ad y (k + 5)), .ref (ad y (k + 6)), .ref (ad y (k + 7)), .int (f 7), .int (f 8), .int (f 9), .int (f 10)])
def eA (y : Sy) (n : Nat) (f : Nat → Int32) : va_E := .inl (y.2.1, n, .inl f)
def enX (y : Sy) (k : Nat) (f : Nat → Int32) : va_E :=
  match k with
  | 0 => .inr (6, [.ref (ad y 11), .ref (ad y 19), .ref (ad y 27), .int (f 3), .ref (ad y 2), .ref (ad y 4), .ref (ad y 6), .ref (ad y 8), .ref (ad y 10), .ref (ad y 1)])
  | 1 => eA y 7 f
  | 2 => .inr (3, [.ref (ad y 3), .int (f 1), .int (f 2)])
  | 3 => .inl (y.2.2.1, 8, .inr (.inr (.inr (.inr (fun j => some (ad y (35 + 8 * j)))))))
  | 4 => .inr (5, [.ref (ad y 5), .int (f 1)])
  | 5 => eA y 96 f
  | 6 => .inr (4, [.ref (ad y 7), .int (f 1)])
  | 7 => eA y 12 f
  | 8 => .inr (1, [.ref (ad y 11), .ref (ad y 9)])
  | 9 => eA y 64 f
  | 10 => .inr (2, [.ref (ad y 11), .ref (ad y 99)])
  | n + 11 => match n % 8 with
    | 0 => eC y (n + 11) f
    | 4 => eA y 36 f
    | _ => eA y 6 f
def isC (k : Nat) : Prop := ∃ i, i < 12 ∧ k = 8 * i + 11
theorem isC_at {i : Nat} (h : i < 12) : isC (8 * i + 11) := ⟨i, h, rfl⟩
theorem isC.lt {k : Nat} (h : isC k) : k < 107 := by obtain ⟨i, h1, rfl⟩ := h; omega
theorem isC.e {k : Nat} (h : isC k) (y : Sy) (f : Nat → Int32) : enX y k f = eC y k f := by
  obtain ⟨i, h1, rfl⟩ := h
  show (match (8 * i) % 8 with | 0 => _ | 4 => _ | _ => _) = _
  rw [Nat.mul_mod_right]
def isA (k n : Nat) : Prop := k < 107 ∧ ∀ (y : Sy) (f : Nat → Int32), enX y k f = .inl (y.2.1, n, .inl f)
theorem isC.a1 {k : Nat} (h : isC k) : isA (k + 1) 6 := by
  obtain ⟨i, h1, rfl⟩ := h
  refine ⟨by omega, fun y f => ?_⟩
  show (match (8 * i + 1) % 8 with | 0 => _ | 4 => _ | _ => _) = _
  rw [Nat.mul_add_mod]
  rfl
theorem isC.a2 {k : Nat} (h : isC k) : isA (k + 2) 6 := by
  obtain ⟨i, h1, rfl⟩ := h
  refine ⟨by omega, fun y f => ?_⟩
  show (match (8 * i + 2) % 8 with | 0 => _ | 4 => _ | _ => _) = _
  rw [Nat.mul_add_mod]
  rfl
theorem isC.a3 {k : Nat} (h : isC k) : isA (k + 3) 6 := by
  obtain ⟨i, h1, rfl⟩ := h
  refine ⟨by omega, fun y f => ?_⟩
  show (match (8 * i + 3) % 8 with | 0 => _ | 4 => _ | _ => _) = _
  rw [Nat.mul_add_mod]
  rfl
theorem isC.a4 {k : Nat} (h : isC k) : isA (k + 4) 36 := by
  obtain ⟨i, h1, rfl⟩ := h
  refine ⟨by omega, fun y f => ?_⟩
  show (match (8 * i + 4) % 8 with | 0 => _ | 4 => _ | _ => _) = _
  rw [Nat.mul_add_mod]
  rfl
theorem isC.a5 {k : Nat} (h : isC k) : isA (k + 5) 6 := by
  obtain ⟨i, h1, rfl⟩ := h
  refine ⟨by omega, fun y f => ?_⟩
  show (match (8 * i + 5) % 8 with | 0 => _ | 4 => _ | _ => _) = _
  rw [Nat.mul_add_mod]
  rfl
theorem isC.a6 {k : Nat} (h : isC k) : isA (k + 6) 6 := by
  obtain ⟨i, h1, rfl⟩ := h
  refine ⟨by omega, fun y f => ?_⟩
  show (match (8 * i + 6) % 8 with | 0 => _ | 4 => _ | _ => _) = _
  rw [Nat.mul_add_mod]
  rfl
theorem isC.a7 {k : Nat} (h : isC k) : isA (k + 7) 6 := by
  obtain ⟨i, h1, rfl⟩ := h
  refine ⟨by omega, fun y f => ?_⟩
  show (match (8 * i + 7) % 8 with | 0 => _ | 4 => _ | _ => _) = _
  rw [Nat.mul_add_mod]
  rfl
theorem isC.p7 {k : Nat} (h : isC k) (y : Sy) (f : Nat → Int32) (v : Int32) : enX y k (upd f 7 v) = .inr (0, ([.ref (ad y (k + 1)), .ref (ad y (k + 2)), .ref (ad y (k + 3)), .ref (ad y (k + 4)), .ref (ad y (k + 5)), .ref (ad y (k + 6)), .ref (ad y (k + 7)), .int (f 7), .int (f 8), .int (f 9), .int (f 10)] : List Value).set 7 (.int v)) := by rw [h.e]; rfl
theorem isC.p8 {k : Nat} (h : isC k) (y : Sy) (f : Nat → Int32) (v : Int32) : enX y k (upd f 8 v) = .inr (0, ([.ref (ad y (k + 1)), .ref (ad y (k + 2)), .ref (ad y (k + 3)), .ref (ad y (k + 4)), .ref (ad y (k + 5)), .ref (ad y (k + 6)), .ref (ad y (k + 7)), .int (f 7), .int (f 8), .int (f 9), .int (f 10)] : List Value).set 8 (.int v)) := by rw [h.e]; rfl
theorem isC.p9 {k : Nat} (h : isC k) (y : Sy) (f : Nat → Int32) (v : Int32) : enX y k (upd f 9 v) = .inr (0, ([.ref (ad y (k + 1)), .ref (ad y (k + 2)), .ref (ad y (k + 3)), .ref (ad y (k + 4)), .ref (ad y (k + 5)), .ref (ad y (k + 6)), .ref (ad y (k + 7)), .int (f 7), .int (f 8), .int (f 9), .int (f 10)] : List Value).set 9 (.int v)) := by rw [h.e]; rfl
theorem isC.p10 {k : Nat} (h : isC k) (y : Sy) (f : Nat → Int32) (v : Int32) : enX y k (upd f 10 v) = .inr (0, ([.ref (ad y (k + 1)), .ref (ad y (k + 2)), .ref (ad y (k + 3)), .ref (ad y (k + 4)), .ref (ad y (k + 5)), .ref (ad y (k + 6)), .ref (ad y (k + 7)), .int (f 7), .int (f 8), .int (f 9), .int (f 10)] : List Value).set 10 (.int v)) := by rw [h.e]; rfl
theorem isA_1 : isA 1 7 := ⟨by decide, fun _ _ => rfl⟩
theorem isA_5 : isA 5 96 := ⟨by decide, fun _ _ => rfl⟩
theorem isA_7 : isA 7 12 := ⟨by decide, fun _ _ => rfl⟩
theorem isA_9 : isA 9 64 := ⟨by decide, fun _ _ => rfl⟩
theorem isC_11 : isC 11 := ⟨0, by decide, rfl⟩
theorem isC_19 : isC 19 := ⟨1, by decide, rfl⟩
theorem isC_27 : isC 27 := ⟨2, by decide, rfl⟩
theorem isC_99 : isC 99 := ⟨11, by decide, rfl⟩
theorem isC_past {j : Nat} (h : j < 8) : isC (35 + 8 * j) := ⟨j + 3, by omega, by omega⟩
def enM (y : Sy) (k : Nat) (f : Nat → Int32) : va_E :=
  match k with
  | 0 => .inr (7, [.ref (ad y 1), .ref (ad y 2), .ref (ad y 3), .ref (ad y 4), .ref (ad y 5), .ref (ad y 6), .ref (ad y 7), .ref (ad y 8), .int (f 8), .int (f 9), .int (f 10), .int (f 11), .ref (ad y 9), .ref (ad y 10), .ref (ad y 11), .ref (ad y 12), .int (f 16), .int (f 17), .int (f 18), .ref (ad y 13), .int (f 20), .int (f 21), .int (f 22), .int (f 23), .ref (ad y 14), .int (f 25), .int (f 26), .ref (ad y 15), .ref (ad y 16), .int (f 29), .int (f 30)])
  | 1 => eA y 7 f
  | 2 => eA y 6 f
  | 3 => eA y 6 f
  | 4 => eA y 6 f
  | 5 => eA y 36 f
  | 6 => eA y 6 f
  | 7 => eA y 6 f
  | 8 => eA y 6 f
  | 9 => eA y 96 f
  | 10 => eA y 48 f
  | 11 => eA y 48 f
  | 12 => eA y 144 f
  | 13 => eA y 825 f
  | 14 => eA y 6 f
  | 15 => eA y 64 f
  | _ => eA y 12 f
def isB (k n : Nat) : Prop := k < 17 ∧ ∀ (y : Sy) (f : Nat → Int32), enM y k f = .inl (y.2.1, n, .inl f)
theorem isB_1 : isB 1 7 := ⟨by decide, fun _ _ => rfl⟩
theorem isB_2 : isB 2 6 := ⟨by decide, fun _ _ => rfl⟩
theorem isB_3 : isB 3 6 := ⟨by decide, fun _ _ => rfl⟩
theorem isB_4 : isB 4 6 := ⟨by decide, fun _ _ => rfl⟩
theorem isB_5 : isB 5 36 := ⟨by decide, fun _ _ => rfl⟩
theorem isB_6 : isB 6 6 := ⟨by decide, fun _ _ => rfl⟩
theorem isB_7 : isB 7 6 := ⟨by decide, fun _ _ => rfl⟩
theorem isB_8 : isB 8 6 := ⟨by decide, fun _ _ => rfl⟩
theorem isB_9 : isB 9 96 := ⟨by decide, fun _ _ => rfl⟩
theorem isB_10 : isB 10 48 := ⟨by decide, fun _ _ => rfl⟩
theorem isB_11 : isB 11 48 := ⟨by decide, fun _ _ => rfl⟩
theorem isB_12 : isB 12 144 := ⟨by decide, fun _ _ => rfl⟩
theorem isB_13 : isB 13 825 := ⟨by decide, fun _ _ => rfl⟩
theorem isB_14 : isB 14 6 := ⟨by decide, fun _ _ => rfl⟩
theorem isB_15 : isB 15 64 := ⟨by decide, fun _ _ => rfl⟩
theorem isB_16 : isB 16 12 := ⟨by decide, fun _ _ => rfl⟩
end
section
def gQq (y : Sy) (K : Option Nat → St → Prop) (B : St → State → Prop) (A : Nat → Prop) : Array Value → State → Outcome → State → Prop := va_Qq (fun r (u : St) => ∃ o : Option Nat, r = o.map (ad y) ∧ (∀ k : Nat, o = some k → isC k) ∧ K o u) B A
abbrev Cq (N : Nat) (en : En) (l : Launch) (Y : MethodName) (b : ByteArray) (n : Nat) (ret : Option FieldType) (fr lo : Nat) (y : Sy) (av : List Value) (st : St) (K : Option Nat → St → Prop) : Prop :=
  Met l Y (cw Y b n ret) (rmm fr lo) (va_Pc av (gP N en y st)) (gQq y K (gB N en y) (gA N y)) 0 0 (gA N y)
theorem r_nb {x : Int32} (h : x = 0 ∨ x = 1) : narrow .boolean (.int x) = .int x := by rcases h with rfl | rfl <;> rfl
theorem r_fb {x : Int32} (h : x = 0 ∨ x = 1) : fits .boolean (.int x) = true := by rcases h with rfl | rfl <;> rfl
theorem r_toI {x v : Int32} {n : Int} (h : x.toInt = n) (hv : v.toInt = n := by decide) : x = v := Int32.toInt_inj.mp (h.trans hv.symm)
theorem r_in8 {i : Int32} (h : vp_in i 8) : i.toNatClampNeg < 8 := Nat.not_le.mp fun q => h (Or.inr q)
theorem r_look {ps : List (Int × Int)} {dflt : Int} {x : Int32} (ks : List Int32) (h : ∀ q ∈ ps, ∃ k ∈ ks, q.1 = k.toInt) (hne : ∀ k ∈ ks, ¬ x = k) : Op.lookupswitch.offset ps dflt x.toInt = dflt := by
  induction ps with
  | nil => rfl
  | cons q ps ih =>
    obtain ⟨a, o⟩ := q
    rw [Op.lookupswitch.offset_cons, if_neg, ih fun q hq => h q (List.mem_cons_of_mem _ hq)]
    intro e
    obtain ⟨k, hk, e2⟩ := h _ List.mem_cons_self
    exact hne k hk (Int32.toInt_inj.mp (e.symm.trans e2))
section Rows2
variable {p : Program} {l : Launch} {e : Env} {R : Room} {s : State} {m : MethodId} {args : Array Value} {below : List Frame} {meth : Method} {c : Code} {H : Heap} {locs : List Loc} {Q : State → Prop} {cc : ByteArray} {pc : Nat} {ls : Array Slot} {rest : List Value} {N : Nat} {en : En} {y : Sy} {st : St} {own : String}
theorem r_tabin (hx : p.tables.exec = Jvm.exec) (hb : c.code = cc) {dflt lo hi : Int} {offs : Array Int} {len : Nat} {x v : Int32} {off : Int} {tgt : Nat} (hdg : decode cc pc = .ok (.tableswitch dflt lo hi offs, len)) (h : x = v) (h1 : ¬ v.toInt < lo) (h2 : ¬ hi < v.toInt) (ho : offs[(v.toInt - lo).toNat]? = some off) (ht : (pc : Int) + off = (tgt : Int))
    (k : W p l e R s m args below meth c H locs 0 0 Q (F0 m tgt ls rest)) : W p l e R s m args below meth c H locs 0 0 Q (F0 m pc ls (.int x :: rest)) := by
  subst h
  exact lv_tableIn hx hb hdg h1 h2 ho ht k
theorem r_tabdef (hx : p.tables.exec = Jvm.exec) (hb : c.code = cc) {dflt lo hi : Int} {offs : Array Int} {len : Nat} {x : Int32} {tgt : Nat} (hdg : decode cc pc = .ok (.tableswitch dflt lo hi offs, len)) (ht : (pc : Int) + dflt = (tgt : Int)) (hall : ∀ v : Int, lo ≤ v → v ≤ hi → x.toInt = v → offs[(v - lo).toNat]? = some dflt)
    (k : W p l e R s m args below meth c H locs 0 0 Q (F0 m tgt ls rest)) : W p l e R s m args below meth c H locs 0 0 Q (F0 m pc ls (.int x :: rest)) := by
  by_cases h : x.toInt < lo ∨ hi < x.toInt
  · exact lv_tableOut hx hb hdg h ht k
  · have h1 : ¬ x.toInt < lo := fun q => h (Or.inl q)
    have h2 : ¬ hi < x.toInt := fun q => h (Or.inr q)
    exact lv_tableIn hx hb hdg h1 h2 (hall _ (Int.not_lt.mp h1) (Int.not_lt.mp h2) rfl) ht k
theorem r_eald (hx : p.tables.exec = Jvm.exec) (hb : c.code = cc) (hK : va_K y.1 vwCl (gT y) s) (hG : gH 107 enX y st s H locs) {i : Int32} (hi : vp_in i 8) (d : decode cc pc = .ok (.aaload, 1))
    (kk : W p l e R s m args below meth c H locs 0 0 Q (F0 m (pc + 1) ls (.ref (ad y (35 + 8 * i.toNatClampNeg)) :: rest))) : W p l e R s m args below meth c H locs 0 0 Q (F0 m pc ls (.int i :: .ref (ad y 3) :: rest)) :=
  va_aldq (n := 8) (f := fun j => some (ad y (35 + 8 * j))) hx hb hK hG.1 3 1 (by rw [gW_at (by decide)]; rfl) rfl hi d kk
theorem r_elen (hx : p.tables.exec = Jvm.exec) (hb : c.code = cc) (hK : va_K y.1 vwCl (gT y) s) (hG : gH 107 enX y st s H locs) (d : decode cc pc = .ok (.arraylength, 1))
    (kk : W p l e R s m args below meth c H locs 0 0 Q (F0 m (pc + 1) ls (.int 8 :: rest))) : W p l e R s m args below meth c H locs 0 0 Q (F0 m pc ls (.ref (ad y 3) :: rest)) :=
  va_alen (x := (8, .inr (.inr (.inr (.inr (fun j => some (ad y (35 + 8 * j)))))))) hx hb hK hG.1 3 1 (by rw [gW_at (by decide)]; rfl) rfl rfl d kk
theorem r_copy {k0 n0 k1 n1 idx : Nat} (hx : p.tables.exec = Jvm.exec) (hb : c.code = cc) (hml : c.maxLocals = ls.size) (hown : s.vm.findClass own = some m.cls) (hts : ∀ w ∈ lw_g, w.before args s = true) (hK : va_K y.1 vwCl (gT y) s) (hG : gH N en y st s H locs) (q1 : Cond.methodLink own idx arraycopyName ∈ lw_g) (hk0 : k0 < N) (he0 : ∀ f, en y k0 f = .inl (y.2.1, n0, .inl f)) (hk1 : k1 < N) (he1 : ∀ f, en y k1 f = .inl (y.2.1, n1, .inl f)) {n : Int32} (h3 : ¬ n < 0) (h4 : n.toNatClampNeg ≤ n0) (h5 : n.toNatClampNeg ≤ n1)
    (hframes : 1 ≤ R.frames) (hlocals : (rest.map fun v => v.category).sum + 18 ≤ R.locals) (d : decode cc pc = .ok (.invokestatic idx, 3))
    (kk : ∀ (H1 : Heap) (locs1 : List Loc), gH N en y (u1 st k1 (va_cpy (st k0) (st k1) 0 0 n.toNatClampNeg)) s H1 locs1 → W p l e R s m args below meth c H1 locs1 0 0 Q (F0 m (pc + 3) ls rest)) : W p l e R s m args below meth c H locs 0 0 Q (F0 m pc ls (.int n :: .int 0 :: .ref (ad y k1) :: .int 0 :: .ref (ad y k0) :: rest)) :=
  va_copyi (ty := .int) hx hb hml hown (hts _ q1) (hts _ qV_arraycopyName) (hts _ qT_arraycopyName) (hts _ qN_J10) hK hG.1 hG.2.1 hG.2.2 k0 k1 0 0 (by rw [gW_at hk0, he0]) (by rw [gW_at hk1, he1]) rfl rfl rfl (by decide) (by decide) h3 (by show 0 + _ ≤ _; omega) (by show 0 + _ ≤ _; omega) (fun _ _ => rfl) hframes hlocals d fun H1 locs1 h1 h2 h3 => kk H1 locs1 (by
    rw [← he1, gW_set hk1] at h1 h2
    exact ⟨h1, h2, h3⟩)
theorem r_qret {K : Option Nat → St → Prop} {k : Nat} (hx : p.tables.exec = Jvm.exec) (hb : c.code = cc) (hr : meth.sig.returnType = some (.object "OnlyTwoEnemies$Country")) (hlk : meth.locks = false) (hK : va_K y.1 vwCl (gT y) s) (hG : gH N en y st s H locs) (hk : isC k) (hw : K (some k) st) (d : decode cc pc = .ok (.areturn, 1)) :
    W p l e R s m args below meth c H locs 0 0 (MQ below (gQq y K (gB N en y) (gA N y)) args s 0 0 (gA N y)) (F0 m pc ls [.ref (ad y k)]) :=
  W.aret hx hb hr (Or.inl ⟨_, rfl⟩) (Or.inr ⟨_, rfl⟩) (fun t ht hW => ⟨⟨some (ad y k), st, rfl, ⟨some k, rfl, fun k' e => by cases e; exact hk, hw⟩, by rw [ht]; exact hG.1, va_K.moved hW.alike hK, hG.2.1⟩, hG.2.2.F ht⟩) hG.2.2.2.2 d hlk
theorem r_qretN {K : Option Nat → St → Prop} (hx : p.tables.exec = Jvm.exec) (hb : c.code = cc) (hr : meth.sig.returnType = some (.object "OnlyTwoEnemies$Country")) (hlk : meth.locks = false) (hK : va_K y.1 vwCl (gT y) s) (hG : gH N en y st s H locs) (hw : K none st) (d : decode cc pc = .ok (.areturn, 1)) :
    W p l e R s m args below meth c H locs 0 0 (MQ below (gQq y K (gB N en y) (gA N y)) args s 0 0 (gA N y)) (F0 m pc ls [.null]) :=
  W.aret hx hb hr (Or.inl ⟨_, rfl⟩) (Or.inl rfl) (fun t ht hW => ⟨⟨none, st, rfl, ⟨none, rfl, fun k' e => by cases e, hw⟩, by rw [ht]; exact hG.1, va_K.moved hW.alike hK, hG.2.1⟩, hG.2.2.F ht⟩) hG.2.2.2.2 d hlk
theorem r_kq {stk : List Value} {K : Option Nat → St → Prop} {a : Array Value} (hr : va_Run p l e R s m args below meth c H locs 0 0 0 0 (F0 m pc ls stk) rest (gQq y K (gB N en y) (gA N y) a) (gA N y)) (hG : gH N en y st s H locs)
    (kk : ∀ (r : Option Nat) (st' : St) (H1 : Heap) (locs1 : List Loc), (∀ k : Nat, r = some k → isC k) → K r st' → gH N en y st' s H1 locs1 → W p l e R s m args below meth c H1 locs1 0 0 Q (F0 m (pc + 3) ls (va_rf (r.map (ad y)) :: rest))) : W p l e R s m args below meth c H locs 0 0 Q (F0 m pc ls stk) :=
  va_callq hr hG.2.2 (fun _ _ h => h) (fun _ h => h) fun r u t H1 locs1 ht _ hp hB _ _ hS => by
    obtain ⟨o, rfl, ho, hp⟩ := hp
    exact kk o u H1 locs1 ho hp (g_back ht hB hS)
end Rows2
end
section
def w_J6_bitCount_0f7a4 (x0 : Int32) (st : St) (K : Int32 → St → Prop) : Prop :=
  K ((((((((x0 - (((x0.toUInt32 >>> ((1 : Int32).toUInt32 &&& Int32.toUInt32 31)).toInt32) &&& 1431655765)) &&& 858993459) + ((((x0 - (((x0.toUInt32 >>> ((1 : Int32).toUInt32 &&& Int32.toUInt32 31)).toInt32) &&& 1431655765)).toUInt32 >>> ((2 : Int32).toUInt32 &&& Int32.toUInt32 31)).toInt32) &&& 858993459)) + (((((x0 - (((x0.toUInt32 >>> ((1 : Int32).toUInt32 &&& Int32.toUInt32 31)).toInt32) &&& 1431655765)) &&& 858993459) + ((((x0 - (((x0.toUInt32 >>> ((1 : Int32).toUInt32 &&& Int32.toUInt32 31)).toInt32) &&& 1431655765)).toUInt32 >>> ((2 : Int32).toUInt32 &&& Int32.toUInt32 31)).toInt32) &&& 858993459)).toUInt32 >>> ((4 : Int32).toUInt32 &&& Int32.toUInt32 31)).toInt32)) &&& 252645135) + (((((((x0 - (((x0.toUInt32 >>> ((1 : Int32).toUInt32 &&& Int32.toUInt32 31)).toInt32) &&& 1431655765)) &&& 858993459) + ((((x0 - (((x0.toUInt32 >>> ((1 : Int32).toUInt32 &&& Int32.toUInt32 31)).toInt32) &&& 1431655765)).toUInt32 >>> ((2 : Int32).toUInt32 &&& Int32.toUInt32 31)).toInt32) &&& 858993459)) + (((((x0 - (((x0.toUInt32 >>> ((1 : Int32).toUInt32 &&& Int32.toUInt32 31)).toInt32) &&& 1431655765)) &&& 858993459) + ((((x0 - (((x0.toUInt32 >>> ((1 : Int32).toUInt32 &&& Int32.toUInt32 31)).toInt32) &&& 1431655765)).toUInt32 >>> ((2 : Int32).toUInt32 &&& Int32.toUInt32 31)).toInt32) &&& 858993459)).toUInt32 >>> ((4 : Int32).toUInt32 &&& Int32.toUInt32 31)).toInt32)) &&& 252645135).toUInt32 >>> ((8 : Int32).toUInt32 &&& Int32.toUInt32 31)).toInt32)) + ((((((((x0 - (((x0.toUInt32 >>> ((1 : Int32).toUInt32 &&& Int32.toUInt32 31)).toInt32) &&& 1431655765)) &&& 858993459) + ((((x0 - (((x0.toUInt32 >>> ((1 : Int32).toUInt32 &&& Int32.toUInt32 31)).toInt32) &&& 1431655765)).toUInt32 >>> ((2 : Int32).toUInt32 &&& Int32.toUInt32 31)).toInt32) &&& 858993459)) + (((((x0 - (((x0.toUInt32 >>> ((1 : Int32).toUInt32 &&& Int32.toUInt32 31)).toInt32) &&& 1431655765)) &&& 858993459) + ((((x0 - (((x0.toUInt32 >>> ((1 : Int32).toUInt32 &&& Int32.toUInt32 31)).toInt32) &&& 1431655765)).toUInt32 >>> ((2 : Int32).toUInt32 &&& Int32.toUInt32 31)).toInt32) &&& 858993459)).toUInt32 >>> ((4 : Int32).toUInt32 &&& Int32.toUInt32 31)).toInt32)) &&& 252645135) + (((((((x0 - (((x0.toUInt32 >>> ((1 : Int32).toUInt32 &&& Int32.toUInt32 31)).toInt32) &&& 1431655765)) &&& 858993459) + ((((x0 - (((x0.toUInt32 >>> ((1 : Int32).toUInt32 &&& Int32.toUInt32 31)).toInt32) &&& 1431655765)).toUInt32 >>> ((2 : Int32).toUInt32 &&& Int32.toUInt32 31)).toInt32) &&& 858993459)) + (((((x0 - (((x0.toUInt32 >>> ((1 : Int32).toUInt32 &&& Int32.toUInt32 31)).toInt32) &&& 1431655765)) &&& 858993459) + ((((x0 - (((x0.toUInt32 >>> ((1 : Int32).toUInt32 &&& Int32.toUInt32 31)).toInt32) &&& 1431655765)).toUInt32 >>> ((2 : Int32).toUInt32 &&& Int32.toUInt32 31)).toInt32) &&& 858993459)).toUInt32 >>> ((4 : Int32).toUInt32 &&& Int32.toUInt32 31)).toInt32)) &&& 252645135).toUInt32 >>> ((8 : Int32).toUInt32 &&& Int32.toUInt32 31)).toInt32)).toUInt32 >>> ((16 : Int32).toUInt32 &&& Int32.toUInt32 31)).toInt32)) &&& 63) st
theorem hd_J6_bitCount_0f7a4 : yJ6_bitCount_0f7a4.cls ≠ "java/lang/invoke/MethodHandle" ∧ yJ6_bitCount_0f7a4.cls ≠ "java/lang/invoke/VarHandle" ∧ (parseMethodDescriptor yJ6_bitCount_0f7a4.desc).map (fun d => d.parameters.length) = some 1 := by decide +kernel
set_option maxRecDepth 100000 in
set_option maxHeartbeats 4000000 in
theorem c_J6_bitCount_0f7a4 (l : Launch) (y : Sy) (x0 : Int32) (st : St) (K : Int32 → St → Prop) (hw : w_J6_bitCount_0f7a4 x0 st K) : Ci 107 enX l yJ6_bitCount_0f7a4 cJ6_bitCount_0f7a4 1 (some .int) 0 0 y [.int x0] st K := by
  refine ent (by decide) (Nat.le_of_ble_eq_true rfl) ?_
  intro p e s m below meth c C hG ls hl
  have hl : lv_has ls 1 [(0, .int x0)] := hl
  generalize ([.int x0] : List Value).toArray = args at C ⊢
  have C : Sd p s m args meth c cJ6_bitCount_0f7a4 1 RJ6 (some .int) y := C
  obtain ⟨hx, hb, hml, hown, hts, hr, hlk, hK, hN⟩ := id C
  generalize s.heap = H at hG ⊢
  generalize ([] : List Loc) = locs at hG ⊢
  unfold w_J6_bitCount_0f7a4 at hw
  refine lv_iload_n hx hb dJ6_bitCount_0f7a4_0 rfl (lv_at hl 0 rfl) ?_
  refine lv_iload_n hx hb dJ6_bitCount_0f7a4_1 rfl (lv_at hl 0 rfl) ?_
  refine lv_iconst (v := 1) hx hb dJ6_bitCount_0f7a4_2 (by decide) ?_
  refine lv_iushr (v := ((x0.toUInt32 >>> ((1 : Int32).toUInt32 &&& Int32.toUInt32 31)).toInt32)) hx hb dJ6_bitCount_0f7a4_3 rfl ?_
  refine lv_ldcw (v := 1431655765) hx hb hown (hts _ qK_J6_265) dJ6_bitCount_0f7a4_4 ?_
  refine lv_iand hx hb dJ6_bitCount_0f7a4_7 ?_
  refine lv_isub hx hb dJ6_bitCount_0f7a4_8 ?_
  refine lv_istore_n (lv' := [(0, .int (x0 - (((x0.toUInt32 >>> ((1 : Int32).toUInt32 &&& Int32.toUInt32 31)).toInt32) &&& 1431655765)))]) hx hb dJ6_bitCount_0f7a4_9 rfl hl (Nat.le_of_ble_eq_true rfl) rfl (fun ls hl => ?_)
  refine lv_iload_n hx hb dJ6_bitCount_0f7a4_10 rfl (lv_at hl 0 rfl) ?_
  refine lv_ldcw (v := 858993459) hx hb hown (hts _ qK_J6_266) dJ6_bitCount_0f7a4_11 ?_
  refine lv_iand hx hb dJ6_bitCount_0f7a4_14 ?_
  refine lv_iload_n hx hb dJ6_bitCount_0f7a4_15 rfl (lv_at hl 0 rfl) ?_
  refine lv_iconst (v := 2) hx hb dJ6_bitCount_0f7a4_16 (by decide) ?_
  refine lv_iushr (v := (((x0 - (((x0.toUInt32 >>> ((1 : Int32).toUInt32 &&& Int32.toUInt32 31)).toInt32) &&& 1431655765)).toUInt32 >>> ((2 : Int32).toUInt32 &&& Int32.toUInt32 31)).toInt32)) hx hb dJ6_bitCount_0f7a4_17 rfl ?_
  refine lv_ldcw (v := 858993459) hx hb hown (hts _ qK_J6_266) dJ6_bitCount_0f7a4_18 ?_
  refine lv_iand hx hb dJ6_bitCount_0f7a4_21 ?_
  refine lv_iadd hx hb dJ6_bitCount_0f7a4_22 ?_
  refine lv_istore_n (lv' := [(0, .int (((x0 - (((x0.toUInt32 >>> ((1 : Int32).toUInt32 &&& Int32.toUInt32 31)).toInt32) &&& 1431655765)) &&& 858993459) + ((((x0 - (((x0.toUInt32 >>> ((1 : Int32).toUInt32 &&& Int32.toUInt32 31)).toInt32) &&& 1431655765)).toUInt32 >>> ((2 : Int32).toUInt32 &&& Int32.toUInt32 31)).toInt32) &&& 858993459)))]) hx hb dJ6_bitCount_0f7a4_23 rfl hl (Nat.le_of_ble_eq_true rfl) rfl (fun ls hl => ?_)
  refine lv_iload_n hx hb dJ6_bitCount_0f7a4_24 rfl (lv_at hl 0 rfl) ?_
  refine lv_iload_n hx hb dJ6_bitCount_0f7a4_25 rfl (lv_at hl 0 rfl) ?_
  refine lv_iconst (v := 4) hx hb dJ6_bitCount_0f7a4_26 (by decide) ?_
  refine lv_iushr (v := (((((x0 - (((x0.toUInt32 >>> ((1 : Int32).toUInt32 &&& Int32.toUInt32 31)).toInt32) &&& 1431655765)) &&& 858993459) + ((((x0 - (((x0.toUInt32 >>> ((1 : Int32).toUInt32 &&& Int32.toUInt32 31)).toInt32) &&& 1431655765)).toUInt32 >>> ((2 : Int32).toUInt32 &&& Int32.toUInt32 31)).toInt32) &&& 858993459)).toUInt32 >>> ((4 : Int32).toUInt32 &&& Int32.toUInt32 31)).toInt32)) hx hb dJ6_bitCount_0f7a4_27 rfl ?_
  refine lv_iadd hx hb dJ6_bitCount_0f7a4_28 ?_
  refine lv_ldcw (v := 252645135) hx hb hown (hts _ qK_J6_267) dJ6_bitCount_0f7a4_29 ?_
  refine lv_iand hx hb dJ6_bitCount_0f7a4_32 ?_
  refine lv_istore_n (lv' := [(0, .int (((((x0 - (((x0.toUInt32 >>> ((1 : Int32).toUInt32 &&& Int32.toUInt32 31)).toInt32) &&& 1431655765)) &&& 858993459) + ((((x0 - (((x0.toUInt32 >>> ((1 : Int32).toUInt32 &&& Int32.toUInt32 31)).toInt32) &&& 1431655765)).toUInt32 >>> ((2 : Int32).toUInt32 &&& Int32.toUInt32 31)).toInt32) &&& 858993459)) + (((((x0 - (((x0.toUInt32 >>> ((1 : Int32).toUInt32 &&& Int32.toUInt32 31)).toInt32) &&& 1431655765)) &&& 858993459) + ((((x0 - (((x0.toUInt32 >>> ((1 : Int32).toUInt32 &&& Int32.toUInt32 31)).toInt32) &&& 1431655765)).toUInt32 >>> ((2 : Int32).toUInt32 &&& Int32.toUInt32 31)).toInt32) &&& 858993459)).toUInt32 >>> ((4 : Int32).toUInt32 &&& Int32.toUInt32 31)).toInt32)) &&& 252645135))]) hx hb dJ6_bitCount_0f7a4_33 rfl hl (Nat.le_of_ble_eq_true rfl) rfl (fun ls hl => ?_)
  refine lv_iload_n hx hb dJ6_bitCount_0f7a4_34 rfl (lv_at hl 0 rfl) ?_
  refine lv_iload_n hx hb dJ6_bitCount_0f7a4_35 rfl (lv_at hl 0 rfl) ?_
  refine lv_bipush (v := 8) hx hb dJ6_bitCount_0f7a4_36 (by decide) ?_
  refine lv_iushr (v := (((((((x0 - (((x0.toUInt32 >>> ((1 : Int32).toUInt32 &&& Int32.toUInt32 31)).toInt32) &&& 1431655765)) &&& 858993459) + ((((x0 - (((x0.toUInt32 >>> ((1 : Int32).toUInt32 &&& Int32.toUInt32 31)).toInt32) &&& 1431655765)).toUInt32 >>> ((2 : Int32).toUInt32 &&& Int32.toUInt32 31)).toInt32) &&& 858993459)) + (((((x0 - (((x0.toUInt32 >>> ((1 : Int32).toUInt32 &&& Int32.toUInt32 31)).toInt32) &&& 1431655765)) &&& 858993459) + ((((x0 - (((x0.toUInt32 >>> ((1 : Int32).toUInt32 &&& Int32.toUInt32 31)).toInt32) &&& 1431655765)).toUInt32 >>> ((2 : Int32).toUInt32 &&& Int32.toUInt32 31)).toInt32) &&& 858993459)).toUInt32 >>> ((4 : Int32).toUInt32 &&& Int32.toUInt32 31)).toInt32)) &&& 252645135).toUInt32 >>> ((8 : Int32).toUInt32 &&& Int32.toUInt32 31)).toInt32)) hx hb dJ6_bitCount_0f7a4_38 rfl ?_
  refine lv_iadd hx hb dJ6_bitCount_0f7a4_39 ?_
  refine lv_istore_n (lv' := [(0, .int ((((((x0 - (((x0.toUInt32 >>> ((1 : Int32).toUInt32 &&& Int32.toUInt32 31)).toInt32) &&& 1431655765)) &&& 858993459) + ((((x0 - (((x0.toUInt32 >>> ((1 : Int32).toUInt32 &&& Int32.toUInt32 31)).toInt32) &&& 1431655765)).toUInt32 >>> ((2 : Int32).toUInt32 &&& Int32.toUInt32 31)).toInt32) &&& 858993459)) + (((((x0 - (((x0.toUInt32 >>> ((1 : Int32).toUInt32 &&& Int32.toUInt32 31)).toInt32) &&& 1431655765)) &&& 858993459) + ((((x0 - (((x0.toUInt32 >>> ((1 : Int32).toUInt32 &&& Int32.toUInt32 31)).toInt32) &&& 1431655765)).toUInt32 >>> ((2 : Int32).toUInt32 &&& Int32.toUInt32 31)).toInt32) &&& 858993459)).toUInt32 >>> ((4 : Int32).toUInt32 &&& Int32.toUInt32 31)).toInt32)) &&& 252645135) + (((((((x0 - (((x0.toUInt32 >>> ((1 : Int32).toUInt32 &&& Int32.toUInt32 31)).toInt32) &&& 1431655765)) &&& 858993459) + ((((x0 - (((x0.toUInt32 >>> ((1 : Int32).toUInt32 &&& Int32.toUInt32 31)).toInt32) &&& 1431655765)).toUInt32 >>> ((2 : Int32).toUInt32 &&& Int32.toUInt32 31)).toInt32) &&& 858993459)) + (((((x0 - (((x0.toUInt32 >>> ((1 : Int32).toUInt32 &&& Int32.toUInt32 31)).toInt32) &&& 1431655765)) &&& 858993459) + ((((x0 - (((x0.toUInt32 >>> ((1 : Int32).toUInt32 &&& Int32.toUInt32 31)).toInt32) &&& 1431655765)).toUInt32 >>> ((2 : Int32).toUInt32 &&& Int32.toUInt32 31)).toInt32) &&& 858993459)).toUInt32 >>> ((4 : Int32).toUInt32 &&& Int32.toUInt32 31)).toInt32)) &&& 252645135).toUInt32 >>> ((8 : Int32).toUInt32 &&& Int32.toUInt32 31)).toInt32)))]) hx hb dJ6_bitCount_0f7a4_40 rfl hl (Nat.le_of_ble_eq_true rfl) rfl (fun ls hl => ?_)
  refine lv_iload_n hx hb dJ6_bitCount_0f7a4_41 rfl (lv_at hl 0 rfl) ?_
  refine lv_iload_n hx hb dJ6_bitCount_0f7a4_42 rfl (lv_at hl 0 rfl) ?_
  refine lv_bipush (v := 16) hx hb dJ6_bitCount_0f7a4_43 (by decide) ?_
  refine lv_iushr (v := ((((((((x0 - (((x0.toUInt32 >>> ((1 : Int32).toUInt32 &&& Int32.toUInt32 31)).toInt32) &&& 1431655765)) &&& 858993459) + ((((x0 - (((x0.toUInt32 >>> ((1 : Int32).toUInt32 &&& Int32.toUInt32 31)).toInt32) &&& 1431655765)).toUInt32 >>> ((2 : Int32).toUInt32 &&& Int32.toUInt32 31)).toInt32) &&& 858993459)) + (((((x0 - (((x0.toUInt32 >>> ((1 : Int32).toUInt32 &&& Int32.toUInt32 31)).toInt32) &&& 1431655765)) &&& 858993459) + ((((x0 - (((x0.toUInt32 >>> ((1 : Int32).toUInt32 &&& Int32.toUInt32 31)).toInt32) &&& 1431655765)).toUInt32 >>> ((2 : Int32).toUInt32 &&& Int32.toUInt32 31)).toInt32) &&& 858993459)).toUInt32 >>> ((4 : Int32).toUInt32 &&& Int32.toUInt32 31)).toInt32)) &&& 252645135) + (((((((x0 - (((x0.toUInt32 >>> ((1 : Int32).toUInt32 &&& Int32.toUInt32 31)).toInt32) &&& 1431655765)) &&& 858993459) + ((((x0 - (((x0.toUInt32 >>> ((1 : Int32).toUInt32 &&& Int32.toUInt32 31)).toInt32) &&& 1431655765)).toUInt32 >>> ((2 : Int32).toUInt32 &&& Int32.toUInt32 31)).toInt32) &&& 858993459)) + (((((x0 - (((x0.toUInt32 >>> ((1 : Int32).toUInt32 &&& Int32.toUInt32 31)).toInt32) &&& 1431655765)) &&& 858993459) + ((((x0 - (((x0.toUInt32 >>> ((1 : Int32).toUInt32 &&& Int32.toUInt32 31)).toInt32) &&& 1431655765)).toUInt32 >>> ((2 : Int32).toUInt32 &&& Int32.toUInt32 31)).toInt32) &&& 858993459)).toUInt32 >>> ((4 : Int32).toUInt32 &&& Int32.toUInt32 31)).toInt32)) &&& 252645135).toUInt32 >>> ((8 : Int32).toUInt32 &&& Int32.toUInt32 31)).toInt32)).toUInt32 >>> ((16 : Int32).toUInt32 &&& Int32.toUInt32 31)).toInt32)) hx hb dJ6_bitCount_0f7a4_45 rfl ?_
  refine lv_iadd hx hb dJ6_bitCount_0f7a4_46 ?_
  refine lv_istore_n (lv' := [(0, .int (((((((x0 - (((x0.toUInt32 >>> ((1 : Int32).toUInt32 &&& Int32.toUInt32 31)).toInt32) &&& 1431655765)) &&& 858993459) + ((((x0 - (((x0.toUInt32 >>> ((1 : Int32).toUInt32 &&& Int32.toUInt32 31)).toInt32) &&& 1431655765)).toUInt32 >>> ((2 : Int32).toUInt32 &&& Int32.toUInt32 31)).toInt32) &&& 858993459)) + (((((x0 - (((x0.toUInt32 >>> ((1 : Int32).toUInt32 &&& Int32.toUInt32 31)).toInt32) &&& 1431655765)) &&& 858993459) + ((((x0 - (((x0.toUInt32 >>> ((1 : Int32).toUInt32 &&& Int32.toUInt32 31)).toInt32) &&& 1431655765)).toUInt32 >>> ((2 : Int32).toUInt32 &&& Int32.toUInt32 31)).toInt32) &&& 858993459)).toUInt32 >>> ((4 : Int32).toUInt32 &&& Int32.toUInt32 31)).toInt32)) &&& 252645135) + (((((((x0 - (((x0.toUInt32 >>> ((1 : Int32).toUInt32 &&& Int32.toUInt32 31)).toInt32) &&& 1431655765)) &&& 858993459) + ((((x0 - (((x0.toUInt32 >>> ((1 : Int32).toUInt32 &&& Int32.toUInt32 31)).toInt32) &&& 1431655765)).toUInt32 >>> ((2 : Int32).toUInt32 &&& Int32.toUInt32 31)).toInt32) &&& 858993459)) + (((((x0 - (((x0.toUInt32 >>> ((1 : Int32).toUInt32 &&& Int32.toUInt32 31)).toInt32) &&& 1431655765)) &&& 858993459) + ((((x0 - (((x0.toUInt32 >>> ((1 : Int32).toUInt32 &&& Int32.toUInt32 31)).toInt32) &&& 1431655765)).toUInt32 >>> ((2 : Int32).toUInt32 &&& Int32.toUInt32 31)).toInt32) &&& 858993459)).toUInt32 >>> ((4 : Int32).toUInt32 &&& Int32.toUInt32 31)).toInt32)) &&& 252645135).toUInt32 >>> ((8 : Int32).toUInt32 &&& Int32.toUInt32 31)).toInt32)) + ((((((((x0 - (((x0.toUInt32 >>> ((1 : Int32).toUInt32 &&& Int32.toUInt32 31)).toInt32) &&& 1431655765)) &&& 858993459) + ((((x0 - (((x0.toUInt32 >>> ((1 : Int32).toUInt32 &&& Int32.toUInt32 31)).toInt32) &&& 1431655765)).toUInt32 >>> ((2 : Int32).toUInt32 &&& Int32.toUInt32 31)).toInt32) &&& 858993459)) + (((((x0 - (((x0.toUInt32 >>> ((1 : Int32).toUInt32 &&& Int32.toUInt32 31)).toInt32) &&& 1431655765)) &&& 858993459) + ((((x0 - (((x0.toUInt32 >>> ((1 : Int32).toUInt32 &&& Int32.toUInt32 31)).toInt32) &&& 1431655765)).toUInt32 >>> ((2 : Int32).toUInt32 &&& Int32.toUInt32 31)).toInt32) &&& 858993459)).toUInt32 >>> ((4 : Int32).toUInt32 &&& Int32.toUInt32 31)).toInt32)) &&& 252645135) + (((((((x0 - (((x0.toUInt32 >>> ((1 : Int32).toUInt32 &&& Int32.toUInt32 31)).toInt32) &&& 1431655765)) &&& 858993459) + ((((x0 - (((x0.toUInt32 >>> ((1 : Int32).toUInt32 &&& Int32.toUInt32 31)).toInt32) &&& 1431655765)).toUInt32 >>> ((2 : Int32).toUInt32 &&& Int32.toUInt32 31)).toInt32) &&& 858993459)) + (((((x0 - (((x0.toUInt32 >>> ((1 : Int32).toUInt32 &&& Int32.toUInt32 31)).toInt32) &&& 1431655765)) &&& 858993459) + ((((x0 - (((x0.toUInt32 >>> ((1 : Int32).toUInt32 &&& Int32.toUInt32 31)).toInt32) &&& 1431655765)).toUInt32 >>> ((2 : Int32).toUInt32 &&& Int32.toUInt32 31)).toInt32) &&& 858993459)).toUInt32 >>> ((4 : Int32).toUInt32 &&& Int32.toUInt32 31)).toInt32)) &&& 252645135).toUInt32 >>> ((8 : Int32).toUInt32 &&& Int32.toUInt32 31)).toInt32)).toUInt32 >>> ((16 : Int32).toUInt32 &&& Int32.toUInt32 31)).toInt32)))]) hx hb dJ6_bitCount_0f7a4_47 rfl hl (Nat.le_of_ble_eq_true rfl) rfl (fun ls hl => ?_)
  refine lv_iload_n hx hb dJ6_bitCount_0f7a4_48 rfl (lv_at hl 0 rfl) ?_
  refine lv_bipush (v := 63) hx hb dJ6_bitCount_0f7a4_49 (by decide) ?_
  refine lv_iand hx hb dJ6_bitCount_0f7a4_51 ?_
  exact r_iret hx hb hr hlk hK hG rfl hw dJ6_bitCount_0f7a4_52
def w_X1_hasKeeper (k0 : Nat) (x1 : Int32) (st : St) (K : Int32 → St → Prop) : Prop :=
  (x1 < 0 → K 0 st) ∧ (¬ x1 < 0 → ((st k0 7) ≤ x1 → K 0 st) ∧ (¬ (st k0 7) ≤ x1 → K 1 st))
theorem hd_X1_hasKeeper : yX1_hasKeeper.cls ≠ "java/lang/invoke/MethodHandle" ∧ yX1_hasKeeper.cls ≠ "java/lang/invoke/VarHandle" ∧ (parseMethodDescriptor yX1_hasKeeper.desc).map (fun d => d.parameters.length) = some 1 := by decide +kernel
set_option maxRecDepth 100000 in
set_option maxHeartbeats 4000000 in
theorem c_X1_hasKeeper (l : Launch) (y : Sy) (k0 : Nat) (h0 : isC k0) (x1 : Int32) (st : St) (K : Int32 → St → Prop) (hw : w_X1_hasKeeper k0 x1 st K) : Ci 107 enX l yX1_hasKeeper cX1_hasKeeper 2 (some .boolean) 0 0 y [.ref (ad y k0), .int x1] st K := by
  refine ent (by decide) (Nat.le_of_ble_eq_true rfl) ?_
  intro p e s m below meth c C hG ls hl
  have hl : lv_has ls 2 [(0, .ref (ad y k0)), (1, .int x1)] := hl
  generalize ([.ref (ad y k0), .int x1] : List Value).toArray = args at C ⊢
  have C : Sd p s m args meth c cX1_hasKeeper 2 RX1 (some .boolean) y := C
  obtain ⟨hx, hb, hml, hown, hts, hr, hlk, hK, hN⟩ := id C
  generalize s.heap = H at hG ⊢
  generalize ([] : List Loc) = locs at hG ⊢
  unfold w_X1_hasKeeper at hw
  refine lv_iload_n hx hb dX1_hasKeeper_0 rfl (lv_at hl 1 rfl) ?_
  refine lv_if_lt (tgt := 16) hx hb dX1_hasKeeper_1 (by decide) (fun hc => ?_) (fun hc => ?_)
  · replace hw := hw.1 hc
    refine lv_iconst (v := 0) hx hb dX1_hasKeeper_16 (by decide) ?_
    exact r_iret hx hb hr hlk hK hG rfl hw dX1_hasKeeper_17
  · replace hw := hw.2 hc
    refine lv_iload_n hx hb dX1_hasKeeper_4 rfl (lv_at hl 1 rfl) ?_
    refine lv_aload_n hx hb dX1_hasKeeper_5 rfl (lv_at hl 0 rfl) ?_
    refine r_get (C := RX1) (T := TX1) (Nf := 11) hx hb hts hown hK hG (isC.lt h0) (isC.e h0 y _) rfl inX1 7 (by decide) qF_X1_43 rfl dX1_hasKeeper_6 ?_
    refine lv_icmp_ge (tgt := 16) hx hb dX1_hasKeeper_9 (by decide) (fun hc => ?_) (fun hc => ?_)
    · replace hw := hw.1 hc
      refine lv_iconst (v := 0) hx hb dX1_hasKeeper_16 (by decide) ?_
      exact r_iret hx hb hr hlk hK hG rfl hw dX1_hasKeeper_17
    · replace hw := hw.2 hc
      refine lv_iconst (v := 1) hx hb dX1_hasKeeper_12 (by decide) ?_
      refine lv_goto (tgt := 17) hx hb dX1_hasKeeper_13 (by decide) ?_
      exact r_iret hx hb hr hlk hK hG rfl hw dX1_hasKeeper_17
def w_X8_at (k0 : Nat) (n0 : Nat) (x1 : Int32) (st : St) (K : Int32 → St → Prop) : Prop :=
  (x1 < 0 → K 0 st) ∧ (¬ x1 < 0 → ((nI n0) ≤ x1 → K 0 st) ∧ (¬ (nI n0) ≤ x1 → vp_in x1 n0 ∧ (K (st k0 (x1).toNatClampNeg) st)))
theorem hd_X8_at : yX8_at.cls ≠ "java/lang/invoke/MethodHandle" ∧ yX8_at.cls ≠ "java/lang/invoke/VarHandle" ∧ (parseMethodDescriptor yX8_at.desc).map (fun d => d.parameters.length) = some 2 := by decide +kernel
set_option maxRecDepth 100000 in
set_option maxHeartbeats 4000000 in
theorem c_X8_at (l : Launch) (y : Sy) (k0 : Nat) (n0 : Nat) (h0 : isA k0 n0) (x1 : Int32) (st : St) (K : Int32 → St → Prop) (hw : w_X8_at k0 n0 x1 st K) : Ci 107 enX l yX8_at cX8_at 2 (some .int) 0 0 y [.ref (ad y k0), .int x1] st K := by
  refine ent (by decide) (Nat.le_of_ble_eq_true rfl) ?_
  intro p e s m below meth c C hG ls hl
  have hl : lv_has ls 2 [(0, .ref (ad y k0)), (1, .int x1)] := hl
  generalize ([.ref (ad y k0), .int x1] : List Value).toArray = args at C ⊢
  have C : Sd p s m args meth c cX8_at 2 RX8 (some .int) y := C
  obtain ⟨hx, hb, hml, hown, hts, hr, hlk, hK, hN⟩ := id C
  generalize s.heap = H at hG ⊢
  generalize ([] : List Loc) = locs at hG ⊢
  unfold w_X8_at at hw
  refine lv_aload_n hx hb dX8_at_0 rfl (lv_at hl 0 rfl) ?_
  refine lv_ifnull hx hb dX8_at_1 ?_
  refine lv_iload_n hx hb dX8_at_4 rfl (lv_at hl 1 rfl) ?_
  refine lv_if_lt (tgt := 20) hx hb dX8_at_5 (by decide) (fun hc => ?_) (fun hc => ?_)
  · replace hw := hw.1 hc
    refine lv_iconst (v := 0) hx hb dX8_at_20 (by decide) ?_
    exact r_iret hx hb hr hlk hK hG rfl hw dX8_at_21
  · replace hw := hw.2 hc
    refine lv_iload_n hx hb dX8_at_8 rfl (lv_at hl 1 rfl) ?_
    refine lv_aload_n hx hb dX8_at_9 rfl (lv_at hl 0 rfl) ?_
    refine r_alen (v := (nI n0)) hx hb hK hG (h0).1 ((h0).2 y _) rfl dX8_at_10 ?_
    refine lv_icmp_ge (tgt := 20) hx hb dX8_at_11 (by decide) (fun hc => ?_) (fun hc => ?_)
    · replace hw := hw.1 hc
      refine lv_iconst (v := 0) hx hb dX8_at_20 (by decide) ?_
      exact r_iret hx hb hr hlk hK hG rfl hw dX8_at_21
    · replace hw := hw.2 hc
      refine lv_aload_n hx hb dX8_at_14 rfl (lv_at hl 0 rfl) ?_
      refine lv_iload_n hx hb dX8_at_15 rfl (lv_at hl 1 rfl) ?_
      obtain ⟨hi, hw⟩ := hw
      refine r_iald hx hb hK hG (h0).1 ((h0).2 y _) hi dX8_at_16 ?_
      refine lv_goto (tgt := 21) hx hb dX8_at_17 (by decide) ?_
      exact r_iret hx hb hr hlk hK hG rfl hw dX8_at_21
def w_X8_bit (x0 : Int32) (x1 : Int32) (st : St) (K : Int32 → St → Prop) : Prop :=
  (x1 < 0 → K 0 st) ∧ (¬ x1 < 0 → (31 ≤ x1 → K 0 st) ∧ (¬ 31 ≤ x1 → K ((x0 >>> (x1 &&& 31)) &&& 1) st))
theorem hd_X8_bit : yX8_bit.cls ≠ "java/lang/invoke/MethodHandle" ∧ yX8_bit.cls ≠ "java/lang/invoke/VarHandle" ∧ (parseMethodDescriptor yX8_bit.desc).map (fun d => d.parameters.length) = some 2 := by decide +kernel
set_option maxRecDepth 100000 in
set_option maxHeartbeats 4000000 in
theorem c_X8_bit (l : Launch) (y : Sy) (x0 : Int32) (x1 : Int32) (st : St) (K : Int32 → St → Prop) (hw : w_X8_bit x0 x1 st K) : Ci 107 enX l yX8_bit cX8_bit 2 (some .int) 0 0 y [.int x0, .int x1] st K := by
  refine ent (by decide) (Nat.le_of_ble_eq_true rfl) ?_
  intro p e s m below meth c C hG ls hl
  have hl : lv_has ls 2 [(0, .int x0), (1, .int x1)] := hl
  generalize ([.int x0, .int x1] : List Value).toArray = args at C ⊢
  have C : Sd p s m args meth c cX8_bit 2 RX8 (some .int) y := C
  obtain ⟨hx, hb, hml, hown, hts, hr, hlk, hK, hN⟩ := id C
  generalize s.heap = H at hG ⊢
  generalize ([] : List Loc) = locs at hG ⊢
  unfold w_X8_bit at hw
  refine lv_iload_n hx hb dX8_bit_0 rfl (lv_at hl 1 rfl) ?_
  refine lv_if_lt (tgt := 18) hx hb dX8_bit_1 (by decide) (fun hc => ?_) (fun hc => ?_)
  · replace hw := hw.1 hc
    refine lv_iconst (v := 0) hx hb dX8_bit_18 (by decide) ?_
    exact r_iret hx hb hr hlk hK hG rfl hw dX8_bit_19
  · replace hw := hw.2 hc
    refine lv_iload_n hx hb dX8_bit_4 rfl (lv_at hl 1 rfl) ?_
    refine lv_bipush (v := 31) hx hb dX8_bit_5 (by decide) ?_
    refine lv_icmp_ge (tgt := 18) hx hb dX8_bit_7 (by decide) (fun hc => ?_) (fun hc => ?_)
    · replace hw := hw.1 hc
      refine lv_iconst (v := 0) hx hb dX8_bit_18 (by decide) ?_
      exact r_iret hx hb hr hlk hK hG rfl hw dX8_bit_19
    · replace hw := hw.2 hc
      refine lv_iload_n hx hb dX8_bit_10 rfl (lv_at hl 0 rfl) ?_
      refine lv_iload_n hx hb dX8_bit_11 rfl (lv_at hl 1 rfl) ?_
      refine lv_ishr hx hb dX8_bit_12 ?_
      refine lv_iconst (v := 1) hx hb dX8_bit_13 (by decide) ?_
      refine lv_iand hx hb dX8_bit_14 ?_
      refine lv_goto (tgt := 19) hx hb dX8_bit_15 (by decide) ?_
      exact r_iret hx hb hr hlk hK hG rfl hw dX8_bit_19
def w_X1_isOpen (k0 : Nat) (x1 : Int32) (st : St) (K : Int32 → St → Prop) : Prop :=
  w_X8_bit (st k0 9) x1 st (fun r5 st5 => (¬ r5 = 1 → K 0 st5) ∧ (r5 = 1 → K 1 st5))
theorem hd_X1_isOpen : yX1_isOpen.cls ≠ "java/lang/invoke/MethodHandle" ∧ yX1_isOpen.cls ≠ "java/lang/invoke/VarHandle" ∧ (parseMethodDescriptor yX1_isOpen.desc).map (fun d => d.parameters.length) = some 1 := by decide +kernel
set_option maxRecDepth 100000 in
set_option maxHeartbeats 4000000 in
theorem c_X1_isOpen (l : Launch) (y : Sy) (k0 : Nat) (h0 : isC k0) (x1 : Int32) (st : St) (K : Int32 → St → Prop) (hw : w_X1_isOpen k0 x1 st K) : Ci 107 enX l yX1_isOpen cX1_isOpen 2 (some .boolean) 1 21 y [.ref (ad y k0), .int x1] st K := by
  refine ent (by decide) (Nat.le_of_ble_eq_true rfl) ?_
  intro p e s m below meth c C hG ls hl
  have hl : lv_has ls 2 [(0, .ref (ad y k0)), (1, .int x1)] := hl
  generalize ([.ref (ad y k0), .int x1] : List Value).toArray = args at C ⊢
  have C : Sd p s m args meth c cX1_isOpen 2 RX1 (some .boolean) y := C
  obtain ⟨hx, hb, hml, hown, hts, hr, hlk, hK, hN⟩ := id C
  generalize s.heap = H at hG ⊢
  generalize ([] : List Loc) = locs at hG ⊢
  unfold w_X1_isOpen at hw
  refine lv_aload_n hx hb dX1_isOpen_0 rfl (lv_at hl 0 rfl) ?_
  refine r_get (C := RX1) (T := TX1) (Nf := 11) hx hb hts hown hK hG (isC.lt h0) (isC.e h0 y _) rfl inX1 9 (by decide) qF_X1_50 rfl dX1_isOpen_1 ?_
  refine lv_iload_n hx hb dX1_isOpen_4 rfl (lv_at hl 1 rfl) ?_
  refine r_ki (r_run_N (As := [.int (st k0 9), .int x1]) (rest := []) hx hb hml hown hts hK hN hG (c_X8_bit l y (st k0 9) x1 st _ hw) qM_X1_82 qT_X8_bit qN_X8 qC_X8_bit hd_X8_bit ⟨Nat.le_of_ble_eq_true rfl, Nat.le_of_ble_eq_true rfl⟩ hl.1 rfl (Nat.le_of_ble_eq_true rfl) dX1_isOpen_5) hG (fun r5 st5 H locs hw hG => ?_)
  refine lv_iconst (v := 1) hx hb dX1_isOpen_8 (by decide) ?_
  refine lv_icmp_ne (tgt := 16) hx hb dX1_isOpen_9 (by decide) (fun hc => ?_) (fun hc => ?_)
  · replace hw := hw.1 hc
    refine lv_iconst (v := 0) hx hb dX1_isOpen_16 (by decide) ?_
    exact r_iret hx hb hr hlk hK hG rfl hw dX1_isOpen_17
  · replace hw := hw.2 hc
    refine lv_iconst (v := 1) hx hb dX1_isOpen_12 (by decide) ?_
    refine lv_goto (tgt := 17) hx hb dX1_isOpen_13 (by decide) ?_
    exact r_iret hx hb hr hlk hK hG rfl hw dX1_isOpen_17
def w_X1_hateOf (k0 : Nat) (x1 : Int32) (x2 : Int32) (st : St) (K : Int32 → St → Prop) : Prop :=
  w_X8_at (k0 + 4) 36 (((if x2 < x1 then x2 else x1) * 6) + (if x1 < x2 then x2 else x1)) st (fun r18 st18 => K r18 st18)
theorem hd_X1_hateOf : yX1_hateOf.cls ≠ "java/lang/invoke/MethodHandle" ∧ yX1_hateOf.cls ≠ "java/lang/invoke/VarHandle" ∧ (parseMethodDescriptor yX1_hateOf.desc).map (fun d => d.parameters.length) = some 2 := by decide +kernel
set_option maxRecDepth 100000 in
set_option maxHeartbeats 4000000 in
theorem c_X1_hateOf (l : Launch) (y : Sy) (k0 : Nat) (h0 : isC k0) (x1 : Int32) (x2 : Int32) (st : St) (K : Int32 → St → Prop) (hw : w_X1_hateOf k0 x1 x2 st K) : Ci 107 enX l yX1_hateOf cX1_hateOf 3 (some .int) 1 21 y [.ref (ad y k0), .int x1, .int x2] st K := by
  refine ent (by decide) (Nat.le_of_ble_eq_true rfl) ?_
  intro p e s m below meth c C hG ls hl
  have hl : lv_has ls 3 [(0, .ref (ad y k0)), (1, .int x1), (2, .int x2)] := hl
  generalize ([.ref (ad y k0), .int x1, .int x2] : List Value).toArray = args at C ⊢
  have C : Sd p s m args meth c cX1_hateOf 3 RX1 (some .int) y := C
  obtain ⟨hx, hb, hml, hown, hts, hr, hlk, hK, hN⟩ := id C
  generalize s.heap = H at hG ⊢
  generalize ([] : List Loc) = locs at hG ⊢
  unfold w_X1_hateOf at hw
  refine lv_aload_n hx hb dX1_hateOf_0 rfl (lv_at hl 0 rfl) ?_
  refine r_get (C := RX1) (T := TX1) (Nf := 11) hx hb hts hown hK hG (isC.lt h0) (isC.e h0 y _) rfl inX1 3 (by decide) qF_X1_21 rfl dX1_hateOf_1 ?_
  refine lv_iload_n hx hb dX1_hateOf_4 rfl (lv_at hl 1 rfl) ?_
  refine lv_iload_n hx hb dX1_hateOf_5 rfl (lv_at hl 2 rfl) ?_
  refine va_mmin hx hb (hml.trans hl.1.symm) hown (hts _ qM_X1_85) (hts _ qT_Lib_Math_min_name) (hts _ qN_J9) (hts _ qC_Lib_Math_min_name) (Nat.le_of_ble_eq_true rfl) (Nat.le_of_ble_eq_true rfl) (Nat.zero_le _) (Nat.zero_le _) dX1_hateOf_6 ?_
  refine lv_bipush (v := 6) hx hb dX1_hateOf_9 (by decide) ?_
  refine lv_imul hx hb dX1_hateOf_11 ?_
  refine lv_iload_n hx hb dX1_hateOf_12 rfl (lv_at hl 1 rfl) ?_
  refine lv_iload_n hx hb dX1_hateOf_13 rfl (lv_at hl 2 rfl) ?_
  refine va_mmax hx hb (hml.trans hl.1.symm) hown (hts _ qM_X1_90) (hts _ qT_Lib_Math_max_name) (hts _ qN_J9) (hts _ qC_Lib_Math_max_name) (Nat.le_of_ble_eq_true rfl) (Nat.le_of_ble_eq_true rfl) (Nat.zero_le _) (Nat.zero_le _) dX1_hateOf_14 ?_
  refine lv_iadd hx hb dX1_hateOf_17 ?_
  refine r_ki (r_run_N (As := [.ref (ad y (k0 + 4)), .int (((if x2 < x1 then x2 else x1) * 6) + (if x1 < x2 then x2 else x1))]) (rest := []) hx hb hml hown hts hK hN hG (c_X8_at l y (k0 + 4) 36 (isC.a4 h0) (((if x2 < x1 then x2 else x1) * 6) + (if x1 < x2 then x2 else x1)) st _ hw) qM_X1_66 qT_X8_at qN_X8 qC_X8_at hd_X8_at ⟨Nat.le_of_ble_eq_true rfl, Nat.le_of_ble_eq_true rfl⟩ hl.1 rfl (Nat.le_of_ble_eq_true rfl) dX1_hateOf_18) hG (fun r18 st18 H locs hw hG => ?_)
  exact r_iret hx hb hr hlk hK hG rfl hw dX1_hateOf_21
def w_X1_allHate_b39 (k0 : Nat) (c4 : Int32 → Int32 → St → Prop) (K : Int32 → St → Prop) (v1 : Int32) (v2 : Int32) (st : St) : Prop :=
  c4 v1 (v2 + 1) st
set_option maxRecDepth 100000 in
set_option maxHeartbeats 4000000 in
theorem z_X1_allHate_b39 {p : Program} {e : Env} {s : State} {m : MethodId} {args : Array Value} {below : List Frame} {meth : Method} {c : Code} (l : Launch) (y : Sy) (k0 : Nat) (h0 : isC k0) (C : Sd p s m args meth c cX1_allHate 4 RX1 (some .int) y) (c4 : Int32 → Int32 → St → Prop) (K : Int32 → St → Prop) (hc4 : ∀ (v1 : Int32) (v2 : Int32) (st : St) (H : Heap) (locs : List Loc) (ls : Array Slot), gH 107 enX y st s H locs → lv_has ls 4 [(0, .ref (ad y k0)), (1, .int v1), (2, .int v2)] → c4 v1 v2 st → W p l e (rmm 2 43) s m args below meth c H locs 0 0 (MQ below (va_Qi K (gB 107 enX y) (gA 107 y)) args s 0 0 (gA 107 y)) (F0 m 4 ls [])) (v1 : Int32) (v2 : Int32) (st : St) {H : Heap} {locs : List Loc} {ls : Array Slot} (hG : gH 107 enX y st s H locs) (hl : lv_has ls 4 [(0, .ref (ad y k0)), (1, .int v1), (2, .int v2)]) (hw : w_X1_allHate_b39 k0 c4 K v1 v2 st) : W p l e (rmm 2 43) s m args below meth c H locs 0 0 (MQ below (va_Qi K (gB 107 enX y) (gA 107 y)) args s 0 0 (gA 107 y)) (F0 m 39 ls []) := by
  obtain ⟨hx, hb, hml, hown, hts, hr, hlk, hK, hN⟩ := id C
  unfold w_X1_allHate_b39 at hw
  refine lv_iinc (v := (v2 + 1)) (lv' := [(2, .int (v2 + 1)), (0, .ref (ad y k0)), (1, .int v1)]) hx hb dX1_allHate_39 hl (k := 2) rfl rfl (Nat.le_of_ble_eq_true rfl) rfl (fun ls hl => ?_)
  refine lv_goto (tgt := 4) hx hb dX1_allHate_42 (by decide) ?_
  exact hc4 v1 (v2 + 1) st H locs _ hG (lv_sub hl [1, 2, 0] rfl) hw
def w_X1_allHate_L16q (k0 : Nat) (c4 : Int32 → Int32 → St → Prop) (K : Int32 → St → Prop) (c16 : Int32 → Int32 → Int32 → St → Prop) (v1 : Int32) (v2 : Int32) (v3 : Int32) (st : St) : Prop :=
  ((st k0 7) ≤ v3 → w_X1_allHate_b39 k0 c4 K v1 v2 st) ∧ (¬ (st k0 7) ≤ v3 → w_X1_hateOf k0 v2 v3 st (fun r28 st28 => c16 (v1 + r28) v2 (v3 + 1) st28))
def w_X1_allHate_L16 (k0 : Nat) (c4 : Int32 → Int32 → St → Prop) (K : Int32 → St → Prop) : Nat → Int32 → Int32 → Int32 → St → Prop
  | 0, _, _, _, _ => False
  | n + 1, v1, v2, v3, st => w_X1_allHate_L16q k0 c4 K (fun v1 v2 v3 st => w_X1_allHate_L16 k0 c4 K n v1 v2 v3 st) v1 v2 v3 st
set_option maxRecDepth 100000 in
set_option maxHeartbeats 4000000 in
theorem z_X1_allHate_L16 {p : Program} {e : Env} {s : State} {m : MethodId} {args : Array Value} {below : List Frame} {meth : Method} {c : Code} (l : Launch) (y : Sy) (k0 : Nat) (h0 : isC k0) (C : Sd p s m args meth c cX1_allHate 4 RX1 (some .int) y) (c4 : Int32 → Int32 → St → Prop) (K : Int32 → St → Prop) (hc4 : ∀ (v1 : Int32) (v2 : Int32) (st : St) (H : Heap) (locs : List Loc) (ls : Array Slot), gH 107 enX y st s H locs → lv_has ls 4 [(0, .ref (ad y k0)), (1, .int v1), (2, .int v2)] → c4 v1 v2 st → W p l e (rmm 2 43) s m args below meth c H locs 0 0 (MQ below (va_Qi K (gB 107 enX y) (gA 107 y)) args s 0 0 (gA 107 y)) (F0 m 4 ls [])) : ∀ (n : Nat) (v1 : Int32) (v2 : Int32) (v3 : Int32) (st : St) (H : Heap) (locs : List Loc) (ls : Array Slot), gH 107 enX y st s H locs → lv_has ls 4 [(0, .ref (ad y k0)), (1, .int v1), (2, .int v2), (3, .int v3)] → w_X1_allHate_L16 k0 c4 K n v1 v2 v3 st → W p l e (rmm 2 43) s m args below meth c H locs 0 0 (MQ below (va_Qi K (gB 107 enX y) (gA 107 y)) args s 0 0 (gA 107 y)) (F0 m 16 ls []) := by
  obtain ⟨hx, hb, hml, hown, hts, hr, hlk, hK, hN⟩ := id C
  intro n
  induction n with
  | zero => intro v1 v2 v3 st H locs ls hG hl hw; exact False.elim hw
  | succ n hc16 =>
    intro v1 v2 v3 st H locs ls hG hl hw
    have hw : w_X1_allHate_L16q k0 c4 K (fun v1 v2 v3 st => w_X1_allHate_L16 k0 c4 K n v1 v2 v3 st) v1 v2 v3 st := hw
    unfold w_X1_allHate_L16q at hw
    refine lv_iload_n hx hb dX1_allHate_16 rfl (lv_at hl 3 rfl) ?_
    refine lv_aload_n hx hb dX1_allHate_17 rfl (lv_at hl 0 rfl) ?_
    refine r_get (C := RX1) (T := TX1) (Nf := 11) hx hb hts hown hK hG (isC.lt h0) (isC.e h0 y _) rfl inX1 7 (by decide) qF_X1_43 rfl dX1_allHate_18 ?_
    refine lv_icmp_ge (tgt := 39) hx hb dX1_allHate_21 (by decide) (fun hc => ?_) (fun hc => ?_)
    · replace hw := hw.1 hc
      exact z_X1_allHate_b39 l y k0 h0 C c4 K hc4 v1 v2 st hG (lv_sub hl [0, 1, 2] rfl) hw
    · replace hw := hw.2 hc
      refine lv_iload_n hx hb dX1_allHate_24 rfl (lv_at hl 1 rfl) ?_
      refine lv_aload_n hx hb dX1_allHate_25 rfl (lv_at hl 0 rfl) ?_
      refine lv_iload_n hx hb dX1_allHate_26 rfl (lv_at hl 2 rfl) ?_
      refine lv_iload_n hx hb dX1_allHate_27 rfl (lv_at hl 3 rfl) ?_
      refine r_ki (r_run_V (k := k0) (As := [.int v2, .int v3]) (rest := [.int v1]) hx hb hml hown hts hK hN hG (c_X1_hateOf l y k0 h0 v2 v3 st _ hw) (isC.lt h0) (isC.e h0 y _) rfl rfl qM_X1_93 qI_X1_hateOf qS_X1_hateOf qN_X1 qC_X1_hateOf hd_X1_hateOf ⟨Nat.le_of_ble_eq_true rfl, Nat.le_of_ble_eq_true rfl⟩ hl.1 rfl (Nat.le_of_ble_eq_true rfl) dX1_allHate_28) hG (fun r28 st28 H locs hw hG => ?_)
      refine lv_iadd hx hb dX1_allHate_31 ?_
      refine lv_istore_n (lv' := [(1, .int (v1 + r28)), (0, .ref (ad y k0)), (2, .int v2), (3, .int v3)]) hx hb dX1_allHate_32 rfl hl (Nat.le_of_ble_eq_true rfl) rfl (fun ls hl => ?_)
      refine lv_iinc (v := (v3 + 1)) (lv' := [(3, .int (v3 + 1)), (1, .int (v1 + r28)), (0, .ref (ad y k0)), (2, .int v2)]) hx hb dX1_allHate_33 hl (k := 3) rfl rfl (Nat.le_of_ble_eq_true rfl) rfl (fun ls hl => ?_)
      refine lv_goto (tgt := 16) hx hb dX1_allHate_36 (by decide) ?_
      exact hc16 (v1 + r28) v2 (v3 + 1) st28 H locs _ hG (lv_sub hl [2, 1, 3, 0] rfl) hw
def w_X1_allHate_L4q (k0 : Nat)  (K : Int32 → St → Prop) (c4 : Int32 → Int32 → St → Prop) (v1 : Int32) (v2 : Int32) (st : St) : Prop :=
  ((st k0 7) ≤ v2 → K v1 st) ∧ (¬ (st k0 7) ≤ v2 → ∃ n, w_X1_allHate_L16 k0 c4 K n v1 v2 (v2 + 1) st)
def w_X1_allHate_L4 (k0 : Nat)  (K : Int32 → St → Prop) : Nat → Int32 → Int32 → St → Prop
  | 0, _, _, _ => False
  | n + 1, v1, v2, st => w_X1_allHate_L4q k0  K (fun v1 v2 st => w_X1_allHate_L4 k0  K n v1 v2 st) v1 v2 st
set_option maxRecDepth 100000 in
set_option maxHeartbeats 4000000 in
theorem z_X1_allHate_L4 {p : Program} {e : Env} {s : State} {m : MethodId} {args : Array Value} {below : List Frame} {meth : Method} {c : Code} (l : Launch) (y : Sy) (k0 : Nat) (h0 : isC k0) (C : Sd p s m args meth c cX1_allHate 4 RX1 (some .int) y)  (K : Int32 → St → Prop)  : ∀ (n : Nat) (v1 : Int32) (v2 : Int32) (st : St) (H : Heap) (locs : List Loc) (ls : Array Slot), gH 107 enX y st s H locs → lv_has ls 4 [(0, .ref (ad y k0)), (1, .int v1), (2, .int v2)] → w_X1_allHate_L4 k0  K n v1 v2 st → W p l e (rmm 2 43) s m args below meth c H locs 0 0 (MQ below (va_Qi K (gB 107 enX y) (gA 107 y)) args s 0 0 (gA 107 y)) (F0 m 4 ls []) := by
  obtain ⟨hx, hb, hml, hown, hts, hr, hlk, hK, hN⟩ := id C
  intro n
  induction n with
  | zero => intro v1 v2 st H locs ls hG hl hw; exact False.elim hw
  | succ n hc4 =>
    intro v1 v2 st H locs ls hG hl hw
    have hw : w_X1_allHate_L4q k0  K (fun v1 v2 st => w_X1_allHate_L4 k0  K n v1 v2 st) v1 v2 st := hw
    unfold w_X1_allHate_L4q at hw
    refine lv_iload_n hx hb dX1_allHate_4 rfl (lv_at hl 2 rfl) ?_
    refine lv_aload_n hx hb dX1_allHate_5 rfl (lv_at hl 0 rfl) ?_
    refine r_get (C := RX1) (T := TX1) (Nf := 11) hx hb hts hown hK hG (isC.lt h0) (isC.e h0 y _) rfl inX1 7 (by decide) qF_X1_43 rfl dX1_allHate_6 ?_
    refine lv_icmp_ge (tgt := 45) hx hb dX1_allHate_9 (by decide) (fun hc => ?_) (fun hc => ?_)
    · replace hw := hw.1 hc
      refine lv_iload_n hx hb dX1_allHate_45 rfl (lv_at hl 1 rfl) ?_
      exact r_iret hx hb hr hlk hK hG rfl hw dX1_allHate_46
    · replace hw := hw.2 hc
      refine lv_iload_n hx hb dX1_allHate_12 rfl (lv_at hl 2 rfl) ?_
      refine lv_iconst (v := 1) hx hb dX1_allHate_13 (by decide) ?_
      refine lv_iadd hx hb dX1_allHate_14 ?_
      refine lv_istore_n (lv' := [(3, .int (v2 + 1)), (0, .ref (ad y k0)), (1, .int v1), (2, .int v2)]) hx hb dX1_allHate_15 rfl hl (Nat.le_of_ble_eq_true rfl) rfl (fun ls hl => ?_)
      obtain ⟨n, hw⟩ := hw
      exact z_X1_allHate_L16 l y k0 h0 C (fun v1 v2 st => w_X1_allHate_L4 k0  K n v1 v2 st) K hc4 n v1 v2 (v2 + 1) st H locs _ hG (lv_sub hl [1, 2, 3, 0] rfl) hw
def w_X1_allHate (k0 : Nat) (st : St) (K : Int32 → St → Prop) : Prop :=
  ∃ n, w_X1_allHate_L4 k0  K n 0 0 st
theorem hd_X1_allHate : yX1_allHate.cls ≠ "java/lang/invoke/MethodHandle" ∧ yX1_allHate.cls ≠ "java/lang/invoke/VarHandle" ∧ (parseMethodDescriptor yX1_allHate.desc).map (fun d => d.parameters.length) = some 0 := by decide +kernel
set_option maxRecDepth 100000 in
set_option maxHeartbeats 4000000 in
theorem c_X1_allHate (l : Launch) (y : Sy) (k0 : Nat) (h0 : isC k0) (st : St) (K : Int32 → St → Prop) (hw : w_X1_allHate k0 st K) : Ci 107 enX l yX1_allHate cX1_allHate 4 (some .int) 2 43 y [.ref (ad y k0)] st K := by
  refine ent (by decide) (Nat.le_of_ble_eq_true rfl) ?_
  intro p e s m below meth c C hG ls hl
  have hl : lv_has ls 4 [(0, .ref (ad y k0))] := hl
  generalize ([.ref (ad y k0)] : List Value).toArray = args at C ⊢
  have C : Sd p s m args meth c cX1_allHate 4 RX1 (some .int) y := C
  obtain ⟨hx, hb, hml, hown, hts, hr, hlk, hK, hN⟩ := id C
  generalize s.heap = H at hG ⊢
  generalize ([] : List Loc) = locs at hG ⊢
  unfold w_X1_allHate at hw
  refine lv_iconst (v := 0) hx hb dX1_allHate_0 (by decide) ?_
  refine lv_istore_n (lv' := [(1, .int 0), (0, .ref (ad y k0))]) hx hb dX1_allHate_1 rfl hl (Nat.le_of_ble_eq_true rfl) rfl (fun ls hl => ?_)
  refine lv_iconst (v := 0) hx hb dX1_allHate_2 (by decide) ?_
  refine lv_istore_n (lv' := [(2, .int 0), (1, .int 0), (0, .ref (ad y k0))]) hx hb dX1_allHate_3 rfl hl (Nat.le_of_ble_eq_true rfl) rfl (fun ls hl => ?_)
  obtain ⟨n, hw⟩ := hw
  exact z_X1_allHate_L4 l y k0 h0 C  K  n 0 0 st H locs _ hG (lv_sub hl [2, 1, 0] rfl) hw
def w_X8_put (k0 : Nat) (n0 : Nat) (x1 : Int32) (x2 : Int32) (st : St) (K : St → Prop) : Prop :=
  (x1 < 0 → K st) ∧ (¬ x1 < 0 → ((nI n0) ≤ x1 → K st) ∧ (¬ (nI n0) ≤ x1 → vp_in x1 n0 ∧ (K (u2 st k0 (x1).toNatClampNeg x2))))
theorem hd_X8_put : yX8_put.cls ≠ "java/lang/invoke/MethodHandle" ∧ yX8_put.cls ≠ "java/lang/invoke/VarHandle" ∧ (parseMethodDescriptor yX8_put.desc).map (fun d => d.parameters.length) = some 3 := by decide +kernel
set_option maxRecDepth 100000 in
set_option maxHeartbeats 4000000 in
theorem c_X8_put (l : Launch) (y : Sy) (k0 : Nat) (n0 : Nat) (h0 : isA k0 n0) (x1 : Int32) (x2 : Int32) (st : St) (K : St → Prop) (hw : w_X8_put k0 n0 x1 x2 st K) : Cv 107 enX l yX8_put cX8_put 3 none 0 0 y [.ref (ad y k0), .int x1, .int x2] st K := by
  refine ent (by decide) (Nat.le_of_ble_eq_true rfl) ?_
  intro p e s m below meth c C hG ls hl
  have hl : lv_has ls 3 [(0, .ref (ad y k0)), (1, .int x1), (2, .int x2)] := hl
  generalize ([.ref (ad y k0), .int x1, .int x2] : List Value).toArray = args at C ⊢
  have C : Sd p s m args meth c cX8_put 3 RX8 none y := C
  obtain ⟨hx, hb, hml, hown, hts, hr, hlk, hK, hN⟩ := id C
  generalize s.heap = H at hG ⊢
  generalize ([] : List Loc) = locs at hG ⊢
  unfold w_X8_put at hw
  refine lv_aload_n hx hb dX8_put_0 rfl (lv_at hl 0 rfl) ?_
  refine lv_ifnull hx hb dX8_put_1 ?_
  refine lv_iload_n hx hb dX8_put_4 rfl (lv_at hl 1 rfl) ?_
  refine lv_if_lt (tgt := 18) hx hb dX8_put_5 (by decide) (fun hc => ?_) (fun hc => ?_)
  · replace hw := hw.1 hc
    exact r_vret hx hb hr hlk hK hG hw dX8_put_18
  · replace hw := hw.2 hc
    refine lv_iload_n hx hb dX8_put_8 rfl (lv_at hl 1 rfl) ?_
    refine lv_aload_n hx hb dX8_put_9 rfl (lv_at hl 0 rfl) ?_
    refine r_alen (v := (nI n0)) hx hb hK hG (h0).1 ((h0).2 y _) rfl dX8_put_10 ?_
    refine lv_icmp_ge (tgt := 18) hx hb dX8_put_11 (by decide) (fun hc => ?_) (fun hc => ?_)
    · replace hw := hw.1 hc
      exact r_vret hx hb hr hlk hK hG hw dX8_put_18
    · replace hw := hw.2 hc
      refine lv_aload_n hx hb dX8_put_14 rfl (lv_at hl 0 rfl) ?_
      refine lv_iload_n hx hb dX8_put_15 rfl (lv_at hl 1 rfl) ?_
      refine lv_iload_n hx hb dX8_put_16 rfl (lv_at hl 2 rfl) ?_
      obtain ⟨hi, hw⟩ := hw
      refine r_iast hx hb hK hG (h0).1 (fun f => (h0).2 y f) hi dX8_put_17 (fun H locs hG => ?_)
      exact r_vret hx hb hr hlk hK hG hw dX8_put_18
def w_X1_setHate (k0 : Nat) (x1 : Int32) (x2 : Int32) (x3 : Int32) (st : St) (K : St → Prop) : Prop :=
  w_X8_put (k0 + 4) 36 (((if x2 < x1 then x2 else x1) * 6) + (if x1 < x2 then x2 else x1)) (if 0 < (if x3 < 99 then x3 else 99) then (if x3 < 99 then x3 else 99) else 0) st (fun st32 => K st32)
theorem hd_X1_setHate : yX1_setHate.cls ≠ "java/lang/invoke/MethodHandle" ∧ yX1_setHate.cls ≠ "java/lang/invoke/VarHandle" ∧ (parseMethodDescriptor yX1_setHate.desc).map (fun d => d.parameters.length) = some 3 := by decide +kernel
set_option maxRecDepth 100000 in
set_option maxHeartbeats 4000000 in
theorem c_X1_setHate (l : Launch) (y : Sy) (k0 : Nat) (h0 : isC k0) (x1 : Int32) (x2 : Int32) (x3 : Int32) (st : St) (K : St → Prop) (hw : w_X1_setHate k0 x1 x2 x3 st K) : Cv 107 enX l yX1_setHate cX1_setHate 5 none 1 22 y [.ref (ad y k0), .int x1, .int x2, .int x3] st K := by
  refine ent (by decide) (Nat.le_of_ble_eq_true rfl) ?_
  intro p e s m below meth c C hG ls hl
  have hl : lv_has ls 5 [(0, .ref (ad y k0)), (1, .int x1), (2, .int x2), (3, .int x3)] := hl
  generalize ([.ref (ad y k0), .int x1, .int x2, .int x3] : List Value).toArray = args at C ⊢
  have C : Sd p s m args meth c cX1_setHate 5 RX1 none y := C
  obtain ⟨hx, hb, hml, hown, hts, hr, hlk, hK, hN⟩ := id C
  generalize s.heap = H at hG ⊢
  generalize ([] : List Loc) = locs at hG ⊢
  unfold w_X1_setHate at hw
  refine lv_iconst (v := 0) hx hb dX1_setHate_0 (by decide) ?_
  refine lv_bipush (v := 99) hx hb dX1_setHate_1 (by decide) ?_
  refine lv_iload_n hx hb dX1_setHate_3 rfl (lv_at hl 3 rfl) ?_
  refine va_mmin hx hb (hml.trans hl.1.symm) hown (hts _ qM_X1_85) (hts _ qT_Lib_Math_min_name) (hts _ qN_J9) (hts _ qC_Lib_Math_min_name) (Nat.le_of_ble_eq_true rfl) (Nat.le_of_ble_eq_true rfl) (Nat.zero_le _) (Nat.zero_le _) dX1_setHate_4 ?_
  refine va_mmax hx hb (hml.trans hl.1.symm) hown (hts _ qM_X1_90) (hts _ qT_Lib_Math_max_name) (hts _ qN_J9) (hts _ qC_Lib_Math_max_name) (Nat.le_of_ble_eq_true rfl) (Nat.le_of_ble_eq_true rfl) (Nat.zero_le _) (Nat.zero_le _) dX1_setHate_7 ?_
  refine lv_istore (lv' := [(4, .int (if 0 < (if x3 < 99 then x3 else 99) then (if x3 < 99 then x3 else 99) else 0)), (0, .ref (ad y k0)), (1, .int x1), (2, .int x2), (3, .int x3)]) hx hb dX1_setHate_10 hl (Nat.le_of_ble_eq_true rfl) rfl (fun ls hl => ?_)
  refine lv_aload_n hx hb dX1_setHate_12 rfl (lv_at hl 1 rfl) ?_
  refine r_get (C := RX1) (T := TX1) (Nf := 11) hx hb hts hown hK hG (isC.lt h0) (isC.e h0 y _) rfl inX1 3 (by decide) qF_X1_21 rfl dX1_setHate_13 ?_
  refine lv_iload_n hx hb dX1_setHate_16 rfl (lv_at hl 2 rfl) ?_
  refine lv_iload_n hx hb dX1_setHate_17 rfl (lv_at hl 3 rfl) ?_
  refine va_mmin hx hb (hml.trans hl.1.symm) hown (hts _ qM_X1_85) (hts _ qT_Lib_Math_min_name) (hts _ qN_J9) (hts _ qC_Lib_Math_min_name) (Nat.le_of_ble_eq_true rfl) (Nat.le_of_ble_eq_true rfl) (Nat.zero_le _) (Nat.zero_le _) dX1_setHate_18 ?_
  refine lv_bipush (v := 6) hx hb dX1_setHate_21 (by decide) ?_
  refine lv_imul hx hb dX1_setHate_23 ?_
  refine lv_iload_n hx hb dX1_setHate_24 rfl (lv_at hl 2 rfl) ?_
  refine lv_iload_n hx hb dX1_setHate_25 rfl (lv_at hl 3 rfl) ?_
  refine va_mmax hx hb (hml.trans hl.1.symm) hown (hts _ qM_X1_90) (hts _ qT_Lib_Math_max_name) (hts _ qN_J9) (hts _ qC_Lib_Math_max_name) (Nat.le_of_ble_eq_true rfl) (Nat.le_of_ble_eq_true rfl) (Nat.zero_le _) (Nat.zero_le _) dX1_setHate_26 ?_
  refine lv_iadd hx hb dX1_setHate_29 ?_
  refine lv_iload hx hb dX1_setHate_30 (lv_at hl 0 rfl) ?_
  refine r_kv (r_run_N (As := [.ref (ad y (k0 + 4)), .int (((if x2 < x1 then x2 else x1) * 6) + (if x1 < x2 then x2 else x1)), .int (if 0 < (if x3 < 99 then x3 else 99) then (if x3 < 99 then x3 else 99) else 0)]) (rest := []) hx hb hml hown hts hK hN hG (c_X8_put l y (k0 + 4) 36 (isC.a4 h0) (((if x2 < x1 then x2 else x1) * 6) + (if x1 < x2 then x2 else x1)) (if 0 < (if x3 < 99 then x3 else 99) then (if x3 < 99 then x3 else 99) else 0) st _ hw) qM_X1_96 qT_X8_put qN_X8 qC_X8_put hd_X8_put ⟨Nat.le_of_ble_eq_true rfl, Nat.le_of_ble_eq_true rfl⟩ hl.1 rfl (Nat.le_of_ble_eq_true rfl) dX1_setHate_32) hG (fun st32 H locs hw hG => ?_)
  exact r_vret hx hb hr hlk hK hG hw dX1_setHate_35
def w_X8_twoName (x0 : Int32) (x1 : Int32) (st : St) (K : Int32 → St → Prop) : Prop :=
  K ((10 * (if x1 < x0 then x1 else x0)) + (if x0 < x1 then x1 else x0)) st
theorem hd_X8_twoName : yX8_twoName.cls ≠ "java/lang/invoke/MethodHandle" ∧ yX8_twoName.cls ≠ "java/lang/invoke/VarHandle" ∧ (parseMethodDescriptor yX8_twoName.desc).map (fun d => d.parameters.length) = some 2 := by decide +kernel
set_option maxRecDepth 100000 in
set_option maxHeartbeats 4000000 in
theorem c_X8_twoName (l : Launch) (y : Sy) (x0 : Int32) (x1 : Int32) (st : St) (K : Int32 → St → Prop) (hw : w_X8_twoName x0 x1 st K) : Ci 107 enX l yX8_twoName cX8_twoName 2 (some .int) 1 21 y [.int x0, .int x1] st K := by
  refine ent (by decide) (Nat.le_of_ble_eq_true rfl) ?_
  intro p e s m below meth c C hG ls hl
  have hl : lv_has ls 2 [(0, .int x0), (1, .int x1)] := hl
  generalize ([.int x0, .int x1] : List Value).toArray = args at C ⊢
  have C : Sd p s m args meth c cX8_twoName 2 RX8 (some .int) y := C
  obtain ⟨hx, hb, hml, hown, hts, hr, hlk, hK, hN⟩ := id C
  generalize s.heap = H at hG ⊢
  generalize ([] : List Loc) = locs at hG ⊢
  unfold w_X8_twoName at hw
  refine lv_bipush (v := 10) hx hb dX8_twoName_0 (by decide) ?_
  refine lv_iload_n hx hb dX8_twoName_2 rfl (lv_at hl 0 rfl) ?_
  refine lv_iload_n hx hb dX8_twoName_3 rfl (lv_at hl 1 rfl) ?_
  refine va_mmin hx hb (hml.trans hl.1.symm) hown (hts _ qM_X8_360) (hts _ qT_Lib_Math_min_name) (hts _ qN_J9) (hts _ qC_Lib_Math_min_name) (Nat.le_of_ble_eq_true rfl) (Nat.le_of_ble_eq_true rfl) (Nat.zero_le _) (Nat.zero_le _) dX8_twoName_4 ?_
  refine lv_imul hx hb dX8_twoName_7 ?_
  refine lv_iload_n hx hb dX8_twoName_8 rfl (lv_at hl 0 rfl) ?_
  refine lv_iload_n hx hb dX8_twoName_9 rfl (lv_at hl 1 rfl) ?_
  refine va_mmax hx hb (hml.trans hl.1.symm) hown (hts _ qM_X8_338) (hts _ qT_Lib_Math_max_name) (hts _ qN_J9) (hts _ qC_Lib_Math_max_name) (Nat.le_of_ble_eq_true rfl) (Nat.le_of_ble_eq_true rfl) (Nat.zero_le _) (Nat.zero_le _) dX8_twoName_10 ?_
  refine lv_iadd hx hb dX8_twoName_13 ?_
  exact r_iret hx hb hr hlk hK hG rfl hw dX8_twoName_14
end
