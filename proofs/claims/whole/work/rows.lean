section
theorem lw_t1 {w : Cond} {i : Nat} (h : tables_1_1[i]? = some w) : w ∈ tables_1 := (List.mem_append_left _ (List.mem_of_getElem? h))
theorem lw_t2 {w : Cond} {i : Nat} (h : tables_1_2[i]? = some w) : w ∈ tables_1 := (List.mem_append_right _ (List.mem_append_left _ (List.mem_of_getElem? h)))
theorem lw_t3 {w : Cond} {i : Nat} (h : tables_1_3[i]? = some w) : w ∈ tables_1 := (List.mem_append_right _ (List.mem_append_right _ (List.mem_append_left _ (List.mem_of_getElem? h))))
theorem lw_t4 {w : Cond} {i : Nat} (h : tables_1_4[i]? = some w) : w ∈ tables_1 := (List.mem_append_right _ (List.mem_append_right _ (List.mem_append_right _ (List.mem_append_left _ (List.mem_of_getElem? h)))))
theorem lw_t5 {w : Cond} {i : Nat} (h : tables_1_5[i]? = some w) : w ∈ tables_1 := (List.mem_append_right _ (List.mem_append_right _ (List.mem_append_right _ (List.mem_append_right _ (List.mem_append_left _ (List.mem_of_getElem? h))))))
theorem lw_t6 {w : Cond} {i : Nat} (h : tables_1_6[i]? = some w) : w ∈ tables_1 := (List.mem_append_right _ (List.mem_append_right _ (List.mem_append_right _ (List.mem_append_right _ (List.mem_append_right _ (List.mem_append_left _ (List.mem_of_getElem? h)))))))
theorem lw_t7 {w : Cond} {i : Nat} (h : tables_1_7[i]? = some w) : w ∈ tables_1 := (List.mem_append_right _ (List.mem_append_right _ (List.mem_append_right _ (List.mem_append_right _ (List.mem_append_right _ (List.mem_append_right _ (List.mem_of_getElem? h)))))))
/-- a private method of a class that the tables say can be made, by its rows of tables_1 -/
def lw_okq (q : MethodName × Nat) : Prop := (q.1.cls ≠ "java/lang/invoke/MethodHandle" ∧ q.1.cls ≠ "java/lang/invoke/VarHandle") ∧ Cond.instantiable q.1.cls q.2 ∈ tables_1 ∧ Cond.privateMethod q.1 ∈ tables_1 ∧ Cond.instanceMethod q.1 ∈ tables_1
theorem lw_p0 : lw_okq (⟨"OnlyTwoEnemies", "refused", "(I)I"⟩, 10) := ⟨⟨by decide +kernel, by decide +kernel⟩, lw_t1 (i := 16) rfl, lw_t1 (i := 183) rfl, lw_t1 (i := 184) rfl⟩
theorem lw_p1 : lw_okq (⟨"OnlyTwoEnemies$Telling", "brokenPlace", "()I"⟩, 2) := ⟨⟨by decide +kernel, by decide +kernel⟩, lw_t1 (i := 84) rfl, lw_t1 (i := 223) rfl, lw_t1 (i := 224) rfl⟩
theorem lw_p2 : lw_okq (⟨"OnlyTwoEnemies$Telling", "sign", "(I)I"⟩, 2) := ⟨⟨by decide +kernel, by decide +kernel⟩, lw_t1 (i := 84) rfl, lw_t1 (i := 227) rfl, lw_t1 (i := 228) rfl⟩
theorem lw_p3 : lw_okq (⟨"OnlyTwoEnemies$Telling", "isDigit", "(I)Z"⟩, 2) := ⟨⟨by decide +kernel, by decide +kernel⟩, lw_t1 (i := 84) rfl, lw_t1 (i := 235) rfl, lw_t1 (i := 236) rfl⟩
theorem lw_p4 : lw_okq (⟨"OnlyTwoEnemies$Telling", "isRight", "(ILOnlyTwoEnemies$Country;)Z"⟩, 2) := ⟨⟨by decide +kernel, by decide +kernel⟩, lw_t1 (i := 84) rfl, lw_t1 (i := 239) rfl, lw_t2 (i := 0) rfl⟩
theorem lw_p5 : lw_okq (⟨"OnlyTwoEnemies$Telling", "digit", "(I)I"⟩, 2) := ⟨⟨by decide +kernel, by decide +kernel⟩, lw_t1 (i := 84) rfl, lw_t2 (i := 3) rfl, lw_t2 (i := 4) rfl⟩
theorem lw_p6 : lw_okq (⟨"OnlyTwoEnemies$Telling", "twoDigits", "(I)I"⟩, 2) := ⟨⟨by decide +kernel, by decide +kernel⟩, lw_t1 (i := 84) rfl, lw_t2 (i := 7) rfl, lw_t2 (i := 8) rfl⟩
theorem lw_p7 : lw_okq (⟨"OnlyTwoEnemies$Telling", "comes", "(ILOnlyTwoEnemies$Country;)V"⟩, 2) := ⟨⟨by decide +kernel, by decide +kernel⟩, lw_t1 (i := 84) rfl, lw_t2 (i := 39) rfl, lw_t2 (i := 40) rfl⟩
theorem lw_p8 : lw_okq (⟨"OnlyTwoEnemies$Country", "change", "(II)I"⟩, 11) := ⟨⟨by decide +kernel, by decide +kernel⟩, lw_t1 (i := 24) rfl, lw_t2 (i := 83) rfl, lw_t2 (i := 84) rfl⟩
theorem lw_p9 : lw_okq (⟨"OnlyTwoEnemies", "keeperRefusal", "(I)I"⟩, 10) := ⟨⟨by decide +kernel, by decide +kernel⟩, lw_t1 (i := 16) rfl, lw_t2 (i := 142) rfl, lw_t2 (i := 143) rfl⟩
theorem lw_p10 : lw_okq (⟨"OnlyTwoEnemies", "letterRefusal", "(I)I"⟩, 10) := ⟨⟨by decide +kernel, by decide +kernel⟩, lw_t1 (i := 16) rfl, lw_t2 (i := 175) rfl, lw_t2 (i := 176) rfl⟩
theorem lw_p11 : lw_okq (⟨"OnlyTwoEnemies", "twoRefusal", "(II)I"⟩, 10) := ⟨⟨by decide +kernel, by decide +kernel⟩, lw_t1 (i := 16) rfl, lw_t2 (i := 194) rfl, lw_t2 (i := 195) rfl⟩
theorem lw_p12 : lw_okq (⟨"OnlyTwoEnemies$Past", "country", "(I)LOnlyTwoEnemies$Country;"⟩, 3) := ⟨⟨by decide +kernel, by decide +kernel⟩, lw_t1 (i := 65) rfl, lw_t3 (i := 17) rfl, lw_t3 (i := 18) rfl⟩
theorem lw_p13 : lw_okq (⟨"OnlyTwoEnemies$Look", "hateOrSelf", "(II)I"⟩, 2) := ⟨⟨by decide +kernel, by decide +kernel⟩, lw_t1 (i := 110) rfl, lw_t3 (i := 84) rfl, lw_t3 (i := 85) rfl⟩
theorem lw_p14 : lw_okq (⟨"OnlyTwoEnemies$Mind", "hateMadeUp", "(II)I"⟩, 2) := ⟨⟨by decide +kernel, by decide +kernel⟩, lw_t1 (i := 123) rfl, lw_t3 (i := 195) rfl, lw_t3 (i := 196) rfl⟩
theorem lw_p15 : lw_okq (⟨"OnlyTwoEnemies$Mind", "gain", "(IIIII)I"⟩, 2) := ⟨⟨by decide +kernel, by decide +kernel⟩, lw_t1 (i := 123) rfl, lw_t3 (i := 199) rfl, lw_t3 (i := 200) rfl⟩
def lw_privs_1 : List (MethodName × Nat) := [(⟨"OnlyTwoEnemies", "refused", "(I)I"⟩, 10), (⟨"OnlyTwoEnemies$Telling", "brokenPlace", "()I"⟩, 2), (⟨"OnlyTwoEnemies$Telling", "sign", "(I)I"⟩, 2), (⟨"OnlyTwoEnemies$Telling", "isDigit", "(I)Z"⟩, 2), (⟨"OnlyTwoEnemies$Telling", "isRight", "(ILOnlyTwoEnemies$Country;)Z"⟩, 2), (⟨"OnlyTwoEnemies$Telling", "digit", "(I)I"⟩, 2), (⟨"OnlyTwoEnemies$Telling", "twoDigits", "(I)I"⟩, 2), (⟨"OnlyTwoEnemies$Telling", "comes", "(ILOnlyTwoEnemies$Country;)V"⟩, 2), (⟨"OnlyTwoEnemies$Country", "change", "(II)I"⟩, 11), (⟨"OnlyTwoEnemies", "keeperRefusal", "(I)I"⟩, 10), (⟨"OnlyTwoEnemies", "letterRefusal", "(I)I"⟩, 10), (⟨"OnlyTwoEnemies", "twoRefusal", "(II)I"⟩, 10), (⟨"OnlyTwoEnemies$Past", "country", "(I)LOnlyTwoEnemies$Country;"⟩, 3), (⟨"OnlyTwoEnemies$Look", "hateOrSelf", "(II)I"⟩, 2), (⟨"OnlyTwoEnemies$Mind", "hateMadeUp", "(II)I"⟩, 2), (⟨"OnlyTwoEnemies$Mind", "gain", "(IIIII)I"⟩, 2)]
theorem lw_r1 : ∀ q ∈ lw_privs_1, lw_okq q := List.forall_mem_cons.mpr ⟨lw_p0, List.forall_mem_cons.mpr ⟨lw_p1, List.forall_mem_cons.mpr ⟨lw_p2, List.forall_mem_cons.mpr ⟨lw_p3, List.forall_mem_cons.mpr ⟨lw_p4, List.forall_mem_cons.mpr ⟨lw_p5, List.forall_mem_cons.mpr ⟨lw_p6, List.forall_mem_cons.mpr ⟨lw_p7, List.forall_mem_cons.mpr ⟨lw_p8, List.forall_mem_cons.mpr ⟨lw_p9, List.forall_mem_cons.mpr ⟨lw_p10, List.forall_mem_cons.mpr ⟨lw_p11, List.forall_mem_cons.mpr ⟨lw_p12, List.forall_mem_cons.mpr ⟨lw_p13, List.forall_mem_cons.mpr ⟨lw_p14, List.forall_mem_cons.mpr ⟨lw_p15, fun _ h => absurd h List.not_mem_nil⟩⟩⟩⟩⟩⟩⟩⟩⟩⟩⟩⟩⟩⟩⟩⟩
theorem lw_p16 : lw_okq (⟨"OnlyTwoEnemies$Mind", "openAsAllIs", "(I)I"⟩, 2) := ⟨⟨by decide +kernel, by decide +kernel⟩, lw_t1 (i := 123) rfl, lw_t3 (i := 212) rfl, lw_t3 (i := 213) rfl⟩
theorem lw_p17 : lw_okq (⟨"OnlyTwoEnemies$Mind", "openKept", "(II)I"⟩, 2) := ⟨⟨by decide +kernel, by decide +kernel⟩, lw_t1 (i := 123) rfl, lw_t4 (i := 9) rfl, lw_t4 (i := 10) rfl⟩
theorem lw_p18 : lw_okq (⟨"OnlyTwoEnemies$Mind", "opensAsTold", "(LOnlyTwoEnemies$Row;)Z"⟩, 2) := ⟨⟨by decide +kernel, by decide +kernel⟩, lw_t1 (i := 123) rfl, lw_t4 (i := 37) rfl, lw_t4 (i := 38) rfl⟩
theorem lw_p19 : lw_okq (⟨"OnlyTwoEnemies$Mind", "hatesAsTold", "(IILOnlyTwoEnemies$Row;)Z"⟩, 2) := ⟨⟨by decide +kernel, by decide +kernel⟩, lw_t1 (i := 123) rfl, lw_t4 (i := 56) rfl, lw_t4 (i := 57) rfl⟩
theorem lw_p20 : lw_okq (⟨"OnlyTwoEnemies$Look", "mostTwosWith", "(III)I"⟩, 2) := ⟨⟨by decide +kernel, by decide +kernel⟩, lw_t1 (i := 110) rfl, lw_t4 (i := 134) rfl, lw_t4 (i := 135) rfl⟩
theorem lw_p21 : lw_okq (⟨"OnlyTwoEnemies$Look", "hatesTogether", "(I)I"⟩, 2) := ⟨⟨by decide +kernel, by decide +kernel⟩, lw_t1 (i := 110) rfl, lw_t4 (i := 187) rfl, lw_t4 (i := 188) rfl⟩
theorem lw_p22 : lw_okq (⟨"OnlyTwoEnemiesModel", "no", "(I)I"⟩, 31) := ⟨⟨by decide +kernel, by decide +kernel⟩, lw_t4 (i := 212) rfl, lw_t5 (i := 79) rfl, lw_t5 (i := 80) rfl⟩
theorem lw_p23 : lw_okq (⟨"OnlyTwoEnemiesModel", "statement", "()Z"⟩, 31) := ⟨⟨by decide +kernel, by decide +kernel⟩, lw_t4 (i := 212) rfl, lw_t5 (i := 87) rfl, lw_t5 (i := 88) rfl⟩
theorem lw_p24 : lw_okq (⟨"OnlyTwoEnemiesModel", "next", "()I"⟩, 31) := ⟨⟨by decide +kernel, by decide +kernel⟩, lw_t4 (i := 212) rfl, lw_t5 (i := 91) rfl, lw_t5 (i := 92) rfl⟩
theorem lw_p25 : lw_okq (⟨"OnlyTwoEnemiesModel", "readsAll", "(II)Z"⟩, 31) := ⟨⟨by decide +kernel, by decide +kernel⟩, lw_t4 (i := 212) rfl, lw_t5 (i := 95) rfl, lw_t5 (i := 96) rfl⟩
theorem lw_p26 : lw_okq (⟨"OnlyTwoEnemiesModel", "readsDigits", "(II)Z"⟩, 31) := ⟨⟨by decide +kernel, by decide +kernel⟩, lw_t4 (i := 212) rfl, lw_t5 (i := 99) rfl, lw_t5 (i := 100) rfl⟩
theorem lw_p27 : lw_okq (⟨"OnlyTwoEnemiesModel", "passesAll", "(IZ)V"⟩, 31) := ⟨⟨by decide +kernel, by decide +kernel⟩, lw_t4 (i := 212) rfl, lw_t5 (i := 106) rfl, lw_t5 (i := 107) rfl⟩
theorem lw_p28 : lw_okq (⟨"OnlyTwoEnemiesModel", "passes", "([I)V"⟩, 31) := ⟨⟨by decide +kernel, by decide +kernel⟩, lw_t4 (i := 212) rfl, lw_t5 (i := 110) rfl, lw_t5 (i := 111) rfl⟩
theorem lw_p29 : lw_okq (⟨"OnlyTwoEnemiesModel", "passOne", "(I)I"⟩, 31) := ⟨⟨by decide +kernel, by decide +kernel⟩, lw_t4 (i := 212) rfl, lw_t5 (i := 114) rfl, lw_t5 (i := 115) rfl⟩
theorem lw_p30 : lw_okq (⟨"OnlyTwoEnemiesModel", "comes", "(I)Z"⟩, 31) := ⟨⟨by decide +kernel, by decide +kernel⟩, lw_t4 (i := 212) rfl, lw_t5 (i := 118) rfl, lw_t5 (i := 119) rfl⟩
theorem lw_p31 : lw_okq (⟨"OnlyTwoEnemiesModel", "comesKeeper", "(III)Z"⟩, 31) := ⟨⟨by decide +kernel, by decide +kernel⟩, lw_t4 (i := 212) rfl, lw_t5 (i := 122) rfl, lw_t5 (i := 123) rfl⟩
def lw_privs_2 : List (MethodName × Nat) := [(⟨"OnlyTwoEnemies$Mind", "openAsAllIs", "(I)I"⟩, 2), (⟨"OnlyTwoEnemies$Mind", "openKept", "(II)I"⟩, 2), (⟨"OnlyTwoEnemies$Mind", "opensAsTold", "(LOnlyTwoEnemies$Row;)Z"⟩, 2), (⟨"OnlyTwoEnemies$Mind", "hatesAsTold", "(IILOnlyTwoEnemies$Row;)Z"⟩, 2), (⟨"OnlyTwoEnemies$Look", "mostTwosWith", "(III)I"⟩, 2), (⟨"OnlyTwoEnemies$Look", "hatesTogether", "(I)I"⟩, 2), (⟨"OnlyTwoEnemiesModel", "no", "(I)I"⟩, 31), (⟨"OnlyTwoEnemiesModel", "statement", "()Z"⟩, 31), (⟨"OnlyTwoEnemiesModel", "next", "()I"⟩, 31), (⟨"OnlyTwoEnemiesModel", "readsAll", "(II)Z"⟩, 31), (⟨"OnlyTwoEnemiesModel", "readsDigits", "(II)Z"⟩, 31), (⟨"OnlyTwoEnemiesModel", "passesAll", "(IZ)V"⟩, 31), (⟨"OnlyTwoEnemiesModel", "passes", "([I)V"⟩, 31), (⟨"OnlyTwoEnemiesModel", "passOne", "(I)I"⟩, 31), (⟨"OnlyTwoEnemiesModel", "comes", "(I)Z"⟩, 31), (⟨"OnlyTwoEnemiesModel", "comesKeeper", "(III)Z"⟩, 31)]
theorem lw_r2 : ∀ q ∈ lw_privs_2, lw_okq q := List.forall_mem_cons.mpr ⟨lw_p16, List.forall_mem_cons.mpr ⟨lw_p17, List.forall_mem_cons.mpr ⟨lw_p18, List.forall_mem_cons.mpr ⟨lw_p19, List.forall_mem_cons.mpr ⟨lw_p20, List.forall_mem_cons.mpr ⟨lw_p21, List.forall_mem_cons.mpr ⟨lw_p22, List.forall_mem_cons.mpr ⟨lw_p23, List.forall_mem_cons.mpr ⟨lw_p24, List.forall_mem_cons.mpr ⟨lw_p25, List.forall_mem_cons.mpr ⟨lw_p26, List.forall_mem_cons.mpr ⟨lw_p27, List.forall_mem_cons.mpr ⟨lw_p28, List.forall_mem_cons.mpr ⟨lw_p29, List.forall_mem_cons.mpr ⟨lw_p30, List.forall_mem_cons.mpr ⟨lw_p31, fun _ h => absurd h List.not_mem_nil⟩⟩⟩⟩⟩⟩⟩⟩⟩⟩⟩⟩⟩⟩⟩⟩
theorem lw_p32 : lw_okq (⟨"OnlyTwoEnemiesModel", "addsKeeper", "(III)V"⟩, 31) := ⟨⟨by decide +kernel, by decide +kernel⟩, lw_t4 (i := 212) rfl, lw_t5 (i := 129) rfl, lw_t5 (i := 130) rfl⟩
theorem lw_p33 : lw_okq (⟨"OnlyTwoEnemiesModel", "sets", "(III)V"⟩, 31) := ⟨⟨by decide +kernel, by decide +kernel⟩, lw_t4 (i := 212) rfl, lw_t5 (i := 133) rfl, lw_t5 (i := 134) rfl⟩
theorem lw_p34 : lw_okq (⟨"OnlyTwoEnemiesModel", "areTwo", "(II)Z"⟩, 31) := ⟨⟨by decide +kernel, by decide +kernel⟩, lw_t4 (i := 212) rfl, lw_t5 (i := 137) rfl, lw_t5 (i := 138) rfl⟩
theorem lw_p35 : lw_okq (⟨"OnlyTwoEnemiesModel", "isKeeper", "(I)Z"⟩, 31) := ⟨⟨by decide +kernel, by decide +kernel⟩, lw_t4 (i := 212) rfl, lw_t5 (i := 141) rfl, lw_t5 (i := 142) rfl⟩
theorem lw_p36 : lw_okq (⟨"OnlyTwoEnemiesModel", "comesLetter", "(II)Z"⟩, 31) := ⟨⟨by decide +kernel, by decide +kernel⟩, lw_t4 (i := 212) rfl, lw_t5 (i := 145) rfl, lw_t5 (i := 146) rfl⟩
theorem lw_p37 : lw_okq (⟨"OnlyTwoEnemiesModel", "addsLetter", "(II)V"⟩, 31) := ⟨⟨by decide +kernel, by decide +kernel⟩, lw_t4 (i := 212) rfl, lw_t5 (i := 149) rfl, lw_t5 (i := 150) rfl⟩
theorem lw_p38 : lw_okq (⟨"OnlyTwoEnemiesModel", "isLetter", "(I)Z"⟩, 31) := ⟨⟨by decide +kernel, by decide +kernel⟩, lw_t4 (i := 212) rfl, lw_t5 (i := 153) rfl, lw_t5 (i := 154) rfl⟩
theorem lw_p39 : lw_okq (⟨"OnlyTwoEnemiesModel", "comesWeeks", "(I)Z"⟩, 31) := ⟨⟨by decide +kernel, by decide +kernel⟩, lw_t4 (i := 212) rfl, lw_t5 (i := 157) rfl, lw_t5 (i := 158) rfl⟩
theorem lw_p40 : lw_okq (⟨"OnlyTwoEnemiesModel", "goesOn", "(I)V"⟩, 31) := ⟨⟨by decide +kernel, by decide +kernel⟩, lw_t4 (i := 212) rfl, lw_t5 (i := 161) rfl, lw_t5 (i := 162) rfl⟩
theorem lw_p41 : lw_okq (⟨"OnlyTwoEnemiesModel", "goesWeek", "()V"⟩, 31) := ⟨⟨by decide +kernel, by decide +kernel⟩, lw_t4 (i := 212) rfl, lw_t5 (i := 165) rfl, lw_t5 (i := 166) rfl⟩
theorem lw_p42 : lw_okq (⟨"OnlyTwoEnemiesModel", "fadesTwo", "(II)V"⟩, 31) := ⟨⟨by decide +kernel, by decide +kernel⟩, lw_t4 (i := 212) rfl, lw_t5 (i := 169) rfl, lw_t5 (i := 170) rfl⟩
theorem lw_p43 : lw_okq (⟨"OnlyTwoEnemiesModel", "hateOf", "(II)I"⟩, 31) := ⟨⟨by decide +kernel, by decide +kernel⟩, lw_t4 (i := 212) rfl, lw_t5 (i := 176) rfl, lw_t5 (i := 177) rfl⟩
theorem lw_p44 : lw_okq (⟨"OnlyTwoEnemiesModel", "fadesOf", "(I)I"⟩, 31) := ⟨⟨by decide +kernel, by decide +kernel⟩, lw_t4 (i := 212) rfl, lw_t5 (i := 180) rfl, lw_t5 (i := 181) rfl⟩
theorem lw_p45 : lw_okq (⟨"OnlyTwoEnemiesModel", "stirsOf", "(I)I"⟩, 31) := ⟨⟨by decide +kernel, by decide +kernel⟩, lw_t4 (i := 212) rfl, lw_t5 (i := 187) rfl, lw_t5 (i := 188) rfl⟩
theorem lw_p46 : lw_okq (⟨"OnlyTwoEnemiesModel", "opensAt", "(II)I"⟩, 31) := ⟨⟨by decide +kernel, by decide +kernel⟩, lw_t4 (i := 212) rfl, lw_t5 (i := 191) rfl, lw_t5 (i := 192) rfl⟩
theorem lw_p47 : lw_okq (⟨"OnlyTwoEnemiesModel", "areThere", "(III)Z"⟩, 31) := ⟨⟨by decide +kernel, by decide +kernel⟩, lw_t4 (i := 212) rfl, lw_t5 (i := 195) rfl, lw_t5 (i := 196) rfl⟩
def lw_privs_3 : List (MethodName × Nat) := [(⟨"OnlyTwoEnemiesModel", "addsKeeper", "(III)V"⟩, 31), (⟨"OnlyTwoEnemiesModel", "sets", "(III)V"⟩, 31), (⟨"OnlyTwoEnemiesModel", "areTwo", "(II)Z"⟩, 31), (⟨"OnlyTwoEnemiesModel", "isKeeper", "(I)Z"⟩, 31), (⟨"OnlyTwoEnemiesModel", "comesLetter", "(II)Z"⟩, 31), (⟨"OnlyTwoEnemiesModel", "addsLetter", "(II)V"⟩, 31), (⟨"OnlyTwoEnemiesModel", "isLetter", "(I)Z"⟩, 31), (⟨"OnlyTwoEnemiesModel", "comesWeeks", "(I)Z"⟩, 31), (⟨"OnlyTwoEnemiesModel", "goesOn", "(I)V"⟩, 31), (⟨"OnlyTwoEnemiesModel", "goesWeek", "()V"⟩, 31), (⟨"OnlyTwoEnemiesModel", "fadesTwo", "(II)V"⟩, 31), (⟨"OnlyTwoEnemiesModel", "hateOf", "(II)I"⟩, 31), (⟨"OnlyTwoEnemiesModel", "fadesOf", "(I)I"⟩, 31), (⟨"OnlyTwoEnemiesModel", "stirsOf", "(I)I"⟩, 31), (⟨"OnlyTwoEnemiesModel", "opensAt", "(II)I"⟩, 31), (⟨"OnlyTwoEnemiesModel", "areThere", "(III)Z"⟩, 31)]
theorem lw_r3 : ∀ q ∈ lw_privs_3, lw_okq q := List.forall_mem_cons.mpr ⟨lw_p32, List.forall_mem_cons.mpr ⟨lw_p33, List.forall_mem_cons.mpr ⟨lw_p34, List.forall_mem_cons.mpr ⟨lw_p35, List.forall_mem_cons.mpr ⟨lw_p36, List.forall_mem_cons.mpr ⟨lw_p37, List.forall_mem_cons.mpr ⟨lw_p38, List.forall_mem_cons.mpr ⟨lw_p39, List.forall_mem_cons.mpr ⟨lw_p40, List.forall_mem_cons.mpr ⟨lw_p41, List.forall_mem_cons.mpr ⟨lw_p42, List.forall_mem_cons.mpr ⟨lw_p43, List.forall_mem_cons.mpr ⟨lw_p44, List.forall_mem_cons.mpr ⟨lw_p45, List.forall_mem_cons.mpr ⟨lw_p46, List.forall_mem_cons.mpr ⟨lw_p47, fun _ h => absurd h List.not_mem_nil⟩⟩⟩⟩⟩⟩⟩⟩⟩⟩⟩⟩⟩⟩⟩⟩
theorem lw_p48 : lw_okq (⟨"OnlyTwoEnemiesModel", "payOf", "(I)I"⟩, 31) := ⟨⟨by decide +kernel, by decide +kernel⟩, lw_t4 (i := 212) rfl, lw_t5 (i := 215) rfl, lw_t5 (i := 216) rfl⟩
theorem lw_p49 : lw_okq (⟨"OnlyTwoEnemiesModel", "keepsBack", "()V"⟩, 31) := ⟨⟨by decide +kernel, by decide +kernel⟩, lw_t4 (i := 212) rfl, lw_t5 (i := 239) rfl, lw_t6 (i := 0) rfl⟩
theorem lw_p50 : lw_okq (⟨"OnlyTwoEnemiesModel", "openOnes", "()I"⟩, 31) := ⟨⟨by decide +kernel, by decide +kernel⟩, lw_t4 (i := 212) rfl, lw_t6 (i := 15) rfl, lw_t6 (i := 16) rfl⟩
theorem lw_p51 : lw_okq (⟨"OnlyTwoEnemiesModel", "hateIn", "(III)I"⟩, 31) := ⟨⟨by decide +kernel, by decide +kernel⟩, lw_t4 (i := 212) rfl, lw_t6 (i := 29) rfl, lw_t6 (i := 30) rfl⟩
theorem lw_p52 : lw_okq (⟨"OnlyTwoEnemiesModel", "thinks", "()V"⟩, 31) := ⟨⟨by decide +kernel, by decide +kernel⟩, lw_t4 (i := 212) rfl, lw_t6 (i := 33) rfl, lw_t6 (i := 34) rfl⟩
theorem lw_p53 : lw_okq (⟨"OnlyTwoEnemiesModel", "forgets", "()V"⟩, 31) := ⟨⟨by decide +kernel, by decide +kernel⟩, lw_t4 (i := 212) rfl, lw_t6 (i := 37) rfl, lw_t6 (i := 38) rfl⟩
theorem lw_p54 : lw_okq (⟨"OnlyTwoEnemiesModel", "openIn", "(I)I"⟩, 31) := ⟨⟨by decide +kernel, by decide +kernel⟩, lw_t4 (i := 212) rfl, lw_t6 (i := 45) rfl, lw_t6 (i := 46) rfl⟩
theorem lw_p55 : lw_okq (⟨"OnlyTwoEnemiesModel", "allHate", "()I"⟩, 31) := ⟨⟨by decide +kernel, by decide +kernel⟩, lw_t4 (i := 212) rfl, lw_t6 (i := 49) rfl, lw_t6 (i := 50) rfl⟩
theorem lw_p56 : lw_okq (⟨"OnlyTwoEnemiesModel", "whenOf", "(I)I"⟩, 31) := ⟨⟨by decide +kernel, by decide +kernel⟩, lw_t4 (i := 212) rfl, lw_t6 (i := 57) rfl, lw_t6 (i := 58) rfl⟩
theorem lw_p57 : lw_okq (⟨"OnlyTwoEnemiesModel", "firstOne", "()I"⟩, 31) := ⟨⟨by decide +kernel, by decide +kernel⟩, lw_t4 (i := 212) rfl, lw_t6 (i := 69) rfl, lw_t6 (i := 70) rfl⟩
theorem lw_p58 : lw_okq (⟨"OnlyTwoEnemiesModel", "isOpenedBy", "(III)Z"⟩, 31) := ⟨⟨by decide +kernel, by decide +kernel⟩, lw_t4 (i := 212) rfl, lw_t6 (i := 77) rfl, lw_t6 (i := 78) rfl⟩
theorem lw_p59 : lw_okq (⟨"OnlyTwoEnemiesModel", "manyAt", "(III)I"⟩, 31) := ⟨⟨by decide +kernel, by decide +kernel⟩, lw_t4 (i := 212) rfl, lw_t6 (i := 85) rfl, lw_t6 (i := 86) rfl⟩
theorem lw_p60 : lw_okq (⟨"OnlyTwoEnemiesModel", "changes", "()V"⟩, 31) := ⟨⟨by decide +kernel, by decide +kernel⟩, lw_t4 (i := 212) rfl, lw_t6 (i := 93) rfl, lw_t6 (i := 94) rfl⟩
theorem lw_p61 : lw_okq (⟨"OnlyTwoEnemiesModel", "changesBack", "()V"⟩, 31) := ⟨⟨by decide +kernel, by decide +kernel⟩, lw_t4 (i := 212) rfl, lw_t6 (i := 97) rfl, lw_t6 (i := 98) rfl⟩
theorem lw_p62 : lw_okq (⟨"OnlyTwoEnemiesModel", "manyBy", "(II)I"⟩, 31) := ⟨⟨by decide +kernel, by decide +kernel⟩, lw_t4 (i := 212) rfl, lw_t6 (i := 105) rfl, lw_t6 (i := 106) rfl⟩
theorem lw_p63 : lw_okq (⟨"OnlyTwoEnemiesModel", "payOfAll", "(I)I"⟩, 31) := ⟨⟨by decide +kernel, by decide +kernel⟩, lw_t4 (i := 212) rfl, lw_t6 (i := 109) rfl, lw_t6 (i := 110) rfl⟩
def lw_privs_4 : List (MethodName × Nat) := [(⟨"OnlyTwoEnemiesModel", "payOf", "(I)I"⟩, 31), (⟨"OnlyTwoEnemiesModel", "keepsBack", "()V"⟩, 31), (⟨"OnlyTwoEnemiesModel", "openOnes", "()I"⟩, 31), (⟨"OnlyTwoEnemiesModel", "hateIn", "(III)I"⟩, 31), (⟨"OnlyTwoEnemiesModel", "thinks", "()V"⟩, 31), (⟨"OnlyTwoEnemiesModel", "forgets", "()V"⟩, 31), (⟨"OnlyTwoEnemiesModel", "openIn", "(I)I"⟩, 31), (⟨"OnlyTwoEnemiesModel", "allHate", "()I"⟩, 31), (⟨"OnlyTwoEnemiesModel", "whenOf", "(I)I"⟩, 31), (⟨"OnlyTwoEnemiesModel", "firstOne", "()I"⟩, 31), (⟨"OnlyTwoEnemiesModel", "isOpenedBy", "(III)Z"⟩, 31), (⟨"OnlyTwoEnemiesModel", "manyAt", "(III)I"⟩, 31), (⟨"OnlyTwoEnemiesModel", "changes", "()V"⟩, 31), (⟨"OnlyTwoEnemiesModel", "changesBack", "()V"⟩, 31), (⟨"OnlyTwoEnemiesModel", "manyBy", "(II)I"⟩, 31), (⟨"OnlyTwoEnemiesModel", "payOfAll", "(I)I"⟩, 31)]
theorem lw_r4 : ∀ q ∈ lw_privs_4, lw_okq q := List.forall_mem_cons.mpr ⟨lw_p48, List.forall_mem_cons.mpr ⟨lw_p49, List.forall_mem_cons.mpr ⟨lw_p50, List.forall_mem_cons.mpr ⟨lw_p51, List.forall_mem_cons.mpr ⟨lw_p52, List.forall_mem_cons.mpr ⟨lw_p53, List.forall_mem_cons.mpr ⟨lw_p54, List.forall_mem_cons.mpr ⟨lw_p55, List.forall_mem_cons.mpr ⟨lw_p56, List.forall_mem_cons.mpr ⟨lw_p57, List.forall_mem_cons.mpr ⟨lw_p58, List.forall_mem_cons.mpr ⟨lw_p59, List.forall_mem_cons.mpr ⟨lw_p60, List.forall_mem_cons.mpr ⟨lw_p61, List.forall_mem_cons.mpr ⟨lw_p62, List.forall_mem_cons.mpr ⟨lw_p63, fun _ h => absurd h List.not_mem_nil⟩⟩⟩⟩⟩⟩⟩⟩⟩⟩⟩⟩⟩⟩⟩⟩
theorem lw_p64 : lw_okq (⟨"OnlyTwoEnemiesModel", "keepersIn", "(I)I"⟩, 31) := ⟨⟨by decide +kernel, by decide +kernel⟩, lw_t4 (i := 212) rfl, lw_t6 (i := 117) rfl, lw_t6 (i := 118) rfl⟩
theorem lw_p65 : lw_okq (⟨"OnlyTwoEnemiesModel", "findTwos", "(II)V"⟩, 31) := ⟨⟨by decide +kernel, by decide +kernel⟩, lw_t4 (i := 212) rfl, lw_t6 (i := 129) rfl, lw_t6 (i := 130) rfl⟩
theorem lw_p66 : lw_okq (⟨"OnlyTwoEnemiesModel", "opensSo", "()Z"⟩, 31) := ⟨⟨by decide +kernel, by decide +kernel⟩, lw_t4 (i := 212) rfl, lw_t6 (i := 141) rfl, lw_t6 (i := 142) rfl⟩
theorem lw_p67 : lw_okq (⟨"OnlyTwoEnemiesModel", "bitsFor", "([IIII)I"⟩, 31) := ⟨⟨by decide +kernel, by decide +kernel⟩, lw_t4 (i := 212) rfl, lw_t6 (i := 149) rfl, lw_t6 (i := 150) rfl⟩
theorem lw_p68 : lw_okq (⟨"OnlyTwoEnemiesModel", "hatesSo", "(II)Z"⟩, 31) := ⟨⟨by decide +kernel, by decide +kernel⟩, lw_t4 (i := 212) rfl, lw_t6 (i := 153) rfl, lw_t6 (i := 154) rfl⟩
theorem lw_p69 : lw_okq (⟨"OnlyTwoEnemiesModel", "lowestOf", "(I)J"⟩, 31) := ⟨⟨by decide +kernel, by decide +kernel⟩, lw_t4 (i := 212) rfl, lw_t6 (i := 161) rfl, lw_t6 (i := 162) rfl⟩
theorem lw_p70 : lw_okq (⟨"OnlyTwoEnemiesModel", "getsOf", "(IIII)I"⟩, 31) := ⟨⟨by decide +kernel, by decide +kernel⟩, lw_t4 (i := 212) rfl, lw_t6 (i := 182) rfl, lw_t6 (i := 183) rfl⟩
theorem lw_p71 : lw_okq (⟨"OnlyTwoEnemiesModel", "isOpenMeeting", "(IIIII)Z"⟩, 31) := ⟨⟨by decide +kernel, by decide +kernel⟩, lw_t4 (i := 212) rfl, lw_t6 (i := 190) rfl, lw_t6 (i := 191) rfl⟩
theorem lw_p72 : lw_okq (⟨"OnlyTwoEnemiesModel", "hatesOf", "(I)I"⟩, 31) := ⟨⟨by decide +kernel, by decide +kernel⟩, lw_t4 (i := 212) rfl, lw_t6 (i := 206) rfl, lw_t6 (i := 207) rfl⟩
theorem lw_p73 : lw_okq (⟨"OnlyTwoEnemiesModel", "lower", "(I)I"⟩, 31) := ⟨⟨by decide +kernel, by decide +kernel⟩, lw_t4 (i := 212) rfl, lw_t6 (i := 222) rfl, lw_t6 (i := 223) rfl⟩
theorem lw_p74 : lw_okq (⟨"OnlyTwoEnemiesModel", "manySwapped", "(III)I"⟩, 31) := ⟨⟨by decide +kernel, by decide +kernel⟩, lw_t4 (i := 212) rfl, lw_t6 (i := 231) rfl, lw_t6 (i := 232) rfl⟩
theorem lw_p75 : lw_okq (⟨"OnlyTwoEnemiesModel", "draw", "(I)I"⟩, 31) := ⟨⟨by decide +kernel, by decide +kernel⟩, lw_t4 (i := 212) rfl, lw_t7 (i := 23) rfl, lw_t7 (i := 24) rfl⟩
def lw_privs_5 : List (MethodName × Nat) := [(⟨"OnlyTwoEnemiesModel", "keepersIn", "(I)I"⟩, 31), (⟨"OnlyTwoEnemiesModel", "findTwos", "(II)V"⟩, 31), (⟨"OnlyTwoEnemiesModel", "opensSo", "()Z"⟩, 31), (⟨"OnlyTwoEnemiesModel", "bitsFor", "([IIII)I"⟩, 31), (⟨"OnlyTwoEnemiesModel", "hatesSo", "(II)Z"⟩, 31), (⟨"OnlyTwoEnemiesModel", "lowestOf", "(I)J"⟩, 31), (⟨"OnlyTwoEnemiesModel", "getsOf", "(IIII)I"⟩, 31), (⟨"OnlyTwoEnemiesModel", "isOpenMeeting", "(IIIII)Z"⟩, 31), (⟨"OnlyTwoEnemiesModel", "hatesOf", "(I)I"⟩, 31), (⟨"OnlyTwoEnemiesModel", "lower", "(I)I"⟩, 31), (⟨"OnlyTwoEnemiesModel", "manySwapped", "(III)I"⟩, 31), (⟨"OnlyTwoEnemiesModel", "draw", "(I)I"⟩, 31)]
theorem lw_r5 : ∀ q ∈ lw_privs_5, lw_okq q := List.forall_mem_cons.mpr ⟨lw_p64, List.forall_mem_cons.mpr ⟨lw_p65, List.forall_mem_cons.mpr ⟨lw_p66, List.forall_mem_cons.mpr ⟨lw_p67, List.forall_mem_cons.mpr ⟨lw_p68, List.forall_mem_cons.mpr ⟨lw_p69, List.forall_mem_cons.mpr ⟨lw_p70, List.forall_mem_cons.mpr ⟨lw_p71, List.forall_mem_cons.mpr ⟨lw_p72, List.forall_mem_cons.mpr ⟨lw_p73, List.forall_mem_cons.mpr ⟨lw_p74, List.forall_mem_cons.mpr ⟨lw_p75, fun _ h => absurd h List.not_mem_nil⟩⟩⟩⟩⟩⟩⟩⟩⟩⟩⟩⟩
def lw_privs : List (MethodName × Nat) := lw_privs_1 ++ (lw_privs_2 ++ (lw_privs_3 ++ (lw_privs_4 ++ (lw_privs_5))))
def lw_tbl : List Cond := k2_sels lw_privs ++ tables_1
theorem lw_privs_ok : ∀ q ∈ lw_privs, lw_okq q := by
  show ∀ q ∈ lw_privs_1 ++ (lw_privs_2 ++ (lw_privs_3 ++ (lw_privs_4 ++ (lw_privs_5)))), lw_okq q
  exact List.forall_mem_append.mpr ⟨lw_r1, List.forall_mem_append.mpr ⟨lw_r2, List.forall_mem_append.mpr ⟨lw_r3, List.forall_mem_append.mpr ⟨lw_r4, lw_r5⟩⟩⟩⟩
def lw_g : List Cond := lw_tbl.filter goodWord
theorem lw_gm {w : Cond} (h : w ∈ lw_tbl) (hg : goodWord w = true) : w ∈ lw_g := List.mem_filter.mpr ⟨h, hg⟩
theorem lw_gt {w : Cond} (h : w ∈ lw_g) : w ∈ lw_tbl := (List.mem_filter.mp h).1
theorem lw_gi {ws : List Cond} (h : ∀ w ∈ ws, w ∈ lw_g) : GoodIn lw_g ws := fun w hw => ⟨h w hw, good_of_word (List.mem_filter.mp (h w hw)).2⟩
end
section
def RX0 : String := "OnlyTwoEnemies$Chance"
def TX0 : u_T := fun k => match k with
  | _ => ("", "", "", false)
def tyX0 : Nat → FieldType := fun k => match k with
  | _ => .int
abbrev wsX00 : List Cond := u_ws RX0 TX0 0
theorem nmX0 : ∀ a, a < 0 → ∀ b, b < 0 → a ≠ b → (TX0 a).2.1 ≠ (TX0 b).2.1 := by decide +kernel
theorem tyX0_ok : ∀ k, k < 0 → parseFieldDescriptor (TX0 k).2.2.1 = some (tyX0 k) := by decide +kernel
abbrev cX0_power : ByteArray := prog_2_method_2_code
def yX0_power : MethodName := ⟨RX0, "power", "(II)J"⟩
abbrev cX0_ways : ByteArray := prog_2_method_3_code
def yX0_ways : MethodName := ⟨RX0, "ways", "(III)J"⟩
abbrev cX0_part : ByteArray := prog_2_method_4_code
def yX0_part : MethodName := ⟨RX0, "part", "(JJI)J"⟩
abbrev cX0_commonDivisor : ByteArray := prog_2_method_5_code
def yX0_commonDivisor : MethodName := ⟨RX0, "commonDivisor", "(JJ)J"⟩
def RX1 : String := "OnlyTwoEnemies$Country"
def TX1 : u_T := fun k => match k with
  | 0 => ("OnlyTwoEnemies$Country", "kinds", "[I", true)
  | 1 => ("OnlyTwoEnemies$Country", "figures", "[I", true)
  | 2 => ("OnlyTwoEnemies$Country", "towns", "[I", true)
  | 3 => ("OnlyTwoEnemies$Country", "hatreds", "[I", true)
  | 4 => ("OnlyTwoEnemies$Country", "depths", "[I", true)
  | 5 => ("OnlyTwoEnemies$Country", "letterTowns", "[I", true)
  | 6 => ("OnlyTwoEnemies$Country", "openers", "[I", true)
  | 7 => ("OnlyTwoEnemies$Country", "keepers", "I", false)
  | 8 => ("OnlyTwoEnemies$Country", "letters", "I", false)
  | 9 => ("OnlyTwoEnemies$Country", "open", "I", false)
  | _ => ("OnlyTwoEnemies$Country", "week", "I", false)
def tyX1 : Nat → FieldType := fun k => match k with
  | 0 => .array .int
  | 1 => .array .int
  | 2 => .array .int
  | 3 => .array .int
  | 4 => .array .int
  | 5 => .array .int
  | 6 => .array .int
  | 7 => .int
  | 8 => .int
  | 9 => .int
  | _ => .int
abbrev wsX10 : List Cond := u_ws RX1 TX1 11
theorem nmX1 : ∀ a, a < 11 → ∀ b, b < 11 → a ≠ b → (TX1 a).2.1 ≠ (TX1 b).2.1 := by decide +kernel
theorem tyX1_ok : ∀ k, k < 11 → parseFieldDescriptor (TX1 k).2.2.1 = some (tyX1 k) := by decide +kernel
abbrev cX1_init : ByteArray := prog_3_method_1_code
def yX1_init : MethodName := ⟨RX1, "<init>", "()V"⟩
abbrev cX1_become : ByteArray := prog_3_method_2_code
def yX1_become : MethodName := ⟨RX1, "become", "(LOnlyTwoEnemies$Country;)V"⟩
abbrev cX1_keeperCount : ByteArray := prog_3_method_3_code
def yX1_keeperCount : MethodName := ⟨RX1, "keeperCount", "()I"⟩
abbrev cX1_letterCount : ByteArray := prog_3_method_4_code
def yX1_letterCount : MethodName := ⟨RX1, "letterCount", "()I"⟩
abbrev cX1_weekNow : ByteArray := prog_3_method_5_code
def yX1_weekNow : MethodName := ⟨RX1, "weekNow", "()I"⟩
abbrev cX1_openBits : ByteArray := prog_3_method_6_code
def yX1_openBits : MethodName := ⟨RX1, "openBits", "()I"⟩
abbrev cX1_openCount : ByteArray := prog_3_method_7_code
def yX1_openCount : MethodName := ⟨RX1, "openCount", "()I"⟩
abbrev cX1_hasKeeper : ByteArray := prog_3_method_8_code
def yX1_hasKeeper : MethodName := ⟨RX1, "hasKeeper", "(I)Z"⟩
abbrev cX1_hasLetter : ByteArray := prog_3_method_9_code
def yX1_hasLetter : MethodName := ⟨RX1, "hasLetter", "(I)Z"⟩
abbrev cX1_areTwo : ByteArray := prog_3_method_10_code
def yX1_areTwo : MethodName := ⟨RX1, "areTwo", "(II)Z"⟩
abbrev cX1_areBothIn : ByteArray := prog_3_method_11_code
def yX1_areBothIn : MethodName := ⟨RX1, "areBothIn", "(III)Z"⟩
abbrev cX1_hasKeeperRoom : ByteArray := prog_3_method_12_code
def yX1_hasKeeperRoom : MethodName := ⟨RX1, "hasKeeperRoom", "()Z"⟩
abbrev cX1_hasLetterRoom : ByteArray := prog_3_method_13_code
def yX1_hasLetterRoom : MethodName := ⟨RX1, "hasLetterRoom", "()Z"⟩
abbrev cX1_kindOf : ByteArray := prog_3_method_14_code
def yX1_kindOf : MethodName := ⟨RX1, "kindOf", "(I)I"⟩
abbrev cX1_figureOf : ByteArray := prog_3_method_15_code
def yX1_figureOf : MethodName := ⟨RX1, "figureOf", "(I)I"⟩
abbrev cX1_townOf : ByteArray := prog_3_method_16_code
def yX1_townOf : MethodName := ⟨RX1, "townOf", "(I)I"⟩
abbrev cX1_fadeOf : ByteArray := prog_3_method_17_code
def yX1_fadeOf : MethodName := ⟨RX1, "fadeOf", "(I)I"⟩
abbrev cX1_stirOf : ByteArray := prog_3_method_18_code
def yX1_stirOf : MethodName := ⟨RX1, "stirOf", "(I)I"⟩
abbrev cX1_wageOf : ByteArray := prog_3_method_19_code
def yX1_wageOf : MethodName := ⟨RX1, "wageOf", "(I)I"⟩
abbrev cX1_depthOf : ByteArray := prog_3_method_20_code
def yX1_depthOf : MethodName := ⟨RX1, "depthOf", "(I)I"⟩
abbrev cX1_letterTownOf : ByteArray := prog_3_method_21_code
def yX1_letterTownOf : MethodName := ⟨RX1, "letterTownOf", "(I)I"⟩
abbrev cX1_isOpen : ByteArray := prog_3_method_22_code
def yX1_isOpen : MethodName := ⟨RX1, "isOpen", "(I)Z"⟩
abbrev cX1_openedBy : ByteArray := prog_3_method_23_code
def yX1_openedBy : MethodName := ⟨RX1, "openedBy", "(I)I"⟩
abbrev cX1_hateOf : ByteArray := prog_3_method_24_code
def yX1_hateOf : MethodName := ⟨RX1, "hateOf", "(II)I"⟩
abbrev cX1_allHate : ByteArray := prog_3_method_25_code
def yX1_allHate : MethodName := ⟨RX1, "allHate", "()I"⟩
abbrev cX1_addKeeper : ByteArray := prog_3_method_26_code
def yX1_addKeeper : MethodName := ⟨RX1, "addKeeper", "(III)I"⟩
abbrev cX1_addLetter : ByteArray := prog_3_method_27_code
def yX1_addLetter : MethodName := ⟨RX1, "addLetter", "(II)I"⟩
abbrev cX1_setHate : ByteArray := prog_3_method_28_code
def yX1_setHate : MethodName := ⟨RX1, "setHate", "(III)V"⟩
abbrev cX1_setKind : ByteArray := prog_3_method_29_code
def yX1_setKind : MethodName := ⟨RX1, "setKind", "(II)V"⟩
abbrev cX1_setFigure : ByteArray := prog_3_method_30_code
def yX1_setFigure : MethodName := ⟨RX1, "setFigure", "(II)V"⟩
abbrev cX1_move : ByteArray := prog_3_method_31_code
def yX1_move : MethodName := ⟨RX1, "move", "(II)V"⟩
abbrev cX1_turnSeal : ByteArray := prog_3_method_32_code
def yX1_turnSeal : MethodName := ⟨RX1, "turnSeal", "(I)V"⟩
abbrev cX1_opener : ByteArray := prog_3_method_33_code
def yX1_opener : MethodName := ⟨RX1, "opener", "(I)I"⟩
abbrev cX1_passWeeks : ByteArray := prog_3_method_34_code
def yX1_passWeeks : MethodName := ⟨RX1, "passWeeks", "(I)I"⟩
abbrev cX1_passWeek : ByteArray := prog_3_method_35_code
def yX1_passWeek : MethodName := ⟨RX1, "passWeek", "()I"⟩
abbrev cX1_change : ByteArray := prog_3_method_36_code
def yX1_change : MethodName := ⟨RX1, "change", "(II)I"⟩
def RX2 : String := "OnlyTwoEnemies$Kinds"
def TX2 : u_T := fun k => match k with
  | _ => ("", "", "", false)
def tyX2 : Nat → FieldType := fun k => match k with
  | _ => .int
abbrev wsX20 : List Cond := u_ws RX2 TX2 0
theorem nmX2 : ∀ a, a < 0 → ∀ b, b < 0 → a ≠ b → (TX2 a).2.1 ≠ (TX2 b).2.1 := by decide +kernel
theorem tyX2_ok : ∀ k, k < 0 → parseFieldDescriptor (TX2 k).2.2.1 = some (tyX2 k) := by decide +kernel
abbrev cX2_fading : ByteArray := prog_4_method_2_code
def yX2_fading : MethodName := ⟨RX2, "fading", "(II)I"⟩
abbrev cX2_stirring : ByteArray := prog_4_method_3_code
def yX2_stirring : MethodName := ⟨RX2, "stirring", "(II)I"⟩
abbrev cX2_wage : ByteArray := prog_4_method_4_code
def yX2_wage : MethodName := ⟨RX2, "wage", "(II)I"⟩
def RX3 : String := "OnlyTwoEnemies$Look"
def TX3 : u_T := fun k => match k with
  | 0 => ("OnlyTwoEnemies$Look", "now", "LOnlyTwoEnemies$Country;", true)
  | _ => ("OnlyTwoEnemies$Look", "twosAmong", "[I", true)
def tyX3 : Nat → FieldType := fun k => match k with
  | 0 => .object "OnlyTwoEnemies$Country"
  | _ => .array .int
abbrev wsX30 : List Cond := u_ws RX3 TX3 2
theorem nmX3 : ∀ a, a < 2 → ∀ b, b < 2 → a ≠ b → (TX3 a).2.1 ≠ (TX3 b).2.1 := by decide +kernel
theorem tyX3_ok : ∀ k, k < 2 → parseFieldDescriptor (TX3 k).2.2.1 = some (tyX3 k) := by decide +kernel
abbrev cX3_init : ByteArray := prog_5_method_1_code
def yX3_init : MethodName := ⟨RX3, "<init>", "(LOnlyTwoEnemies$Country;)V"⟩
abbrev cX3_keepersIn : ByteArray := prog_5_method_2_code
def yX3_keepersIn : MethodName := ⟨RX3, "keepersIn", "(I)I"⟩
abbrev cX3_wages : ByteArray := prog_5_method_3_code
def yX3_wages : MethodName := ⟨RX3, "wages", "(I)I"⟩
abbrev cX3_crowd : ByteArray := prog_5_method_4_code
def yX3_crowd : MethodName := ⟨RX3, "crowd", "(I)I"⟩
abbrev cX3_townOfMost : ByteArray := prog_5_method_5_code
def yX3_townOfMost : MethodName := ⟨RX3, "townOfMost", "()I"⟩
abbrev cX3_mostHateIn : ByteArray := prog_5_method_6_code
def yX3_mostHateIn : MethodName := ⟨RX3, "mostHateIn", "(I)I"⟩
abbrev cX3_townsThatOpen : ByteArray := prog_5_method_7_code
def yX3_townsThatOpen : MethodName := ⟨RX3, "townsThatOpen", "(I)I"⟩
abbrev cX3_mostTwos : ByteArray := prog_5_method_8_code
def yX3_mostTwos : MethodName := ⟨RX3, "mostTwos", "(I)I"⟩
abbrev cX3_mostTwosWith : ByteArray := prog_5_method_9_code
def yX3_mostTwosWith : MethodName := ⟨RX3, "mostTwosWith", "(III)I"⟩
abbrev cX3_worstTwo : ByteArray := prog_5_method_10_code
def yX3_worstTwo : MethodName := ⟨RX3, "worstTwo", "(Z)I"⟩
abbrev cX3_friends : ByteArray := prog_5_method_11_code
def yX3_friends : MethodName := ⟨RX3, "friends", "()I"⟩
abbrev cX3_deepestSealed : ByteArray := prog_5_method_12_code
def yX3_deepestSealed : MethodName := ⟨RX3, "deepestSealed", "()I"⟩
abbrev cX3_leastHating : ByteArray := prog_5_method_13_code
def yX3_leastHating : MethodName := ⟨RX3, "leastHating", "()I"⟩
abbrev cX3_hatesTogether : ByteArray := prog_5_method_14_code
def yX3_hatesTogether : MethodName := ⟨RX3, "hatesTogether", "(I)I"⟩
abbrev cX3_hateOrSelf : ByteArray := prog_5_method_15_code
def yX3_hateOrSelf : MethodName := ⟨RX3, "hateOrSelf", "(II)I"⟩
abbrev cX3_mostHated : ByteArray := prog_5_method_16_code
def yX3_mostHated : MethodName := ⟨RX3, "mostHated", "(I)I"⟩
abbrev cX3_bareTowns : ByteArray := prog_5_method_17_code
def yX3_bareTowns : MethodName := ⟨RX3, "bareTowns", "()I"⟩
abbrev cX3_firstMisjudged : ByteArray := prog_5_method_18_code
def yX3_firstMisjudged : MethodName := ⟨RX3, "firstMisjudged", "(ILOnlyTwoEnemies$Row;)I"⟩
def RX4 : String := "OnlyTwoEnemies$Mind"
def TX4 : u_T := fun k => match k with
  | 0 => ("OnlyTwoEnemies$Mind", "now", "LOnlyTwoEnemies$Country;", true)
  | _ => ("OnlyTwoEnemies$Mind", "ahead", "LOnlyTwoEnemies$Country;", true)
def tyX4 : Nat → FieldType := fun k => match k with
  | 0 => .object "OnlyTwoEnemies$Country"
  | _ => .object "OnlyTwoEnemies$Country"
abbrev wsX40 : List Cond := u_ws RX4 TX4 2
theorem nmX4 : ∀ a, a < 2 → ∀ b, b < 2 → a ≠ b → (TX4 a).2.1 ≠ (TX4 b).2.1 := by decide +kernel
theorem tyX4_ok : ∀ k, k < 2 → parseFieldDescriptor (TX4 k).2.2.1 = some (tyX4 k) := by decide +kernel
abbrev cX4_init : ByteArray := prog_6_method_1_code
def yX4_init : MethodName := ⟨RX4, "<init>", "(LOnlyTwoEnemies$Country;)V"⟩
abbrev cX4_hateAfter : ByteArray := prog_6_method_2_code
def yX4_hateAfter : MethodName := ⟨RX4, "hateAfter", "(III)I"⟩
abbrev cX4_openBitsAfter : ByteArray := prog_6_method_3_code
def yX4_openBitsAfter : MethodName := ⟨RX4, "openBitsAfter", "(I)I"⟩
abbrev cX4_allHateAfter : ByteArray := prog_6_method_4_code
def yX4_allHateAfter : MethodName := ⟨RX4, "allHateAfter", "(I)I"⟩
abbrev cX4_weekOpened : ByteArray := prog_6_method_5_code
def yX4_weekOpened : MethodName := ⟨RX4, "weekOpened", "(I)I"⟩
abbrev cX4_openedBy : ByteArray := prog_6_method_6_code
def yX4_openedBy : MethodName := ⟨RX4, "openedBy", "(I)I"⟩
abbrev cX4_weekBelow : ByteArray := prog_6_method_7_code
def yX4_weekBelow : MethodName := ⟨RX4, "weekBelow", "(III)I"⟩
abbrev cX4_sealedFar : ByteArray := prog_6_method_8_code
def yX4_sealedFar : MethodName := ⟨RX4, "sealedFar", "()I"⟩
abbrev cX4_firstOpened : ByteArray := prog_6_method_9_code
def yX4_firstOpened : MethodName := ⟨RX4, "firstOpened", "()I"⟩
abbrev cX4_leastInsult : ByteArray := prog_6_method_10_code
def yX4_leastInsult : MethodName := ⟨RX4, "leastInsult", "(III)I"⟩
abbrev cX4_idleWeeks : ByteArray := prog_6_method_11_code
def yX4_idleWeeks : MethodName := ⟨RX4, "idleWeeks", "(I)I"⟩
abbrev cX4_openAsAllIs : ByteArray := prog_6_method_12_code
def yX4_openAsAllIs : MethodName := ⟨RX4, "openAsAllIs", "(I)I"⟩
abbrev cX4_bestSending : ByteArray := prog_6_method_13_code
def yX4_bestSending : MethodName := ⟨RX4, "bestSending", "(I)I"⟩
abbrev cX4_bestSwap : ByteArray := prog_6_method_14_code
def yX4_bestSwap : MethodName := ⟨RX4, "bestSwap", "(I)I"⟩
abbrev cX4_bestPlaces : ByteArray := prog_6_method_15_code
def yX4_bestPlaces : MethodName := ⟨RX4, "bestPlaces", "(IIII)I"⟩
abbrev cX4_openPlaced : ByteArray := prog_6_method_16_code
def yX4_openPlaced : MethodName := ⟨RX4, "openPlaced", "(IIIII)I"⟩
abbrev cX4_fewestKept : ByteArray := prog_6_method_17_code
def yX4_fewestKept : MethodName := ⟨RX4, "fewestKept", "(I)I"⟩
abbrev cX4_openKept : ByteArray := prog_6_method_18_code
def yX4_openKept : MethodName := ⟨RX4, "openKept", "(II)I"⟩
abbrev cX4_fittingHate : ByteArray := prog_6_method_19_code
def yX4_fittingHate : MethodName := ⟨RX4, "fittingHate", "(IILOnlyTwoEnemies$Row;I)I"⟩
abbrev cX4_opensAsTold : ByteArray := prog_6_method_20_code
def yX4_opensAsTold : MethodName := ⟨RX4, "opensAsTold", "(LOnlyTwoEnemies$Row;)Z"⟩
abbrev cX4_fittingKinds : ByteArray := prog_6_method_21_code
def yX4_fittingKinds : MethodName := ⟨RX4, "fittingKinds", "(IILOnlyTwoEnemies$Row;)I"⟩
abbrev cX4_fittingFigures : ByteArray := prog_6_method_22_code
def yX4_fittingFigures : MethodName := ⟨RX4, "fittingFigures", "(IILOnlyTwoEnemies$Row;)I"⟩
abbrev cX4_hatesAsTold : ByteArray := prog_6_method_23_code
def yX4_hatesAsTold : MethodName := ⟨RX4, "hatesAsTold", "(IILOnlyTwoEnemies$Row;)Z"⟩
abbrev cX4_settled : ByteArray := prog_6_method_24_code
def yX4_settled : MethodName := ⟨RX4, "settled", "(II)I"⟩
abbrev cX4_hateMadeUp : ByteArray := prog_6_method_25_code
def yX4_hateMadeUp : MethodName := ⟨RX4, "hateMadeUp", "(II)I"⟩
abbrev cX4_gain : ByteArray := prog_6_method_26_code
def yX4_gain : MethodName := ⟨RX4, "gain", "(IIIII)I"⟩
abbrev cX4_meetingWays : ByteArray := prog_6_method_27_code
def yX4_meetingWays : MethodName := ⟨RX4, "meetingWays", "(IIIII)J"⟩
abbrev cX4_byLot : ByteArray := prog_6_method_28_code
def yX4_byLot : MethodName := ⟨RX4, "byLot", "(III)I"⟩
def RX5 : String := "OnlyTwoEnemies$Past"
def TX5 : u_T := fun k => match k with
  | 0 => ("OnlyTwoEnemies$Past", "earlier", "[LOnlyTwoEnemies$Country;", true)
  | 1 => ("OnlyTwoEnemies$Past", "next", "I", false)
  | _ => ("OnlyTwoEnemies$Past", "size", "I", false)
def tyX5 : Nat → FieldType := fun k => match k with
  | 0 => .array (.object "OnlyTwoEnemies$Country")
  | 1 => .int
  | _ => .int
abbrev wsX50 : List Cond := u_ws RX5 TX5 3
theorem nmX5 : ∀ a, a < 3 → ∀ b, b < 3 → a ≠ b → (TX5 a).2.1 ≠ (TX5 b).2.1 := by decide +kernel
theorem tyX5_ok : ∀ k, k < 3 → parseFieldDescriptor (TX5 k).2.2.1 = some (tyX5 k) := by decide +kernel
abbrev cX5_init : ByteArray := prog_7_method_1_code
def yX5_init : MethodName := ⟨RX5, "<init>", "()V"⟩
abbrev cX5_size : ByteArray := prog_7_method_2_code
def yX5_size : MethodName := ⟨RX5, "size", "()I"⟩
abbrev cX5_forget : ByteArray := prog_7_method_3_code
def yX5_forget : MethodName := ⟨RX5, "forget", "()V"⟩
abbrev cX5_remember : ByteArray := prog_7_method_4_code
def yX5_remember : MethodName := ⟨RX5, "remember", "(LOnlyTwoEnemies$Country;)V"⟩
abbrev cX5_takeBack : ByteArray := prog_7_method_5_code
def yX5_takeBack : MethodName := ⟨RX5, "takeBack", "(LOnlyTwoEnemies$Country;)V"⟩
abbrev cX5_country : ByteArray := prog_7_method_6_code
def yX5_country : MethodName := ⟨RX5, "country", "(I)LOnlyTwoEnemies$Country;"⟩
def RX6 : String := "OnlyTwoEnemies$Row"
def TX6 : u_T := fun k => match k with
  | 0 => ("OnlyTwoEnemies$Row", "numbers", "[I", true)
  | _ => ("OnlyTwoEnemies$Row", "size", "I", false)
def tyX6 : Nat → FieldType := fun k => match k with
  | 0 => .array .int
  | _ => .int
abbrev wsX60 : List Cond := u_ws RX6 TX6 2
theorem nmX6 : ∀ a, a < 2 → ∀ b, b < 2 → a ≠ b → (TX6 a).2.1 ≠ (TX6 b).2.1 := by decide +kernel
theorem tyX6_ok : ∀ k, k < 2 → parseFieldDescriptor (TX6 k).2.2.1 = some (tyX6 k) := by decide +kernel
abbrev cX6_init : ByteArray := prog_8_method_1_code
def yX6_init : MethodName := ⟨RX6, "<init>", "()V"⟩
abbrev cX6_size : ByteArray := prog_8_method_2_code
def yX6_size : MethodName := ⟨RX6, "size", "()I"⟩
abbrev cX6_isFull : ByteArray := prog_8_method_3_code
def yX6_isFull : MethodName := ⟨RX6, "isFull", "()Z"⟩
abbrev cX6_add : ByteArray := prog_8_method_4_code
def yX6_add : MethodName := ⟨RX6, "add", "(I)I"⟩
abbrev cX6_number : ByteArray := prog_8_method_5_code
def yX6_number : MethodName := ⟨RX6, "number", "(I)I"⟩
abbrev cX6_empty : ByteArray := prog_8_method_6_code
def yX6_empty : MethodName := ⟨RX6, "empty", "()V"⟩
def RX7 : String := "OnlyTwoEnemies$Telling"
def TX7 : u_T := fun k => match k with
  | 0 => ("OnlyTwoEnemies$Telling", "signs", "[I", true)
  | _ => ("OnlyTwoEnemies$Telling", "size", "I", false)
def tyX7 : Nat → FieldType := fun k => match k with
  | 0 => .array .int
  | _ => .int
abbrev wsX70 : List Cond := u_ws RX7 TX7 2
theorem nmX7 : ∀ a, a < 2 → ∀ b, b < 2 → a ≠ b → (TX7 a).2.1 ≠ (TX7 b).2.1 := by decide +kernel
theorem tyX7_ok : ∀ k, k < 2 → parseFieldDescriptor (TX7 k).2.2.1 = some (tyX7 k) := by decide +kernel
abbrev cX7_init : ByteArray := prog_9_method_1_code
def yX7_init : MethodName := ⟨RX7, "<init>", "()V"⟩
abbrev cX7_size : ByteArray := prog_9_method_2_code
def yX7_size : MethodName := ⟨RX7, "size", "()I"⟩
abbrev cX7_isFull : ByteArray := prog_9_method_3_code
def yX7_isFull : MethodName := ⟨RX7, "isFull", "()Z"⟩
abbrev cX7_add : ByteArray := prog_9_method_4_code
def yX7_add : MethodName := ⟨RX7, "add", "(I)I"⟩
abbrev cX7_empty : ByteArray := prog_9_method_5_code
def yX7_empty : MethodName := ⟨RX7, "empty", "()V"⟩
abbrev cX7_tellTo : ByteArray := prog_9_method_6_code
def yX7_tellTo : MethodName := ⟨RX7, "tellTo", "(LOnlyTwoEnemies$Country;)I"⟩
abbrev cX7_brokenPlace : ByteArray := prog_9_method_7_code
def yX7_brokenPlace : MethodName := ⟨RX7, "brokenPlace", "()I"⟩
abbrev cX7_digitsBehind : ByteArray := prog_9_method_8_code
def yX7_digitsBehind : MethodName := ⟨RX7, "digitsBehind", "(I)I"⟩
abbrev cX7_isRight : ByteArray := prog_9_method_9_code
def yX7_isRight : MethodName := ⟨RX7, "isRight", "(ILOnlyTwoEnemies$Country;)Z"⟩
abbrev cX7_comes : ByteArray := prog_9_method_10_code
def yX7_comes : MethodName := ⟨RX7, "comes", "(ILOnlyTwoEnemies$Country;)V"⟩
abbrev cX7_sign : ByteArray := prog_9_method_11_code
def yX7_sign : MethodName := ⟨RX7, "sign", "(I)I"⟩
abbrev cX7_isDigit : ByteArray := prog_9_method_12_code
def yX7_isDigit : MethodName := ⟨RX7, "isDigit", "(I)Z"⟩
abbrev cX7_digit : ByteArray := prog_9_method_13_code
def yX7_digit : MethodName := ⟨RX7, "digit", "(I)I"⟩
abbrev cX7_twoDigits : ByteArray := prog_9_method_14_code
def yX7_twoDigits : MethodName := ⟨RX7, "twoDigits", "(I)I"⟩
def RX8 : String := "OnlyTwoEnemies"
def TX8 : u_T := fun k => match k with
  | 0 => ("OnlyTwoEnemies", "now", "LOnlyTwoEnemies$Country;", true)
  | 1 => ("OnlyTwoEnemies", "draft", "LOnlyTwoEnemies$Country;", true)
  | 2 => ("OnlyTwoEnemies", "kept", "LOnlyTwoEnemies$Country;", true)
  | 3 => ("OnlyTwoEnemies", "isKept", "Z", false)
  | 4 => ("OnlyTwoEnemies", "past", "LOnlyTwoEnemies$Past;", true)
  | 5 => ("OnlyTwoEnemies", "telling", "LOnlyTwoEnemies$Telling;", true)
  | 6 => ("OnlyTwoEnemies", "numbers", "LOnlyTwoEnemies$Row;", true)
  | 7 => ("OnlyTwoEnemies", "look", "LOnlyTwoEnemies$Look;", true)
  | 8 => ("OnlyTwoEnemies", "mind", "LOnlyTwoEnemies$Mind;", true)
  | _ => ("OnlyTwoEnemies", "refusals", "[I", true)
def tyX8 : Nat → FieldType := fun k => match k with
  | 0 => .object "OnlyTwoEnemies$Country"
  | 1 => .object "OnlyTwoEnemies$Country"
  | 2 => .object "OnlyTwoEnemies$Country"
  | 3 => .boolean
  | 4 => .object "OnlyTwoEnemies$Past"
  | 5 => .object "OnlyTwoEnemies$Telling"
  | 6 => .object "OnlyTwoEnemies$Row"
  | 7 => .object "OnlyTwoEnemies$Look"
  | 8 => .object "OnlyTwoEnemies$Mind"
  | _ => .array .int
abbrev wsX80 : List Cond := u_ws RX8 TX8 10
theorem nmX8 : ∀ a, a < 10 → ∀ b, b < 10 → a ≠ b → (TX8 a).2.1 ≠ (TX8 b).2.1 := by decide +kernel
theorem tyX8_ok : ∀ k, k < 10 → parseFieldDescriptor (TX8 k).2.2.1 = some (tyX8 k) := by decide +kernel
abbrev cX8_init : ByteArray := prog_1_method_1_code
def yX8_init : MethodName := ⟨RX8, "<init>", "()V"⟩
abbrev cX8_feed : ByteArray := prog_1_method_2_code
def yX8_feed : MethodName := ⟨RX8, "feed", "(I)I"⟩
abbrev cX8_land : ByteArray := prog_1_method_3_code
def yX8_land : MethodName := ⟨RX8, "land", "()I"⟩
abbrev cX8_keeperOf : ByteArray := prog_1_method_4_code
def yX8_keeperOf : MethodName := ⟨RX8, "keeperOf", "(II)I"⟩
abbrev cX8_letterOf : ByteArray := prog_1_method_5_code
def yX8_letterOf : MethodName := ⟨RX8, "letterOf", "(II)I"⟩
abbrev cX8_hate : ByteArray := prog_1_method_6_code
def yX8_hate : MethodName := ⟨RX8, "hate", "(II)I"⟩
abbrev cX8_count : ByteArray := prog_1_method_7_code
def yX8_count : MethodName := ⟨RX8, "count", "(I)I"⟩
abbrev cX8_keeper : ByteArray := prog_1_method_8_code
def yX8_keeper : MethodName := ⟨RX8, "keeper", "(III)I"⟩
abbrev cX8_letter : ByteArray := prog_1_method_9_code
def yX8_letter : MethodName := ⟨RX8, "letter", "(II)I"⟩
abbrev cX8_hates : ByteArray := prog_1_method_10_code
def yX8_hates : MethodName := ⟨RX8, "hates", "(III)I"⟩
abbrev cX8_goes : ByteArray := prog_1_method_11_code
def yX8_goes : MethodName := ⟨RX8, "goes", "(II)I"⟩
abbrev cX8_seals : ByteArray := prog_1_method_12_code
def yX8_seals : MethodName := ⟨RX8, "seals", "(I)I"⟩
abbrev cX8_weeks : ByteArray := prog_1_method_13_code
def yX8_weeks : MethodName := ⟨RX8, "weeks", "(I)I"⟩
abbrev cX8_back : ByteArray := prog_1_method_14_code
def yX8_back : MethodName := ⟨RX8, "back", "()I"⟩
abbrev cX8_image : ByteArray := prog_1_method_15_code
def yX8_image : MethodName := ⟨RX8, "image", "()I"⟩
abbrev cX8_restore : ByteArray := prog_1_method_16_code
def yX8_restore : MethodName := ⟨RX8, "restore", "()I"⟩
abbrev cX8_row : ByteArray := prog_1_method_17_code
def yX8_row : MethodName := ⟨RX8, "row", "(I)I"⟩
abbrev cX8_judge : ByteArray := prog_1_method_18_code
def yX8_judge : MethodName := ⟨RX8, "judge", "(I)I"⟩
abbrev cX8_clear : ByteArray := prog_1_method_19_code
def yX8_clear : MethodName := ⟨RX8, "clear", "()I"⟩
abbrev cX8_behind : ByteArray := prog_1_method_20_code
def yX8_behind : MethodName := ⟨RX8, "behind", "(III)I"⟩
abbrev cX8_then : ByteArray := prog_1_method_21_code
def yX8_then : MethodName := ⟨RX8, "then", "(II)I"⟩
abbrev cX8_when : ByteArray := prog_1_method_22_code
def yX8_when : MethodName := ⟨RX8, "when", "(II)I"⟩
abbrev cX8_lasts : ByteArray := prog_1_method_23_code
def yX8_lasts : MethodName := ⟨RX8, "lasts", "(III)I"⟩
abbrev cX8_never : ByteArray := prog_1_method_24_code
def yX8_never : MethodName := ⟨RX8, "never", "(I)I"⟩
abbrev cX8_insult : ByteArray := prog_1_method_25_code
def yX8_insult : MethodName := ⟨RX8, "insult", "(III)I"⟩
abbrev cX8_used : ByteArray := prog_1_method_26_code
def yX8_used : MethodName := ⟨RX8, "used", "(III)I"⟩
abbrev cX8_apart : ByteArray := prog_1_method_27_code
def yX8_apart : MethodName := ⟨RX8, "apart", "(I)I"⟩
abbrev cX8_two : ByteArray := prog_1_method_28_code
def yX8_two : MethodName := ⟨RX8, "two", "(II)I"⟩
abbrev cX8_send : ByteArray := prog_1_method_29_code
def yX8_send : MethodName := ⟨RX8, "send", "(I)I"⟩
abbrev cX8_swap : ByteArray := prog_1_method_30_code
def yX8_swap : MethodName := ⟨RX8, "swap", "(I)I"⟩
abbrev cX8_places : ByteArray := prog_1_method_31_code
def yX8_places : MethodName := ⟨RX8, "places", "(IIIII)I"⟩
abbrev cX8_fewest : ByteArray := prog_1_method_32_code
def yX8_fewest : MethodName := ⟨RX8, "fewest", "(II)I"⟩
abbrev cX8_pay : ByteArray := prog_1_method_33_code
def yX8_pay : MethodName := ⟨RX8, "pay", "(II)I"⟩
abbrev cX8_whoHates : ByteArray := prog_1_method_34_code
def yX8_whoHates : MethodName := ⟨RX8, "whoHates", "(III)I"⟩
abbrev cX8_whatKind : ByteArray := prog_1_method_35_code
def yX8_whatKind : MethodName := ⟨RX8, "whatKind", "(III)I"⟩
abbrev cX8_jug : ByteArray := prog_1_method_36_code
def yX8_jug : MethodName := ⟨RX8, "jug", "(IIII)J"⟩
abbrev cX8_meetings : ByteArray := prog_1_method_37_code
def yX8_meetings : MethodName := ⟨RX8, "meetings", "(IIIIII)J"⟩
abbrev cX8_lots : ByteArray := prog_1_method_38_code
def yX8_lots : MethodName := ⟨RX8, "lots", "(III)I"⟩
abbrev cX8_deepest : ByteArray := prog_1_method_39_code
def yX8_deepest : MethodName := ⟨RX8, "deepest", "(I)I"⟩
abbrev cX8_can : ByteArray := prog_1_method_40_code
def yX8_can : MethodName := ⟨RX8, "can", "(I)I"⟩
abbrev cX8_pairs : ByteArray := prog_1_method_41_code
def yX8_pairs : MethodName := ⟨RX8, "pairs", "(I)I"⟩
abbrev cX8_worst : ByteArray := prog_1_method_42_code
def yX8_worst : MethodName := ⟨RX8, "worst", "(I)I"⟩
abbrev cX8_fullest : ByteArray := prog_1_method_43_code
def yX8_fullest : MethodName := ⟨RX8, "fullest", "(I)I"⟩
abbrev cX8_thickest : ByteArray := prog_1_method_44_code
def yX8_thickest : MethodName := ⟨RX8, "thickest", "()I"⟩
abbrev cX8_mildest : ByteArray := prog_1_method_45_code
def yX8_mildest : MethodName := ⟨RX8, "mildest", "()I"⟩
abbrev cX8_bare : ByteArray := prog_1_method_46_code
def yX8_bare : MethodName := ⟨RX8, "bare", "()I"⟩
abbrev cX8_enemy : ByteArray := prog_1_method_47_code
def yX8_enemy : MethodName := ⟨RX8, "enemy", "(I)I"⟩
abbrev cX8_mean : ByteArray := prog_1_method_48_code
def yX8_mean : MethodName := ⟨RX8, "mean", "(I)J"⟩
abbrev cX8_refused : ByteArray := prog_1_method_49_code
def yX8_refused : MethodName := ⟨RX8, "refused", "(I)I"⟩
abbrev cX8_keeperRefusal : ByteArray := prog_1_method_50_code
def yX8_keeperRefusal : MethodName := ⟨RX8, "keeperRefusal", "(I)I"⟩
abbrev cX8_letterRefusal : ByteArray := prog_1_method_51_code
def yX8_letterRefusal : MethodName := ⟨RX8, "letterRefusal", "(I)I"⟩
abbrev cX8_twoRefusal : ByteArray := prog_1_method_52_code
def yX8_twoRefusal : MethodName := ⟨RX8, "twoRefusal", "(II)I"⟩
abbrev cX8_townRefusal : ByteArray := prog_1_method_53_code
def yX8_townRefusal : MethodName := ⟨RX8, "townRefusal", "(I)I"⟩
abbrev cX8_isTown : ByteArray := prog_1_method_54_code
def yX8_isTown : MethodName := ⟨RX8, "isTown", "(I)Z"⟩
abbrev cX8_range : ByteArray := prog_1_method_55_code
def yX8_range : MethodName := ⟨RX8, "range", "(III)I"⟩
abbrev cX8_choice : ByteArray := prog_1_method_56_code
def yX8_choice : MethodName := ⟨RX8, "choice", "(II)I"⟩
abbrev cX8_firstOf : ByteArray := prog_1_method_57_code
def yX8_firstOf : MethodName := ⟨RX8, "firstOf", "(III)I"⟩
abbrev cX8_at : ByteArray := prog_1_method_58_code
def yX8_at : MethodName := ⟨RX8, "at", "([II)I"⟩
abbrev cX8_put : ByteArray := prog_1_method_59_code
def yX8_put : MethodName := ⟨RX8, "put", "([III)V"⟩
abbrev cX8_copy : ByteArray := prog_1_method_60_code
def yX8_copy : MethodName := ⟨RX8, "copy", "([I[I)V"⟩
abbrev cX8_bit : ByteArray := prog_1_method_61_code
def yX8_bit : MethodName := ⟨RX8, "bit", "(II)I"⟩
abbrev cX8_twoName : ByteArray := prog_1_method_62_code
def yX8_twoName : MethodName := ⟨RX8, "twoName", "(II)I"⟩
def RX9 : String := "OnlyTwoEnemiesModel"
def TX9 : u_T := fun k => match k with
  | 0 => ("OnlyTwoEnemiesModel", "refused", "[I", true)
  | 1 => ("OnlyTwoEnemiesModel", "kind", "[I", true)
  | 2 => ("OnlyTwoEnemiesModel", "figure", "[I", true)
  | 3 => ("OnlyTwoEnemiesModel", "town", "[I", true)
  | 4 => ("OnlyTwoEnemiesModel", "hate", "[I", true)
  | 5 => ("OnlyTwoEnemiesModel", "depth", "[I", true)
  | 6 => ("OnlyTwoEnemiesModel", "lies", "[I", true)
  | 7 => ("OnlyTwoEnemiesModel", "open", "[I", true)
  | 8 => ("OnlyTwoEnemiesModel", "keepers", "I", false)
  | 9 => ("OnlyTwoEnemiesModel", "letters", "I", false)
  | 10 => ("OnlyTwoEnemiesModel", "week", "I", false)
  | 11 => ("OnlyTwoEnemiesModel", "out", "I", false)
  | 12 => ("OnlyTwoEnemiesModel", "tape", "[I", true)
  | 13 => ("OnlyTwoEnemiesModel", "mark", "[I", true)
  | 14 => ("OnlyTwoEnemiesModel", "markAt", "[I", true)
  | 15 => ("OnlyTwoEnemiesModel", "told", "[I", true)
  | 16 => ("OnlyTwoEnemiesModel", "taped", "I", false)
  | 17 => ("OnlyTwoEnemiesModel", "reading", "I", false)
  | 18 => ("OnlyTwoEnemiesModel", "statements", "I", false)
  | 19 => ("OnlyTwoEnemiesModel", "kept", "[I", true)
  | 20 => ("OnlyTwoEnemiesModel", "hasImage", "Z", false)
  | 21 => ("OnlyTwoEnemiesModel", "isKeeping", "Z", false)
  | 22 => ("OnlyTwoEnemiesModel", "cursor", "I", false)
  | 23 => ("OnlyTwoEnemiesModel", "backs", "I", false)
  | 24 => ("OnlyTwoEnemiesModel", "openedBy", "[I", true)
  | 25 => ("OnlyTwoEnemiesModel", "openedNow", "I", false)
  | 26 => ("OnlyTwoEnemiesModel", "byWhom", "I", false)
  | 27 => ("OnlyTwoEnemiesModel", "twosOf", "[I", true)
  | 28 => ("OnlyTwoEnemiesModel", "row", "[I", true)
  | 29 => ("OnlyTwoEnemiesModel", "rowMany", "I", false)
  | _ => ("OnlyTwoEnemiesModel", "lots", "I", false)
def tyX9 : Nat → FieldType := fun k => match k with
  | 0 => .array .int
  | 1 => .array .int
  | 2 => .array .int
  | 3 => .array .int
  | 4 => .array .int
  | 5 => .array .int
  | 6 => .array .int
  | 7 => .array .int
  | 8 => .int
  | 9 => .int
  | 10 => .int
  | 11 => .int
  | 12 => .array .int
  | 13 => .array .int
  | 14 => .array .int
  | 15 => .array .int
  | 16 => .int
  | 17 => .int
  | 18 => .int
  | 19 => .array .int
  | 20 => .boolean
  | 21 => .boolean
  | 22 => .int
  | 23 => .int
  | 24 => .array .int
  | 25 => .int
  | 26 => .int
  | 27 => .array .int
  | 28 => .array .int
  | 29 => .int
  | _ => .int
abbrev wsX90 : List Cond := u_ws RX9 TX9 31
theorem nmX9 : ∀ a, a < 31 → ∀ b, b < 31 → a ≠ b → (TX9 a).2.1 ≠ (TX9 b).2.1 := by decide +kernel
theorem tyX9_ok : ∀ k, k < 31 → parseFieldDescriptor (TX9 k).2.2.1 = some (tyX9 k) := by decide +kernel
abbrev cX9_init : ByteArray := prog_11_method_1_code
def yX9_init : MethodName := ⟨RX9, "<init>", "()V"⟩
abbrev cX9_no : ByteArray := prog_11_method_2_code
def yX9_no : MethodName := ⟨RX9, "no", "(I)I"⟩
abbrev cX9_lower : ByteArray := prog_11_method_3_code
def yX9_lower : MethodName := ⟨RX9, "lower", "(I)I"⟩
abbrev cX9_lowestOf : ByteArray := prog_11_method_4_code
def yX9_lowestOf : MethodName := ⟨RX9, "lowestOf", "(I)J"⟩
abbrev cX9_isIn : ByteArray := prog_11_method_5_code
def yX9_isIn : MethodName := ⟨RX9, "isIn", "(III)Z"⟩
abbrev cX9_bound : ByteArray := prog_11_method_6_code
def yX9_bound : MethodName := ⟨RX9, "bound", "(III)I"⟩
abbrev cX9_held : ByteArray := prog_11_method_7_code
def yX9_held : MethodName := ⟨RX9, "held", "(III)I"⟩
abbrev cX9_has : ByteArray := prog_11_method_8_code
def yX9_has : MethodName := ⟨RX9, "has", "(II)Z"⟩
abbrev cX9_bits : ByteArray := prog_11_method_9_code
def yX9_bits : MethodName := ⟨RX9, "bits", "(I)I"⟩
abbrev cX9_isKeeper : ByteArray := prog_11_method_10_code
def yX9_isKeeper : MethodName := ⟨RX9, "isKeeper", "(I)Z"⟩
abbrev cX9_areTwo : ByteArray := prog_11_method_11_code
def yX9_areTwo : MethodName := ⟨RX9, "areTwo", "(II)Z"⟩
abbrev cX9_isLetter : ByteArray := prog_11_method_12_code
def yX9_isLetter : MethodName := ⟨RX9, "isLetter", "(I)Z"⟩
abbrev cX9_isTown : ByteArray := prog_11_method_13_code
def yX9_isTown : MethodName := ⟨RX9, "isTown", "(I)Z"⟩
abbrev cX9_hateOf : ByteArray := prog_11_method_14_code
def yX9_hateOf : MethodName := ⟨RX9, "hateOf", "(II)I"⟩
abbrev cX9_sets : ByteArray := prog_11_method_15_code
def yX9_sets : MethodName := ⟨RX9, "sets", "(III)V"⟩
abbrev cX9_feed : ByteArray := prog_11_method_16_code
def yX9_feed : MethodName := ⟨RX9, "feed", "(I)I"⟩
abbrev cX9_next : ByteArray := prog_11_method_17_code
def yX9_next : MethodName := ⟨RX9, "next", "()I"⟩
abbrev cX9_readsDigits : ByteArray := prog_11_method_18_code
def yX9_readsDigits : MethodName := ⟨RX9, "readsDigits", "(II)Z"⟩
abbrev cX9_readsAll : ByteArray := prog_11_method_19_code
def yX9_readsAll : MethodName := ⟨RX9, "readsAll", "(II)Z"⟩
abbrev cX9_statement : ByteArray := prog_11_method_20_code
def yX9_statement : MethodName := ⟨RX9, "statement", "()Z"⟩
abbrev cX9_comesKeeper : ByteArray := prog_11_method_21_code
def yX9_comesKeeper : MethodName := ⟨RX9, "comesKeeper", "(III)Z"⟩
abbrev cX9_comesLetter : ByteArray := prog_11_method_22_code
def yX9_comesLetter : MethodName := ⟨RX9, "comesLetter", "(II)Z"⟩
abbrev cX9_comesWeeks : ByteArray := prog_11_method_23_code
def yX9_comesWeeks : MethodName := ⟨RX9, "comesWeeks", "(I)Z"⟩
abbrev cX9_comes : ByteArray := prog_11_method_24_code
def yX9_comes : MethodName := ⟨RX9, "comes", "(I)Z"⟩
abbrev cX9_land : ByteArray := prog_11_method_25_code
def yX9_land : MethodName := ⟨RX9, "land", "()I"⟩
abbrev cX9_passes : ByteArray := prog_11_method_26_code
def yX9_passes : MethodName := ⟨RX9, "passes", "([I)V"⟩
abbrev cX9_passOne : ByteArray := prog_11_method_27_code
def yX9_passOne : MethodName := ⟨RX9, "passOne", "(I)I"⟩
abbrev cX9_passesAll : ByteArray := prog_11_method_28_code
def yX9_passesAll : MethodName := ⟨RX9, "passesAll", "(IZ)V"⟩
abbrev cX9_thinks : ByteArray := prog_11_method_29_code
def yX9_thinks : MethodName := ⟨RX9, "thinks", "()V"⟩
abbrev cX9_forgets : ByteArray := prog_11_method_30_code
def yX9_forgets : MethodName := ⟨RX9, "forgets", "()V"⟩
abbrev cX9_changes : ByteArray := prog_11_method_31_code
def yX9_changes : MethodName := ⟨RX9, "changes", "()V"⟩
abbrev cX9_changesBack : ByteArray := prog_11_method_32_code
def yX9_changesBack : MethodName := ⟨RX9, "changesBack", "()V"⟩
abbrev cX9_keepsBack : ByteArray := prog_11_method_33_code
def yX9_keepsBack : MethodName := ⟨RX9, "keepsBack", "()V"⟩
abbrev cX9_back : ByteArray := prog_11_method_34_code
def yX9_back : MethodName := ⟨RX9, "back", "()I"⟩
abbrev cX9_image : ByteArray := prog_11_method_35_code
def yX9_image : MethodName := ⟨RX9, "image", "()I"⟩
abbrev cX9_restore : ByteArray := prog_11_method_36_code
def yX9_restore : MethodName := ⟨RX9, "restore", "()I"⟩
abbrev cX9_addsKeeper : ByteArray := prog_11_method_37_code
def yX9_addsKeeper : MethodName := ⟨RX9, "addsKeeper", "(III)V"⟩
abbrev cX9_addsLetter : ByteArray := prog_11_method_38_code
def yX9_addsLetter : MethodName := ⟨RX9, "addsLetter", "(II)V"⟩
abbrev cX9_fadesOf : ByteArray := prog_11_method_39_code
def yX9_fadesOf : MethodName := ⟨RX9, "fadesOf", "(I)I"⟩
abbrev cX9_stirsOf : ByteArray := prog_11_method_40_code
def yX9_stirsOf : MethodName := ⟨RX9, "stirsOf", "(I)I"⟩
abbrev cX9_payOf : ByteArray := prog_11_method_41_code
def yX9_payOf : MethodName := ⟨RX9, "payOf", "(I)I"⟩
abbrev cX9_areThere : ByteArray := prog_11_method_42_code
def yX9_areThere : MethodName := ⟨RX9, "areThere", "(III)Z"⟩
abbrev cX9_opensAt : ByteArray := prog_11_method_43_code
def yX9_opensAt : MethodName := ⟨RX9, "opensAt", "(II)I"⟩
abbrev cX9_fadesTwo : ByteArray := prog_11_method_44_code
def yX9_fadesTwo : MethodName := ⟨RX9, "fadesTwo", "(II)V"⟩
abbrev cX9_goesWeek : ByteArray := prog_11_method_45_code
def yX9_goesWeek : MethodName := ⟨RX9, "goesWeek", "()V"⟩
abbrev cX9_goesOn : ByteArray := prog_11_method_46_code
def yX9_goesOn : MethodName := ⟨RX9, "goesOn", "(I)V"⟩
abbrev cX9_openOnes : ByteArray := prog_11_method_47_code
def yX9_openOnes : MethodName := ⟨RX9, "openOnes", "()I"⟩
abbrev cX9_allHate : ByteArray := prog_11_method_48_code
def yX9_allHate : MethodName := ⟨RX9, "allHate", "()I"⟩
abbrev cX9_keeperOf : ByteArray := prog_11_method_49_code
def yX9_keeperOf : MethodName := ⟨RX9, "keeperOf", "(II)I"⟩
abbrev cX9_letterOf : ByteArray := prog_11_method_50_code
def yX9_letterOf : MethodName := ⟨RX9, "letterOf", "(II)I"⟩
abbrev cX9_hate : ByteArray := prog_11_method_51_code
def yX9_hate : MethodName := ⟨RX9, "hate", "(II)I"⟩
abbrev cX9_keeper : ByteArray := prog_11_method_52_code
def yX9_keeper : MethodName := ⟨RX9, "keeper", "(III)I"⟩
abbrev cX9_letter : ByteArray := prog_11_method_53_code
def yX9_letter : MethodName := ⟨RX9, "letter", "(II)I"⟩
abbrev cX9_hates : ByteArray := prog_11_method_54_code
def yX9_hates : MethodName := ⟨RX9, "hates", "(III)I"⟩
abbrev cX9_goes : ByteArray := prog_11_method_55_code
def yX9_goes : MethodName := ⟨RX9, "goes", "(II)I"⟩
abbrev cX9_seals : ByteArray := prog_11_method_56_code
def yX9_seals : MethodName := ⟨RX9, "seals", "(I)I"⟩
abbrev cX9_weeks : ByteArray := prog_11_method_57_code
def yX9_weeks : MethodName := ⟨RX9, "weeks", "(I)I"⟩
abbrev cX9_notWeeks : ByteArray := prog_11_method_58_code
def yX9_notWeeks : MethodName := ⟨RX9, "notWeeks", "(I)I"⟩
abbrev cX9_hateIn : ByteArray := prog_11_method_59_code
def yX9_hateIn : MethodName := ⟨RX9, "hateIn", "(III)I"⟩
abbrev cX9_openIn : ByteArray := prog_11_method_60_code
def yX9_openIn : MethodName := ⟨RX9, "openIn", "(I)I"⟩
abbrev cX9_behind : ByteArray := prog_11_method_61_code
def yX9_behind : MethodName := ⟨RX9, "behind", "(III)I"⟩
abbrev cX9_then : ByteArray := prog_11_method_62_code
def yX9_then : MethodName := ⟨RX9, "then", "(II)I"⟩
abbrev cX9_whenOf : ByteArray := prog_11_method_63_code
def yX9_whenOf : MethodName := ⟨RX9, "whenOf", "(I)I"⟩
abbrev cX9_when : ByteArray := prog_11_method_64_code
def yX9_when : MethodName := ⟨RX9, "when", "(II)I"⟩
abbrev cX9_lasts : ByteArray := prog_11_method_65_code
def yX9_lasts : MethodName := ⟨RX9, "lasts", "(III)I"⟩
abbrev cX9_firstOne : ByteArray := prog_11_method_66_code
def yX9_firstOne : MethodName := ⟨RX9, "firstOne", "()I"⟩
abbrev cX9_never : ByteArray := prog_11_method_67_code
def yX9_never : MethodName := ⟨RX9, "never", "(I)I"⟩
abbrev cX9_isOpenedBy : ByteArray := prog_11_method_68_code
def yX9_isOpenedBy : MethodName := ⟨RX9, "isOpenedBy", "(III)Z"⟩
abbrev cX9_insult : ByteArray := prog_11_method_69_code
def yX9_insult : MethodName := ⟨RX9, "insult", "(III)I"⟩
abbrev cX9_manyAt : ByteArray := prog_11_method_70_code
def yX9_manyAt : MethodName := ⟨RX9, "manyAt", "(III)I"⟩
abbrev cX9_send : ByteArray := prog_11_method_71_code
def yX9_send : MethodName := ⟨RX9, "send", "(I)I"⟩
abbrev cX9_places : ByteArray := prog_11_method_72_code
def yX9_places : MethodName := ⟨RX9, "places", "(IIIII)I"⟩
abbrev cX9_manyBy : ByteArray := prog_11_method_73_code
def yX9_manyBy : MethodName := ⟨RX9, "manyBy", "(II)I"⟩
abbrev cX9_payOfAll : ByteArray := prog_11_method_74_code
def yX9_payOfAll : MethodName := ⟨RX9, "payOfAll", "(I)I"⟩
abbrev cX9_fewest : ByteArray := prog_11_method_75_code
def yX9_fewest : MethodName := ⟨RX9, "fewest", "(II)I"⟩
abbrev cX9_keepersIn : ByteArray := prog_11_method_76_code
def yX9_keepersIn : MethodName := ⟨RX9, "keepersIn", "(I)I"⟩
abbrev cX9_pay : ByteArray := prog_11_method_77_code
def yX9_pay : MethodName := ⟨RX9, "pay", "(II)I"⟩
abbrev cX9_deepest : ByteArray := prog_11_method_78_code
def yX9_deepest : MethodName := ⟨RX9, "deepest", "(I)I"⟩
abbrev cX9_findTwos : ByteArray := prog_11_method_79_code
def yX9_findTwos : MethodName := ⟨RX9, "findTwos", "(II)V"⟩
abbrev cX9_pairs : ByteArray := prog_11_method_80_code
def yX9_pairs : MethodName := ⟨RX9, "pairs", "(I)I"⟩
abbrev cX9_worst : ByteArray := prog_11_method_81_code
def yX9_worst : MethodName := ⟨RX9, "worst", "(I)I"⟩
abbrev cX9_opensSo : ByteArray := prog_11_method_82_code
def yX9_opensSo : MethodName := ⟨RX9, "opensSo", "()Z"⟩
abbrev cX9_whoHates : ByteArray := prog_11_method_83_code
def yX9_whoHates : MethodName := ⟨RX9, "whoHates", "(III)I"⟩
abbrev cX9_hatesSo : ByteArray := prog_11_method_84_code
def yX9_hatesSo : MethodName := ⟨RX9, "hatesSo", "(II)Z"⟩
abbrev cX9_bitsFor : ByteArray := prog_11_method_85_code
def yX9_bitsFor : MethodName := ⟨RX9, "bitsFor", "([IIII)I"⟩
abbrev cX9_whatKind : ByteArray := prog_11_method_86_code
def yX9_whatKind : MethodName := ⟨RX9, "whatKind", "(III)I"⟩
abbrev cX9_divisor : ByteArray := prog_11_method_87_code
def yX9_divisor : MethodName := ⟨RX9, "divisor", "(JJ)J"⟩
abbrev cX9_partOf : ByteArray := prog_11_method_88_code
def yX9_partOf : MethodName := ⟨RX9, "partOf", "(JJI)J"⟩
abbrev cX9_partsOf : ByteArray := prog_11_method_89_code
def yX9_partsOf : MethodName := ⟨RX9, "partsOf", "(III)J"⟩
abbrev cX9_power : ByteArray := prog_11_method_90_code
def yX9_power : MethodName := ⟨RX9, "power", "(II)J"⟩
abbrev cX9_jug : ByteArray := prog_11_method_91_code
def yX9_jug : MethodName := ⟨RX9, "jug", "(IIII)J"⟩
abbrev cX9_getsOf : ByteArray := prog_11_method_92_code
def yX9_getsOf : MethodName := ⟨RX9, "getsOf", "(IIII)I"⟩
abbrev cX9_two : ByteArray := prog_11_method_93_code
def yX9_two : MethodName := ⟨RX9, "two", "(II)I"⟩
abbrev cX9_isOpenMeeting : ByteArray := prog_11_method_94_code
def yX9_isOpenMeeting : MethodName := ⟨RX9, "isOpenMeeting", "(IIIII)Z"⟩
abbrev cX9_meetings : ByteArray := prog_11_method_95_code
def yX9_meetings : MethodName := ⟨RX9, "meetings", "(IIIIII)J"⟩
abbrev cX9_fullest : ByteArray := prog_11_method_96_code
def yX9_fullest : MethodName := ⟨RX9, "fullest", "(I)I"⟩
abbrev cX9_thickest : ByteArray := prog_11_method_97_code
def yX9_thickest : MethodName := ⟨RX9, "thickest", "()I"⟩
abbrev cX9_hatesOf : ByteArray := prog_11_method_98_code
def yX9_hatesOf : MethodName := ⟨RX9, "hatesOf", "(I)I"⟩
abbrev cX9_mildest : ByteArray := prog_11_method_99_code
def yX9_mildest : MethodName := ⟨RX9, "mildest", "()I"⟩
abbrev cX9_bare : ByteArray := prog_11_method_100_code
def yX9_bare : MethodName := ⟨RX9, "bare", "()I"⟩
abbrev cX9_mean : ByteArray := prog_11_method_101_code
def yX9_mean : MethodName := ⟨RX9, "mean", "(I)J"⟩
abbrev cX9_used : ByteArray := prog_11_method_102_code
def yX9_used : MethodName := ⟨RX9, "used", "(III)I"⟩
abbrev cX9_manySwapped : ByteArray := prog_11_method_103_code
def yX9_manySwapped : MethodName := ⟨RX9, "manySwapped", "(III)I"⟩
abbrev cX9_swap : ByteArray := prog_11_method_104_code
def yX9_swap : MethodName := ⟨RX9, "swap", "(I)I"⟩
abbrev cX9_apart : ByteArray := prog_11_method_105_code
def yX9_apart : MethodName := ⟨RX9, "apart", "(I)I"⟩
abbrev cX9_enemy : ByteArray := prog_11_method_106_code
def yX9_enemy : MethodName := ⟨RX9, "enemy", "(I)I"⟩
abbrev cX9_can : ByteArray := prog_11_method_107_code
def yX9_can : MethodName := ⟨RX9, "can", "(I)I"⟩
abbrev cX9_row : ByteArray := prog_11_method_108_code
def yX9_row : MethodName := ⟨RX9, "row", "(I)I"⟩
abbrev cX9_judge : ByteArray := prog_11_method_109_code
def yX9_judge : MethodName := ⟨RX9, "judge", "(I)I"⟩
abbrev cX9_clear : ByteArray := prog_11_method_110_code
def yX9_clear : MethodName := ⟨RX9, "clear", "()I"⟩
abbrev cX9_draw : ByteArray := prog_11_method_111_code
def yX9_draw : MethodName := ⟨RX9, "draw", "(I)I"⟩
abbrev cX9_lots : ByteArray := prog_11_method_112_code
def yX9_lots : MethodName := ⟨RX9, "lots", "(III)I"⟩
abbrev cX9_count : ByteArray := prog_11_method_113_code
def yX9_count : MethodName := ⟨RX9, "count", "(I)I"⟩
def RJ6 : String := "java/lang/Integer"
def TJ6 : u_T := fun k => match k with
  | _ => ("", "", "", false)
def tyJ6 : Nat → FieldType := fun k => match k with
  | _ => .int
abbrev wsJ60 : List Cond := u_ws RJ6 TJ6 0
theorem nmJ6 : ∀ a, a < 0 → ∀ b, b < 0 → a ≠ b → (TJ6 a).2.1 ≠ (TJ6 b).2.1 := by decide +kernel
theorem tyJ6_ok : ∀ k, k < 0 → parseFieldDescriptor (TJ6 k).2.2.1 = some (tyJ6 k) := by decide +kernel
abbrev cJ6_bitCount_0f7a4 : ByteArray := prog_12_method_49_code
def yJ6_bitCount_0f7a4 : MethodName := ⟨RJ6, "bitCount", "(I)I"⟩
def RJ9 : String := "java/lang/Math"
def TJ9 : u_T := fun k => match k with
  | _ => ("", "", "", false)
def tyJ9 : Nat → FieldType := fun k => match k with
  | _ => .int
abbrev wsJ90 : List Cond := u_ws RJ9 TJ9 0
theorem nmJ9 : ∀ a, a < 0 → ∀ b, b < 0 → a ≠ b → (TJ9 a).2.1 ≠ (TJ9 b).2.1 := by decide +kernel
theorem tyJ9_ok : ∀ k, k < 0 → parseFieldDescriptor (TJ9 k).2.2.1 = some (tyJ9 k) := by decide +kernel
abbrev cJ9_max_7cf53 : ByteArray := prog_13_method_65_code
def yJ9_max_7cf53 : MethodName := ⟨RJ9, "max", "(II)I"⟩
abbrev cJ9_min_7cf53 : ByteArray := prog_13_method_69_code
def yJ9_min_7cf53 : MethodName := ⟨RJ9, "min", "(II)I"⟩
def RJ10 : String := "java/lang/System"
def TJ10 : u_T := fun k => match k with
  | _ => ("", "", "", false)
def tyJ10 : Nat → FieldType := fun k => match k with
  | _ => .int
abbrev wsJ100 : List Cond := u_ws RJ10 TJ10 0
theorem nmJ10 : ∀ a, a < 0 → ∀ b, b < 0 → a ≠ b → (TJ10 a).2.1 ≠ (TJ10 b).2.1 := by decide +kernel
theorem tyJ10_ok : ∀ k, k < 0 → parseFieldDescriptor (TJ10 k).2.2.1 = some (tyJ10 k) := by decide +kernel
def RJ7 : String := "java/util/Arrays"
def TJ7 : u_T := fun k => match k with
  | _ => ("", "", "", false)
def tyJ7 : Nat → FieldType := fun k => match k with
  | _ => .int
abbrev wsJ70 : List Cond := u_ws RJ7 TJ7 0
theorem nmJ7 : ∀ a, a < 0 → ∀ b, b < 0 → a ≠ b → (TJ7 a).2.1 ≠ (TJ7 b).2.1 := by decide +kernel
theorem tyJ7_ok : ∀ k, k < 0 → parseFieldDescriptor (TJ7 k).2.2.1 = some (tyJ7 k) := by decide +kernel
abbrev cJ7_fill_53178 : ByteArray := prog_15_method_103_code
def yJ7_fill_53178 : MethodName := ⟨RJ7, "fill", "([II)V"⟩
def RL : String := "OnlyTwoEnemiesLaw"
abbrev cL_law : ByteArray := code
def yL_law : MethodName := ⟨RL, "law", "([I)Z"⟩
abbrev vwCl : List vw_C := [(RX1, TX1, 11), (RX3, TX3, 2), (RX4, TX4, 2), (RX5, TX5, 3), (RX6, TX6, 2), (RX7, TX7, 2), (RX8, TX8, 10), (RX9, TX9, 31)]
end
section
/-! the world: cells by number; st k j: the int in place j of cell k -/
abbrev St : Type := Nat → Nat → Int32
def u1 (st : St) (k : Nat) (f : Nat → Int32) : St := fun j => if j = k then f else st j
def u2 (st : St) (k j : Nat) (v : Int32) : St := u1 st k (upd (st k) j v)
abbrev Sy : Type := va_G × ClassId × ClassId × (Nat → Nat)
abbrev En : Type := Sy → Nat → (Nat → Int32) → va_E
abbrev ad (y : Sy) (k : Nat) : Nat := y.2.2.2 k
def gW (N : Nat) (en : En) (y : Sy) (st : St) : va_W := (List.range N).map fun k => (ad y k, en y k (st k))
theorem gW_at {N : Nat} {en : En} {y : Sy} {st : St} {k : Nat} (hk : k < N) : (gW N en y st)[k]? = some (ad y k, en y k (st k)) := by
  simp [gW, hk]
theorem gW_set {N : Nat} {en : En} {y : Sy} {st : St} {k : Nat} (hk : k < N) (f : Nat → Int32) : (gW N en y st).set k (ad y k, en y k f) = gW N en y (u1 st k f) := by
  apply List.ext_getElem?
  intro i
  by_cases hi : i = k
  · subst hi
    rw [List.getElem?_set_self (by simp [gW, hk]), gW_at hk]
    simp [u1]
  · rw [List.getElem?_set_ne (fun h => hi h.symm)]
    by_cases hl : i < N
    · rw [gW_at hl, gW_at hl]; simp [u1, hi]
    · simp [gW, hl]
def gA (N : Nat) (y : Sy) : Nat → Prop := fun q => ∃ k, k < N ∧ q = ad y k
abbrev gT (y : Sy) : List (ClassId × FieldType) := [(y.2.1, .int), (y.2.2.1, .object "OnlyTwoEnemies$Country")]
def gB (N : Nat) (en : En) (y : Sy) (st : St) (U : State) : Prop := va_P y.1 vwCl (gW N en y st) U.heap ∧ va_K y.1 vwCl (gT y) U ∧ va_D (gA N y) (gW N en y st)
def gH (N : Nat) (en : En) (y : Sy) (st : St) (s : State) (H : Heap) (locs : List Loc) : Prop := va_P y.1 vwCl (gW N en y st) H ∧ va_D (gA N y) (gW N en y st) ∧ va_S (gA N y) s.heap H locs
def isNest : Cond → Bool
  | .methodLinkNest .. => true
  | _ => false
def nW (U : State) : Prop := ∀ w ∈ lw_tbl, isNest w = true → va_Nw w U
theorem nW.warm {s U : State} (hW : s.WarmedH U.vm) (h : nW s) : nW U := by
  intro w hw hn
  cases w <;> first | (cases hn; done) | exact va_Nw.warmM hW (h _ hw hn)
theorem nW.same {s U : State} (hv : s.vm = U.vm) (h : nW s) : nW U := by
  intro w hw hn
  cases w <;> first | (cases hn; done) | exact va_Nw.same rfl hv (h _ hw hn)
def gP (N : Nat) (en : En) (y : Sy) (st : St) (U : State) : Prop := gB N en y st U ∧ nW U
def cw (Y : MethodName) (b : ByteArray) (n : Nat) (ret : Option FieldType) : List Cond := .code Y b n ret :: lw_g
abbrev rmm (fr lo : Nat) : Room := { frames := fr, cells := 0, slots := 0, locals := lo }
abbrev Ci (N : Nat) (en : En) (l : Launch) (Y : MethodName) (b : ByteArray) (n : Nat) (ret : Option FieldType) (fr lo : Nat) (y : Sy) (av : List Value) (st : St) (K : Int32 → St → Prop) : Prop :=
  Met l Y (cw Y b n ret) (rmm fr lo) (va_Pc av (gP N en y st)) (va_Qi K (gB N en y) (gA N y)) 0 0 (gA N y)
abbrev Cl (N : Nat) (en : En) (l : Launch) (Y : MethodName) (b : ByteArray) (n : Nat) (ret : Option FieldType) (fr lo : Nat) (y : Sy) (av : List Value) (st : St) (K : Int64 → St → Prop) : Prop :=
  Met l Y (cw Y b n ret) (rmm fr lo) (va_Pc av (gP N en y st)) (va_Ql K (gB N en y) (gA N y)) 0 0 (gA N y)
abbrev Cv (N : Nat) (en : En) (l : Launch) (Y : MethodName) (b : ByteArray) (n : Nat) (ret : Option FieldType) (fr lo : Nat) (y : Sy) (av : List Value) (st : St) (K : St → Prop) : Prop :=
  Met l Y (cw Y b n ret) (rmm fr lo) (va_Pc av (gP N en y st)) (va_Qv K (gB N en y) (gA N y)) 0 0 (gA N y)
/-- what every row of a method's body needs -/
def Sd (p : Program) (s : State) (m : MethodId) (args : Array Value) (meth : Method) (c : Code) (cc : ByteArray) (nL : Nat) (own : String) (ret : Option FieldType) (y : Sy) : Prop :=
  p.tables.exec = Jvm.exec ∧ c.code = cc ∧ c.maxLocals = nL ∧ s.vm.findClass own = some m.cls ∧ (∀ w ∈ lw_g, w.before args s = true) ∧ meth.sig.returnType = ret ∧ meth.locks = false ∧ va_K y.1 vwCl (gT y) s ∧ nW s
theorem gB_blind {N : Nat} {en : En} {y : Sy} {st : St} {av : List Value} : FrameBlind (va_Pc av (gP N en y st)) := fun a U g mk q => by
  obtain ⟨e, ⟨qP, qK, qD⟩, qN⟩ := q
  exact ⟨e, ⟨qP, va_K.moved (u := U) (U := U.calling g mk a) (Vm.Alike.refl U.vm) qK, qD⟩, nW.same (s := U) (U := U.calling g mk a) rfl qN⟩
theorem ent {l : Launch} {Y : MethodName} {cc : ByteArray} {n : Nat} {ret : Option FieldType} {fr lo N : Nat} {en : En} {y : Sy} {av : List Value} {st : St} {Qc : Array Value → State → Outcome → State → Prop} (hcls : plainName Y.cls = true) (hlen : (lg_sl av).length ≤ n)
    (body : ∀ (p : Program) (e : Env) (s : State) (m : MethodId) (below : List Frame) (meth : Method) (c : Code), Sd p s m av.toArray meth c cc n Y.cls ret y → gH N en y st s s.heap [] → ∀ ls : Array Slot, lv_has ls n (lv_args 0 av) →
      W p l e (rmm fr lo) s m av.toArray below meth c s.heap [] 0 0 (MQ below Qc av.toArray s 0 0 (gA N y)) (F0 m 0 ls [])) :
    Met l Y (cw Y cc n ret) (rmm fr lo) (va_Pc av (gP N en y st)) Qc 0 0 (gA N y) := by
  refine Met.ofW (cc := cc) (maxL := n) (ret := ret) hcls rfl ?_
  intro p e s m args below meth c s₁ B hml hv
  obtain ⟨rfl, ⟨hP, hK, hD⟩, hN⟩ := hv
  have hts := atoms_spec (ws := cw Y cc n ret) B.pre
  have hown : s.vm.findClass Y.cls = some m.cls := findClass_of_methodNamed B.named
  rw [lg_entry_eq]
  exact body p e s m below meth c ⟨B.exec, B.bytes, hml, hown, fun w h => hts w (List.mem_cons_of_mem _ h), B.returns, B.notSynchronized, hK, hN⟩ ⟨hP, hD, va_S.rf⟩ _ (lv_entry av hlen)
section Rows
variable {p : Program} {l : Launch} {e : Env} {R : Room} {s : State} {m : MethodId} {args : Array Value} {below : List Frame} {meth : Method} {c : Code} {H : Heap} {locs : List Loc} {Q : State → Prop} {cc : ByteArray} {pc : Nat} {ls : Array Slot} {rest : List Value} {N : Nat} {en : En} {y : Sy} {st : St} {own : String}
theorem r_get (hx : p.tables.exec = Jvm.exec) (hb : c.code = cc) (hts : ∀ w ∈ lw_g, w.before args s = true) (hown : s.vm.findClass own = some m.cls) (hK : va_K y.1 vwCl (gT y) s) (hG : gH N en y st s H locs) {k ci idx Nf : Nat} {C : String} {T : u_T} {fs : List Value} {v : Value} (hk : k < N) (he : en y k (st k) = .inr (ci, fs)) (hc : vwCl[ci]? = some (C, T, Nf)) (hin : ∀ w ∈ u_ws C T Nf, w ∈ lw_g) (j : Nat) (hj : j < Nf)
    (hl : Cond.fieldLink own idx (T j).1 (T j).2.1 (T j).2.2.1 ∈ lw_g) (hv : fs[j]? = some v) (d : decode cc pc = .ok (.getfield idx, 3)) (kk : W p l e R s m args below meth c H locs 0 0 Q (F0 m (pc + 3) ls (v :: rest))) : W p l e R s m args below meth c H locs 0 0 Q (F0 m pc ls (.ref (ad y k) :: rest)) :=
  va_get hx hb hts hin hown hK hG.1 k (by rw [gW_at hk, he]) hc j hj (hts _ hl) (fun x h => h) hv d kk
theorem r_put (hx : p.tables.exec = Jvm.exec) (hb : c.code = cc) (hts : ∀ w ∈ lw_g, w.before args s = true) (hown : s.vm.findClass own = some m.cls) (hK : va_K y.1 vwCl (gT y) s) (hG : gH N en y st s H locs) {k ci idx Nf : Nat} {C : String} {T : u_T} {fs : List Value} {ty0 : Nat → FieldType} (hk : k < N) (he : en y k (st k) = .inr (ci, fs)) (hc : vwCl[ci]? = some (C, T, Nf)) (hin : ∀ w ∈ u_ws C T Nf, w ∈ lw_g) (hty : ∀ k, k < Nf → parseFieldDescriptor (T k).2.2.1 = some (ty0 k)) (hnm : ∀ a, a < Nf → ∀ b, b < Nf → a ≠ b → (T a).2.1 ≠ (T b).2.1) (j : Nat) (hj : j < Nf)
    (hl : Cond.fieldLink own idx (T j).1 (T j).2.1 (T j).2.2.1 ∈ lw_g) (hfin : (T j).2.2.2 = false) (v : Int32) (hes : en y k (upd (st k) j v) = .inr (ci, fs.set j (.int v))) (hn : narrow (ty0 j) (.int v) = .int v) (hfit : fits (ty0 j) (.int v) = true) (hl2 : j < fs.length) (d : decode cc pc = .ok (.putfield idx, 3))
    (kk : ∀ (H1 : Heap) (locs1 : List Loc), gH N en y (u2 st k j v) s H1 locs1 → W p l e R s m args below meth c H1 locs1 0 0 Q (F0 m (pc + 3) ls rest)) : W p l e R s m args below meth c H locs 0 0 Q (F0 m pc ls (.int v :: .ref (ad y k) :: rest)) :=
  va_put hx hb hts hin ty0 hty hnm hown hK hG.1 hG.2.1 hG.2.2 k (by rw [gW_at hk, he]) hc j hj (hts _ hl) (fun x h => h) hfin (hty j hj) hn hfit hl2 d fun H1 locs1 h1 h2 h3 => kk H1 locs1 (by
    rw [← hes, gW_set hk] at h1 h2
    exact ⟨h1, h2, h3⟩)
theorem r_iald (hx : p.tables.exec = Jvm.exec) (hb : c.code = cc) (hK : va_K y.1 vwCl (gT y) s) (hG : gH N en y st s H locs) {k n : Nat} (hk : k < N) (he : en y k (st k) = .inl (y.2.1, n, .inl (st k))) {i : Int32} (hi : vp_in i n) (d : decode cc pc = .ok (.iaload, 1))
    (kk : W p l e R s m args below meth c H locs 0 0 Q (F0 m (pc + 1) ls (.int (st k i.toNatClampNeg) :: rest))) : W p l e R s m args below meth c H locs 0 0 Q (F0 m pc ls (.int i :: .ref (ad y k) :: rest)) :=
  va_iald hx hb hK hG.1 k 0 (by rw [gW_at hk, he]) rfl hi d kk
theorem r_iast (hx : p.tables.exec = Jvm.exec) (hb : c.code = cc) (hK : va_K y.1 vwCl (gT y) s) (hG : gH N en y st s H locs) {k n : Nat} (hk : k < N) (he : ∀ f, en y k f = .inl (y.2.1, n, .inl f)) {i v : Int32} (hi : vp_in i n) (d : decode cc pc = .ok (.iastore, 1))
    (kk : ∀ (H1 : Heap) (locs1 : List Loc), gH N en y (u2 st k i.toNatClampNeg v) s H1 locs1 → W p l e R s m args below meth c H1 locs1 0 0 Q (F0 m (pc + 1) ls rest)) : W p l e R s m args below meth c H locs 0 0 Q (F0 m pc ls (.int v :: .int i :: .ref (ad y k) :: rest)) :=
  va_iast hx hb hK hG.1 hG.2.1 hG.2.2 k 0 (by rw [gW_at hk, he]) rfl hi d fun H1 locs1 h1 h2 h3 => kk H1 locs1 (by
    rw [← he, gW_set hk] at h1 h2
    exact ⟨h1, h2, h3⟩)
theorem r_alen (hx : p.tables.exec = Jvm.exec) (hb : c.code = cc) (hK : va_K y.1 vwCl (gT y) s) (hG : gH N en y st s H locs) {k n : Nat} {v : Int32} (hk : k < N) (he : en y k (st k) = .inl (y.2.1, n, .inl (st k))) (hv : Int32.ofNat n = v) (d : decode cc pc = .ok (.arraylength, 1))
    (kk : W p l e R s m args below meth c H locs 0 0 Q (F0 m (pc + 1) ls (.int v :: rest))) : W p l e R s m args below meth c H locs 0 0 Q (F0 m pc ls (.ref (ad y k) :: rest)) :=
  va_alen hx hb hK hG.1 k 0 (by rw [gW_at hk, he]) rfl hv d kk
theorem r_iret (hx : p.tables.exec = Jvm.exec) (hb : c.code = cc) {ty : FieldType} (hr : meth.sig.returnType = some ty) (hlk : meth.locks = false) (hK : va_K y.1 vwCl (gT y) s) (hG : gH N en y st s H locs) {K : Int32 → St → Prop} {v : Int32} (hn : narrow ty (.int v) = .int v) (hw : K v st) (d : decode cc pc = .ok (.ireturn, 1)) :
    W p l e R s m args below meth c H locs 0 0 (MQ below (va_Qi K (gB N en y) (gA N y)) args s 0 0 (gA N y)) (F0 m pc ls [.int v]) :=
  W.zret hx hb hr hn (fun t ht hW => ⟨⟨v, st, rfl, hw, by rw [ht]; exact hG.1, va_K.moved hW.alike hK, hG.2.1⟩, hG.2.2.F ht⟩) hG.2.2.2.2 d hlk
theorem r_lret (hx : p.tables.exec = Jvm.exec) (hb : c.code = cc) (hr : meth.sig.returnType = some .long) (hlk : meth.locks = false) (hK : va_K y.1 vwCl (gT y) s) (hG : gH N en y st s H locs) {K : Int64 → St → Prop} {v : Int64} (hw : K v st) (d : decode cc pc = .ok (.lreturn, 1)) :
    W p l e R s m args below meth c H locs 0 0 (MQ below (va_Ql K (gB N en y) (gA N y)) args s 0 0 (gA N y)) (F0 m pc ls [.long v]) :=
  W.lret hx hb hr (fun t ht hW => ⟨⟨v, st, rfl, hw, by rw [ht]; exact hG.1, va_K.moved hW.alike hK, hG.2.1⟩, hG.2.2.F ht⟩) hG.2.2.2.2 d hlk
theorem r_vret (hx : p.tables.exec = Jvm.exec) (hb : c.code = cc) (hr : meth.sig.returnType = none) (hlk : meth.locks = false) (hK : va_K y.1 vwCl (gT y) s) (hG : gH N en y st s H locs) {K : St → Prop} (hw : K st) (d : decode cc pc = .ok (.return_, 1)) :
    W p l e R s m args below meth c H locs 0 0 (MQ below (va_Qv K (gB N en y) (gA N y)) args s 0 0 (gA N y)) (F0 m pc ls []) :=
  W.vret hx hb hr (fun t ht hW => ⟨⟨st, rfl, hw, by rw [ht]; exact hG.1, va_K.moved hW.alike hK, hG.2.1⟩, hG.2.2.F ht⟩) hG.2.2.2.2 d hlk
/-- what a call gives back, by the world -/
theorem g_back {H1 : Heap} {locs1 : List Loc} {t : State} {st' : St} (ht : t.heap = H1) (hB : gB N en y st' t) (hS : va_S (gA N y) s.heap H1 locs1) : gH N en y st' s H1 locs1 := by
  obtain ⟨h1, -, h3⟩ := hB
  rw [ht] at h1
  exact ⟨h1, h3, hS⟩
theorem g_pre {av : List Value} (hK : va_K y.1 vwCl (gT y) s) (hN : nW s) (hG : gH N en y st s H locs) : ∀ U : State, U.heap = H → s.WarmedH U.vm → va_Pc av (gP N en y st) av.toArray U := fun U hU hW => ⟨rfl, ⟨by rw [hU]; exact hG.1, va_K.moved hW.alike hK, hG.2.1⟩, hN.warm hW⟩
variable {Y : MethodName} {b : ByteArray} {nY idx fr lo nL : Nat} {rt : Option FieldType} {As stk : List Value}
theorem r_run_V {k ci : Nat} {q : vw_C} {fs : List Value} {Qc : Array Value → State → Outcome → State → Prop} (hx : p.tables.exec = Jvm.exec) (hb : c.code = cc) (hml : c.maxLocals = nL) (hown : s.vm.findClass own = some m.cls) (hts : ∀ w ∈ lw_g, w.before args s = true) (hK : va_K y.1 vwCl (gT y) s) (hN : nW s) (hG : gH N en y st s H locs)
    (hM : Met l Y (cw Y b nY rt) (rmm fr lo) (va_Pc (.ref (ad y k) :: As) (gP N en y st)) Qc 0 0 (gA N y)) (hk : k < N) (he : en y k (st k) = .inr (ci, fs)) (hc : vwCl[ci]? = some q) (hq : q.1 = Y.cls)
    (q1 : Cond.methodLink own idx Y ∈ lw_g) (q2 : Cond.instanceMethod Y ∈ lw_g) (q3 : Cond.selects Y.cls Y Y ∈ lw_g) (q4 : Cond.initialized Y.cls ∈ lw_g) (q5 : Cond.code Y b nY rt ∈ lw_g)
    (hd : Y.cls ≠ "java/lang/invoke/MethodHandle" ∧ Y.cls ≠ "java/lang/invoke/VarHandle" ∧ (parseMethodDescriptor Y.desc).map (fun d => d.parameters.length) = some As.length) (hR : fr + 1 ≤ R.frames ∧ 8 + (nY + 11) + lo ≤ R.locals)
    (hsize : ls.size = nL) (hstk : stk = As.reverse ++ .ref (ad y k) :: rest) (hW : (rest.map fun v => v.category).sum ≤ 8) (d : decode cc pc = .ok (.invokevirtual idx, 3)) :
    va_Run p l e R s m args below meth c H locs 0 0 0 0 (F0 m pc ls stk) rest (Qc (Value.ref (ad y k) :: As).toArray) (gA N y) :=
  va_runV (As := As) (rest := rest) ⟨hx, hb, hml, hown, hts⟩ hM
    (cwV (C := Y.cls) As.length hts (lw_gi (by
      intro w hw
      simp only [wsV, List.mem_append, List.mem_cons, List.not_mem_nil, or_false, cw] at hw
      rcases hw with (rfl | rfl | rfl | rfl) | (rfl | h)
      · exact q1
      · exact q2
      · exact q3
      · exact q4
      · exact q5
      · exact h)) rfl rfl rfl ⟨rfl, hd⟩ hR)
    ⟨gB_blind, by rw [← hq]; exact va_recv hK hG.1 (ci := ci) (q0 := k) hc (by rw [gW_at hk, he]), g_pre hK hN hG⟩ rfl rfl hsize hstk (lv_room hW) d ⟨Nat.zero_le _, Nat.zero_le _⟩
theorem r_run_S {Qc : Array Value → State → Outcome → State → Prop} (hx : p.tables.exec = Jvm.exec) (hb : c.code = cc) (hml : c.maxLocals = nL) (hown : s.vm.findClass own = some m.cls) (hts : ∀ w ∈ lw_g, w.before args s = true) (hK : va_K y.1 vwCl (gT y) s) (hN : nW s) (hG : gH N en y st s H locs)
    (hM : Met l Y (cw Y b nY rt) (rmm fr lo) (va_Pc As (gP N en y st)) Qc 0 0 (gA N y))
    (q1 : Cond.methodLink own idx Y ∈ lw_g) (q2 : Cond.static Y ∈ lw_g) (q4 : Cond.initialized Y.cls ∈ lw_g) (q5 : Cond.code Y b nY rt ∈ lw_g)
    (hd : Y.cls ≠ "java/lang/invoke/MethodHandle" ∧ Y.cls ≠ "java/lang/invoke/VarHandle" ∧ (parseMethodDescriptor Y.desc).map (fun d => d.parameters.length) = some As.length) (hR : fr + 1 ≤ R.frames ∧ 8 + (nY + 11) + lo ≤ R.locals)
    (hsize : ls.size = nL) (hstk : stk = As.reverse ++ rest) (hW : (rest.map fun v => v.category).sum ≤ 8) (d : decode cc pc = .ok (.invokestatic idx, 3)) :
    va_Run p l e R s m args below meth c H locs 0 0 0 0 (F0 m pc ls stk) rest (Qc As.toArray) (gA N y) :=
  va_runS (As := As) (rest := rest) ⟨hx, hb, hml, hown, hts⟩ hM
    (va_cwS As.length hts (lw_gi (by
      intro w hw
      simp only [va_wsS, List.mem_append, List.mem_cons, List.not_mem_nil, or_false, cw] at hw
      rcases hw with (rfl | rfl | rfl) | (rfl | h)
      · exact q1
      · exact q2
      · exact q4
      · exact q5
      · exact h)) rfl rfl rfl hd hR)
    ⟨gB_blind, g_pre hK hN hG⟩ rfl rfl hsize hstk (lv_room hW) d ⟨Nat.zero_le _, Nat.zero_le _⟩
theorem r_run_N {host : String} {Qc : Array Value → State → Outcome → State → Prop} (hx : p.tables.exec = Jvm.exec) (hb : c.code = cc) (hml : c.maxLocals = nL) (hown : s.vm.findClass own = some m.cls) (hts : ∀ w ∈ lw_g, w.before args s = true) (hK : va_K y.1 vwCl (gT y) s) (hN : nW s) (hG : gH N en y st s H locs)
    (hM : Met l Y (cw Y b nY rt) (rmm fr lo) (va_Pc As (gP N en y st)) Qc 0 0 (gA N y))
    (q1 : Cond.methodLinkNest own idx Y host ∈ lw_tbl) (q2 : Cond.static Y ∈ lw_g) (q4 : Cond.initialized Y.cls ∈ lw_g) (q5 : Cond.code Y b nY rt ∈ lw_g)
    (hd : Y.cls ≠ "java/lang/invoke/MethodHandle" ∧ Y.cls ≠ "java/lang/invoke/VarHandle" ∧ (parseMethodDescriptor Y.desc).map (fun d => d.parameters.length) = some As.length) (hR : fr + 1 ≤ R.frames ∧ 8 + (nY + 11) + lo ≤ R.locals)
    (hsize : ls.size = nL) (hstk : stk = As.reverse ++ rest) (hW : (rest.map fun v => v.category).sum ≤ 8) (d : decode cc pc = .ok (.invokestatic idx, 3)) :
    va_Run p l e R s m args below meth c H locs 0 0 0 0 (F0 m pc ls stk) rest (Qc As.toArray) (gA N y) :=
  va_runSN (As := As) (rest := rest) ⟨hx, hb, hml, hown, hts⟩ hM
    ⟨va_cnB (ws' := lw_g) As.length hts (lw_gi (by
      intro w hw
      simp only [List.mem_cons, cw] at hw
      rcases hw with rfl | h
      · exact q5
      · exact h)) rfl rfl rfl (hN _ q1 rfl) (hts _ q4) hd hR, hts _ q2, trivial⟩
    ⟨gB_blind, g_pre hK hN hG⟩ rfl rfl hsize hstk (lv_room hW) d ⟨Nat.zero_le _, Nat.zero_le _⟩
theorem r_ki {K : Int32 → St → Prop} {a : Array Value} (hr : va_Run p l e R s m args below meth c H locs 0 0 0 0 (F0 m pc ls stk) rest (va_Qi K (gB N en y) (gA N y) a) (gA N y)) (hG : gH N en y st s H locs)
    (kk : ∀ (r : Int32) (st' : St) (H1 : Heap) (locs1 : List Loc), K r st' → gH N en y st' s H1 locs1 → W p l e R s m args below meth c H1 locs1 0 0 Q (F0 m (pc + 3) ls (.int r :: rest))) : W p l e R s m args below meth c H locs 0 0 Q (F0 m pc ls stk) :=
  va_calli hr hG.2.2 (fun _ _ h => h) (fun _ h => h) fun r u t H1 locs1 ht _ hp hB _ _ hS => kk r u H1 locs1 hp (g_back ht hB hS)
theorem r_kl {K : Int64 → St → Prop} {a : Array Value} (hr : va_Run p l e R s m args below meth c H locs 0 0 0 0 (F0 m pc ls stk) rest (va_Ql K (gB N en y) (gA N y) a) (gA N y)) (hG : gH N en y st s H locs)
    (kk : ∀ (r : Int64) (st' : St) (H1 : Heap) (locs1 : List Loc), K r st' → gH N en y st' s H1 locs1 → W p l e R s m args below meth c H1 locs1 0 0 Q (F0 m (pc + 3) ls (.long r :: rest))) : W p l e R s m args below meth c H locs 0 0 Q (F0 m pc ls stk) :=
  va_calll hr hG.2.2 (fun _ _ h => h) (fun _ h => h) fun r u t H1 locs1 ht _ hp hB _ _ hS => kk r u H1 locs1 hp (g_back ht hB hS)
theorem r_kv {K : St → Prop} {a : Array Value} (hr : va_Run p l e R s m args below meth c H locs 0 0 0 0 (F0 m pc ls stk) rest (va_Qv K (gB N en y) (gA N y) a) (gA N y)) (hG : gH N en y st s H locs)
    (kk : ∀ (st' : St) (H1 : Heap) (locs1 : List Loc), K st' → gH N en y st' s H1 locs1 → W p l e R s m args below meth c H1 locs1 0 0 Q (F0 m (pc + 3) ls rest)) : W p l e R s m args below meth c H locs 0 0 Q (F0 m pc ls stk) :=
  va_callv hr hG.2.2 (fun _ _ h => h) (fun _ h => h) fun u t H1 locs1 ht _ hp hB _ _ hS => kk u H1 locs1 hp (g_back ht hB hS)
end Rows
end
section
/-! the class's cells: 0 the object, 1 refusals, 2 past, 3 earlier, 4 telling, 5 signs, 6 row, 7 numbers, 8 look, 9 twosAmong, 10 mind, 11 + 8 i .. : country i (0 now, 1 draft, 2 kept, 3 .. 10 earlier, 11 ahead); the check's: 0 the object, 1 .. 16 its rows -/
def eC (y : Sy) (k : Nat) (f : Nat → Int32) : va_E := .inr (0, [.ref (ad y (k + 1)), .ref (ad y (k + 2)), .ref (ad y (k + 3)), .ref (ad y (k + 4)), .ref (ad y (k + 5)), .ref (ad y (k + 6)), .ref (ad y (k + 7)), .int (f 7), .int (f 8), .int (f 9), .int (f 10)])
def eA (y : Sy) (n : Nat) (f : Nat → Int32) : va_E := .inl (y.2.1, n, .inl f)
def enX (y : Sy) (k : Nat) (f : Nat → Int32) : va_E :=
  match k with
  | 0 => .inr (6, [.ref (ad y 11), .ref (ad y 19), .ref (ad y 27), .int (f 3), .ref (ad y 2), .ref (ad y 4), .ref (ad y 6), .ref (ad y 8), .ref (ad y 10), .ref (ad y 1)])
  | 1 => eA y 7 f
  | 2 => .inr (3, [.ref (ad y 3), .int (f 1), .int (f 2)])
  | 3 => .inl (y.2.2.1, 8, .inr (.inr (.inr (.inr (fun j => some (ad y (35 + 8 * j)))))))
  | 4 => .inr (5, [.ref (ad y 5), .int (f 1)])
  | 5 => eA y 96 f
  | 6 => .inr (4, [.ref (ad y 7), .int (f 1)])
  | 7 => eA y 12 f
  | 8 => .inr (1, [.ref (ad y 11), .ref (ad y 9)])
  | 9 => eA y 64 f
  | 10 => .inr (2, [.ref (ad y 11), .ref (ad y 99)])
  | n + 11 => match n % 8 with
    | 0 => eC y (n + 11) f
    | 4 => eA y 36 f
    | _ => eA y 6 f
def isC (k : Nat) : Prop := ∃ i, i < 12 ∧ k = 8 * i + 11
theorem isC_at {i : Nat} (h : i < 12) : isC (8 * i + 11) := ⟨i, h, rfl⟩
theorem isC.lt {k : Nat} (h : isC k) : k < 107 := by obtain ⟨i, h1, rfl⟩ := h; omega
theorem isC.e {k : Nat} (h : isC k) (y : Sy) (f : Nat → Int32) : enX y k f = eC y k f := by
  obtain ⟨i, h1, rfl⟩ := h
  show (match (8 * i) % 8 with | 0 => _ | 4 => _ | _ => _) = _
  rw [Nat.mul_mod_right]
  rfl
def isA (k n : Nat) : Prop := k < 107 ∧ ∀ (y : Sy) (f : Nat → Int32), enX y k f = .inl (y.2.1, n, .inl f)
theorem isC.a1 {k : Nat} (h : isC k) : isA (k + 1) 6 := by
  obtain ⟨i, h1, rfl⟩ := h
  refine ⟨by omega, fun y f => ?_⟩
  show (match (8 * i + 1) % 8 with | 0 => _ | 4 => _ | _ => _) = _
  rw [Nat.mul_add_mod]
  rfl
theorem isC.a2 {k : Nat} (h : isC k) : isA (k + 2) 6 := by
  obtain ⟨i, h1, rfl⟩ := h
  refine ⟨by omega, fun y f => ?_⟩
  show (match (8 * i + 2) % 8 with | 0 => _ | 4 => _ | _ => _) = _
  rw [Nat.mul_add_mod]
  rfl
theorem isC.a3 {k : Nat} (h : isC k) : isA (k + 3) 6 := by
  obtain ⟨i, h1, rfl⟩ := h
  refine ⟨by omega, fun y f => ?_⟩
  show (match (8 * i + 3) % 8 with | 0 => _ | 4 => _ | _ => _) = _
  rw [Nat.mul_add_mod]
  rfl
theorem isC.a4 {k : Nat} (h : isC k) : isA (k + 4) 36 := by
  obtain ⟨i, h1, rfl⟩ := h
  refine ⟨by omega, fun y f => ?_⟩
  show (match (8 * i + 4) % 8 with | 0 => _ | 4 => _ | _ => _) = _
  rw [Nat.mul_add_mod]
  rfl
theorem isC.a5 {k : Nat} (h : isC k) : isA (k + 5) 6 := by
  obtain ⟨i, h1, rfl⟩ := h
  refine ⟨by omega, fun y f => ?_⟩
  show (match (8 * i + 5) % 8 with | 0 => _ | 4 => _ | _ => _) = _
  rw [Nat.mul_add_mod]
  rfl
theorem isC.a6 {k : Nat} (h : isC k) : isA (k + 6) 6 := by
  obtain ⟨i, h1, rfl⟩ := h
  refine ⟨by omega, fun y f => ?_⟩
  show (match (8 * i + 6) % 8 with | 0 => _ | 4 => _ | _ => _) = _
  rw [Nat.mul_add_mod]
  rfl
theorem isC.a7 {k : Nat} (h : isC k) : isA (k + 7) 6 := by
  obtain ⟨i, h1, rfl⟩ := h
  refine ⟨by omega, fun y f => ?_⟩
  show (match (8 * i + 7) % 8 with | 0 => _ | 4 => _ | _ => _) = _
  rw [Nat.mul_add_mod]
  rfl
theorem isC.p7 {k : Nat} (h : isC k) (y : Sy) (f : Nat → Int32) (v : Int32) : enX y k (upd f 7 v) = .inr (0, ([.ref (ad y (k + 1)), .ref (ad y (k + 2)), .ref (ad y (k + 3)), .ref (ad y (k + 4)), .ref (ad y (k + 5)), .ref (ad y (k + 6)), .ref (ad y (k + 7)), .int (f 7), .int (f 8), .int (f 9), .int (f 10)] : List Value).set 7 (.int v)) := by rw [h.e]; rfl
theorem isC.p8 {k : Nat} (h : isC k) (y : Sy) (f : Nat → Int32) (v : Int32) : enX y k (upd f 8 v) = .inr (0, ([.ref (ad y (k + 1)), .ref (ad y (k + 2)), .ref (ad y (k + 3)), .ref (ad y (k + 4)), .ref (ad y (k + 5)), .ref (ad y (k + 6)), .ref (ad y (k + 7)), .int (f 7), .int (f 8), .int (f 9), .int (f 10)] : List Value).set 8 (.int v)) := by rw [h.e]; rfl
theorem isC.p9 {k : Nat} (h : isC k) (y : Sy) (f : Nat → Int32) (v : Int32) : enX y k (upd f 9 v) = .inr (0, ([.ref (ad y (k + 1)), .ref (ad y (k + 2)), .ref (ad y (k + 3)), .ref (ad y (k + 4)), .ref (ad y (k + 5)), .ref (ad y (k + 6)), .ref (ad y (k + 7)), .int (f 7), .int (f 8), .int (f 9), .int (f 10)] : List Value).set 9 (.int v)) := by rw [h.e]; rfl
theorem isC.p10 {k : Nat} (h : isC k) (y : Sy) (f : Nat → Int32) (v : Int32) : enX y k (upd f 10 v) = .inr (0, ([.ref (ad y (k + 1)), .ref (ad y (k + 2)), .ref (ad y (k + 3)), .ref (ad y (k + 4)), .ref (ad y (k + 5)), .ref (ad y (k + 6)), .ref (ad y (k + 7)), .int (f 7), .int (f 8), .int (f 9), .int (f 10)] : List Value).set 10 (.int v)) := by rw [h.e]; rfl
theorem isA_1 : isA 1 7 := ⟨by decide, fun _ _ => rfl⟩
theorem isA_5 : isA 5 96 := ⟨by decide, fun _ _ => rfl⟩
theorem isA_7 : isA 7 12 := ⟨by decide, fun _ _ => rfl⟩
theorem isA_9 : isA 9 64 := ⟨by decide, fun _ _ => rfl⟩
theorem isC_11 : isC 11 := ⟨0, by decide, rfl⟩
theorem isC_19 : isC 19 := ⟨1, by decide, rfl⟩
theorem isC_27 : isC 27 := ⟨2, by decide, rfl⟩
theorem isC_99 : isC 99 := ⟨11, by decide, rfl⟩
theorem isC_past {j : Nat} (h : j < 8) : isC (35 + 8 * j) := ⟨j + 3, by omega, by omega⟩
def enM (y : Sy) (k : Nat) (f : Nat → Int32) : va_E :=
  match k with
  | 0 => .inr (7, [.ref (ad y 1), .ref (ad y 2), .ref (ad y 3), .ref (ad y 4), .ref (ad y 5), .ref (ad y 6), .ref (ad y 7), .ref (ad y 8), .int (f 8), .int (f 9), .int (f 10), .int (f 11), .ref (ad y 9), .ref (ad y 10), .ref (ad y 11), .ref (ad y 12), .int (f 16), .int (f 17), .int (f 18), .ref (ad y 13), .int (f 20), .int (f 21), .int (f 22), .int (f 23), .ref (ad y 14), .int (f 25), .int (f 26), .ref (ad y 15), .ref (ad y 16), .int (f 29), .int (f 30)])
  | 1 => eA y 7 f
  | 2 => eA y 6 f
  | 3 => eA y 6 f
  | 4 => eA y 6 f
  | 5 => eA y 36 f
  | 6 => eA y 6 f
  | 7 => eA y 6 f
  | 8 => eA y 6 f
  | 9 => eA y 96 f
  | 10 => eA y 48 f
  | 11 => eA y 48 f
  | 12 => eA y 144 f
  | 13 => eA y 825 f
  | 14 => eA y 6 f
  | 15 => eA y 64 f
  | _ => eA y 12 f
def isB (k n : Nat) : Prop := k < 17 ∧ ∀ (y : Sy) (f : Nat → Int32), enM y k f = .inl (y.2.1, n, .inl f)
theorem isB_1 : isB 1 7 := ⟨by decide, fun _ _ => rfl⟩
theorem isB_2 : isB 2 6 := ⟨by decide, fun _ _ => rfl⟩
theorem isB_3 : isB 3 6 := ⟨by decide, fun _ _ => rfl⟩
theorem isB_4 : isB 4 6 := ⟨by decide, fun _ _ => rfl⟩
theorem isB_5 : isB 5 36 := ⟨by decide, fun _ _ => rfl⟩
theorem isB_6 : isB 6 6 := ⟨by decide, fun _ _ => rfl⟩
theorem isB_7 : isB 7 6 := ⟨by decide, fun _ _ => rfl⟩
theorem isB_8 : isB 8 6 := ⟨by decide, fun _ _ => rfl⟩
theorem isB_9 : isB 9 96 := ⟨by decide, fun _ _ => rfl⟩
theorem isB_10 : isB 10 48 := ⟨by decide, fun _ _ => rfl⟩
theorem isB_11 : isB 11 48 := ⟨by decide, fun _ _ => rfl⟩
theorem isB_12 : isB 12 144 := ⟨by decide, fun _ _ => rfl⟩
theorem isB_13 : isB 13 825 := ⟨by decide, fun _ _ => rfl⟩
theorem isB_14 : isB 14 6 := ⟨by decide, fun _ _ => rfl⟩
theorem isB_15 : isB 15 64 := ⟨by decide, fun _ _ => rfl⟩
theorem isB_16 : isB 16 12 := ⟨by decide, fun _ _ => rfl⟩
end
section
def w_X0_power_L5q (x0 : Int32) (x1 : Int32)  (K : Int64 → St → Prop) (c5 : Int64 → Int32 → St → Prop) (v2 : Int64) (v4 : Int32) (st : St) : Prop :=
  (x1 ≤ v4 → K v2 st) ∧ (¬ x1 ≤ v4 → c5 (v2 * ((x0).toInt64)) (v4 + 1) st)
def w_X0_power_L5 (x0 : Int32) (x1 : Int32)  (K : Int64 → St → Prop) : Nat → Int64 → Int32 → St → Prop
  | 0, _, _, _ => False
  | n + 1, v2, v4, st => w_X0_power_L5q x0 x1  K (fun v2 v4 st => w_X0_power_L5 x0 x1  K n v2 v4 st) v2 v4 st
def w_X0_power (x0 : Int32) (x1 : Int32) (st : St) (K : Int64 → St → Prop) : Prop :=
  ∃ n, w_X0_power_L5 x0 x1  K n 1 0 st
def w_J6_bitCount_0f7a4 (x0 : Int32) (st : St) (K : Int32 → St → Prop) : Prop :=
  K ((((((((x0 - (((x0.toUInt32 >>> ((1 : Int32).toUInt32 &&& Int32.toUInt32 31)).toInt32) &&& 1431655765)) &&& 858993459) + ((((x0 - (((x0.toUInt32 >>> ((1 : Int32).toUInt32 &&& Int32.toUInt32 31)).toInt32) &&& 1431655765)).toUInt32 >>> ((2 : Int32).toUInt32 &&& Int32.toUInt32 31)).toInt32) &&& 858993459)) + (((((x0 - (((x0.toUInt32 >>> ((1 : Int32).toUInt32 &&& Int32.toUInt32 31)).toInt32) &&& 1431655765)) &&& 858993459) + ((((x0 - (((x0.toUInt32 >>> ((1 : Int32).toUInt32 &&& Int32.toUInt32 31)).toInt32) &&& 1431655765)).toUInt32 >>> ((2 : Int32).toUInt32 &&& Int32.toUInt32 31)).toInt32) &&& 858993459)).toUInt32 >>> ((4 : Int32).toUInt32 &&& Int32.toUInt32 31)).toInt32)) &&& 252645135) + (((((((x0 - (((x0.toUInt32 >>> ((1 : Int32).toUInt32 &&& Int32.toUInt32 31)).toInt32) &&& 1431655765)) &&& 858993459) + ((((x0 - (((x0.toUInt32 >>> ((1 : Int32).toUInt32 &&& Int32.toUInt32 31)).toInt32) &&& 1431655765)).toUInt32 >>> ((2 : Int32).toUInt32 &&& Int32.toUInt32 31)).toInt32) &&& 858993459)) + (((((x0 - (((x0.toUInt32 >>> ((1 : Int32).toUInt32 &&& Int32.toUInt32 31)).toInt32) &&& 1431655765)) &&& 858993459) + ((((x0 - (((x0.toUInt32 >>> ((1 : Int32).toUInt32 &&& Int32.toUInt32 31)).toInt32) &&& 1431655765)).toUInt32 >>> ((2 : Int32).toUInt32 &&& Int32.toUInt32 31)).toInt32) &&& 858993459)).toUInt32 >>> ((4 : Int32).toUInt32 &&& Int32.toUInt32 31)).toInt32)) &&& 252645135).toUInt32 >>> ((8 : Int32).toUInt32 &&& Int32.toUInt32 31)).toInt32)) + ((((((((x0 - (((x0.toUInt32 >>> ((1 : Int32).toUInt32 &&& Int32.toUInt32 31)).toInt32) &&& 1431655765)) &&& 858993459) + ((((x0 - (((x0.toUInt32 >>> ((1 : Int32).toUInt32 &&& Int32.toUInt32 31)).toInt32) &&& 1431655765)).toUInt32 >>> ((2 : Int32).toUInt32 &&& Int32.toUInt32 31)).toInt32) &&& 858993459)) + (((((x0 - (((x0.toUInt32 >>> ((1 : Int32).toUInt32 &&& Int32.toUInt32 31)).toInt32) &&& 1431655765)) &&& 858993459) + ((((x0 - (((x0.toUInt32 >>> ((1 : Int32).toUInt32 &&& Int32.toUInt32 31)).toInt32) &&& 1431655765)).toUInt32 >>> ((2 : Int32).toUInt32 &&& Int32.toUInt32 31)).toInt32) &&& 858993459)).toUInt32 >>> ((4 : Int32).toUInt32 &&& Int32.toUInt32 31)).toInt32)) &&& 252645135) + (((((((x0 - (((x0.toUInt32 >>> ((1 : Int32).toUInt32 &&& Int32.toUInt32 31)).toInt32) &&& 1431655765)) &&& 858993459) + ((((x0 - (((x0.toUInt32 >>> ((1 : Int32).toUInt32 &&& Int32.toUInt32 31)).toInt32) &&& 1431655765)).toUInt32 >>> ((2 : Int32).toUInt32 &&& Int32.toUInt32 31)).toInt32) &&& 858993459)) + (((((x0 - (((x0.toUInt32 >>> ((1 : Int32).toUInt32 &&& Int32.toUInt32 31)).toInt32) &&& 1431655765)) &&& 858993459) + ((((x0 - (((x0.toUInt32 >>> ((1 : Int32).toUInt32 &&& Int32.toUInt32 31)).toInt32) &&& 1431655765)).toUInt32 >>> ((2 : Int32).toUInt32 &&& Int32.toUInt32 31)).toInt32) &&& 858993459)).toUInt32 >>> ((4 : Int32).toUInt32 &&& Int32.toUInt32 31)).toInt32)) &&& 252645135).toUInt32 >>> ((8 : Int32).toUInt32 &&& Int32.toUInt32 31)).toInt32)).toUInt32 >>> ((16 : Int32).toUInt32 &&& Int32.toUInt32 31)).toInt32)) &&& 63) st
def w_X0_ways_b38 (x0 : Int32) (x1 : Int32) (x2 : Int32) (c5 : Int64 → Int32 → St → Prop) (K : Int64 → St → Prop) (v3 : Int64) (v5 : Int32) (st : St) : Prop :=
  c5 v3 (v5 + 1) st
def w_X0_ways_L5q (x0 : Int32) (x1 : Int32) (x2 : Int32)  (K : Int64 → St → Prop) (c5 : Int64 → Int32 → St → Prop) (v3 : Int64) (v5 : Int32) (st : St) : Prop :=
  (((1 : Int32) <<< (x0 &&& 31)) ≤ v5 → K v3 st) ∧ (¬ ((1 : Int32) <<< (x0 &&& 31)) ≤ v5 → w_J6_bitCount_0f7a4 v5 st (fun r15 st15 => (r15 < x1 → w_X0_ways_b38 x0 x1 x2 c5 K v3 v5 st15) ∧ (¬ r15 < x1 → w_J6_bitCount_0f7a4 v5 st15 (fun r29 st29 => w_X0_power (x2 - 1) (x0 - r29) st29 (fun r33 st33 => w_X0_ways_b38 x0 x1 x2 c5 K (v3 + r33) v5 st33)))))
def w_X0_ways_L5 (x0 : Int32) (x1 : Int32) (x2 : Int32)  (K : Int64 → St → Prop) : Nat → Int64 → Int32 → St → Prop
  | 0, _, _, _ => False
  | n + 1, v3, v5, st => w_X0_ways_L5q x0 x1 x2  K (fun v3 v5 st => w_X0_ways_L5 x0 x1 x2  K n v3 v5 st) v3 v5 st
def w_X0_ways (x0 : Int32) (x1 : Int32) (x2 : Int32) (st : St) (K : Int64 → St → Prop) : Prop :=
  ∃ n, w_X0_ways_L5 x0 x1 x2  K n 0 0 st
def w_X0_commonDivisor_L9q (x0 : Int64) (x2 : Int64)  (K : Int64 → St → Prop) (c9 : Int64 → Int64 → Int32 → St → Prop) (v4 : Int64) (v6 : Int64) (v8 : Int32) (st : St) : Prop :=
  (100 ≤ v8 → K v4 st) ∧ (¬ 100 ≤ v8 → ((lg_cmp v6 0) = 0 → K v4 st) ∧ (¬ (lg_cmp v6 0) = 0 → ¬ v6 = 0 ∧ (c9 v6 (v4 - v4 / v6 * v6) (v8 + 1) st)))
def w_X0_commonDivisor_L9 (x0 : Int64) (x2 : Int64)  (K : Int64 → St → Prop) : Nat → Int64 → Int64 → Int32 → St → Prop
  | 0, _, _, _, _ => False
  | n + 1, v4, v6, v8, st => w_X0_commonDivisor_L9q x0 x2  K (fun v4 v6 v8 st => w_X0_commonDivisor_L9 x0 x2  K n v4 v6 v8 st) v4 v6 v8 st
def w_X0_commonDivisor (x0 : Int64) (x2 : Int64) (st : St) (K : Int64 → St → Prop) : Prop :=
  ∃ n, w_X0_commonDivisor_L9 x0 x2  K n x0 x2 0 st
def w_X0_part_b17 (x0 : Int64) (x2 : Int64) (x4 : Int32)  (K : Int64 → St → Prop) (v5 : Int64) (s0 : Int64) (st : St) : Prop :=
  ((lg_cmp v5 0) ≤ 0 → K s0 st) ∧ (¬ (lg_cmp v5 0) ≤ 0 → ¬ v5 = 0 ∧ (K (s0 / v5) st))
def w_X0_part (x0 : Int64) (x2 : Int64) (x4 : Int32) (st : St) (K : Int64 → St → Prop) : Prop :=
  w_X0_commonDivisor x0 x2 st (fun r2 st2 => (¬ x4 = 0 → w_X0_part_b17 x0 x2 x4  K r2 x2 st2) ∧ (x4 = 0 → w_X0_part_b17 x0 x2 x4  K r2 x0 st2))
def w_X8_copy (k0 : Nat) (n0 : Nat) (k1 : Nat) (n1 : Nat) (st : St) (K : St → Prop) : Prop :=
  (¬ (if (nI n1) < (nI n0) then (nI n1) else (nI n0)) < 0 ∧ ((if (nI n1) < (nI n0) then (nI n1) else (nI n0))).toNatClampNeg ≤ n0 ∧ ((if (nI n1) < (nI n0) then (nI n1) else (nI n0))).toNatClampNeg ≤ n1) ∧ (K (u1 st k1 (va_cpy (st k0) (st k1) 0 0 ((if (nI n1) < (nI n0) then (nI n1) else (nI n0))).toNatClampNeg)))
def w_J7_fill_53178_L5q (k0 : Nat) (n0 : Nat) (x1 : Int32)  (K : St → Prop) (c5 : Int32 → Int32 → St → Prop) (v2 : Int32) (v3 : Int32) (st : St) : Prop :=
  (v3 ≤ v2 → K st) ∧ (¬ v3 ≤ v2 → vp_in v2 n0 ∧ (c5 (v2 + 1) v3 (u2 st k0 (v2).toNatClampNeg x1)))
def w_J7_fill_53178_L5 (k0 : Nat) (n0 : Nat) (x1 : Int32)  (K : St → Prop) : Nat → Int32 → Int32 → St → Prop
  | 0, _, _, _ => False
  | n + 1, v2, v3, st => w_J7_fill_53178_L5q k0 n0 x1  K (fun v2 v3 st => w_J7_fill_53178_L5 k0 n0 x1  K n v2 v3 st) v2 v3 st
def w_J7_fill_53178 (k0 : Nat) (n0 : Nat) (x1 : Int32) (st : St) (K : St → Prop) : Prop :=
  ∃ n, w_J7_fill_53178_L5 k0 n0 x1  K n 0 (nI n0) st
def w_X1_become (k0 : Nat) (k1 : Nat) (st : St) (K : St → Prop) : Prop :=
  w_X8_copy (k1 + 1) 6 (k0 + 1) 6 st (fun st13 => w_X8_copy (k1 + 2) 6 (k0 + 2) 6 st13 (fun st24 => w_X8_copy (k1 + 3) 6 (k0 + 3) 6 st24 (fun st35 => w_X8_copy (k1 + 4) 36 (k0 + 4) 36 st35 (fun st46 => w_X8_copy (k1 + 5) 6 (k0 + 5) 6 st46 (fun st57 => w_X8_copy (k1 + 6) 6 (k0 + 6) 6 st57 (fun st68 => w_J7_fill_53178 (k0 + 7) 6 (-9) st68 (fun st77 => K (u2 (u2 (u2 (u2 st77 k0 7 (st77 k1 7)) k0 8 ((u2 st77 k0 7 (st77 k1 7)) k1 8)) k0 9 ((u2 (u2 st77 k0 7 (st77 k1 7)) k0 8 ((u2 st77 k0 7 (st77 k1 7)) k1 8)) k1 9)) k0 10 ((u2 (u2 (u2 st77 k0 7 (st77 k1 7)) k0 8 ((u2 st77 k0 7 (st77 k1 7)) k1 8)) k0 9 ((u2 (u2 st77 k0 7 (st77 k1 7)) k0 8 ((u2 st77 k0 7 (st77 k1 7)) k1 8)) k1 9)) k1 10)))))))))
def w_X1_keeperCount (k0 : Nat) (st : St) (K : Int32 → St → Prop) : Prop :=
  K (st k0 7) st
def w_X1_letterCount (k0 : Nat) (st : St) (K : Int32 → St → Prop) : Prop :=
  K (st k0 8) st
def w_X1_weekNow (k0 : Nat) (st : St) (K : Int32 → St → Prop) : Prop :=
  K (st k0 10) st
def w_X1_openBits (k0 : Nat) (st : St) (K : Int32 → St → Prop) : Prop :=
  K (st k0 9) st
def w_X1_openCount (k0 : Nat) (st : St) (K : Int32 → St → Prop) : Prop :=
  w_J6_bitCount_0f7a4 (st k0 9) st (fun r4 st4 => K r4 st4)
def w_X1_hasKeeper (k0 : Nat) (x1 : Int32) (st : St) (K : Int32 → St → Prop) : Prop :=
  (x1 < 0 → K 0 st) ∧ (¬ x1 < 0 → ((st k0 7) ≤ x1 → K 0 st) ∧ (¬ (st k0 7) ≤ x1 → K 1 st))
def w_X1_hasLetter (k0 : Nat) (x1 : Int32) (st : St) (K : Int32 → St → Prop) : Prop :=
  (x1 < 0 → K 0 st) ∧ (¬ x1 < 0 → ((st k0 8) ≤ x1 → K 0 st) ∧ (¬ (st k0 8) ≤ x1 → K 1 st))
def w_X1_areTwo (k0 : Nat) (x1 : Int32) (x2 : Int32) (st : St) (K : Int32 → St → Prop) : Prop :=
  w_X1_hasKeeper k0 x1 st (fun r2 st2 => (r2 = 0 → K 0 st2) ∧ (¬ r2 = 0 → w_X1_hasKeeper k0 x2 st2 (fun r10 st10 => (r10 = 0 → K 0 st10) ∧ (¬ r10 = 0 → (x1 = x2 → K 0 st10) ∧ (¬ x1 = x2 → K 1 st10)))))
def w_X8_at (k0 : Nat) (n0 : Nat) (x1 : Int32) (st : St) (K : Int32 → St → Prop) : Prop :=
  (x1 < 0 → K 0 st) ∧ (¬ x1 < 0 → ((nI n0) ≤ x1 → K 0 st) ∧ (¬ (nI n0) ≤ x1 → vp_in x1 n0 ∧ (K (st k0 (x1).toNatClampNeg) st)))
def w_X1_areBothIn (k0 : Nat) (x1 : Int32) (x2 : Int32) (x3 : Int32) (st : St) (K : Int32 → St → Prop) : Prop :=
  w_X8_at (k0 + 3) 6 x2 st (fun r5 st5 => (¬ r5 = x1 → K 0 st5) ∧ (r5 = x1 → w_X8_at (k0 + 3) 6 x3 st5 (fun r17 st17 => (¬ r17 = x1 → K 0 st17) ∧ (r17 = x1 → K 1 st17))))
def w_X1_hasKeeperRoom (k0 : Nat) (st : St) (K : Int32 → St → Prop) : Prop :=
  (6 ≤ (st k0 7) → K 0 st) ∧ (¬ 6 ≤ (st k0 7) → K 1 st)
def w_X1_hasLetterRoom (k0 : Nat) (st : St) (K : Int32 → St → Prop) : Prop :=
  (6 ≤ (st k0 8) → K 0 st) ∧ (¬ 6 ≤ (st k0 8) → K 1 st)
def w_X1_kindOf (k0 : Nat) (x1 : Int32) (st : St) (K : Int32 → St → Prop) : Prop :=
  w_X8_at (k0 + 1) 6 x1 st (fun r5 st5 => K r5 st5)
def w_X1_figureOf (k0 : Nat) (x1 : Int32) (st : St) (K : Int32 → St → Prop) : Prop :=
  w_X8_at (k0 + 2) 6 x1 st (fun r5 st5 => K r5 st5)
def w_X1_townOf (k0 : Nat) (x1 : Int32) (st : St) (K : Int32 → St → Prop) : Prop :=
  w_X8_at (k0 + 3) 6 x1 st (fun r5 st5 => K r5 st5)
def w_X2_fading (x0 : Int32) (x1 : Int32) (st : St) (K : Int32 → St → Prop) : Prop :=
  (x0 = 1 → K 0 st) ∧ (¬ x0 = 1 → (x0 = 2 → K 2 st) ∧ (¬ x0 = 2 → (x0 = 3 → K ((x1 / 2) + 1) st) ∧ (¬ x0 = 3 → (x0 = 4 → K 0 st) ∧ (¬ x0 = 4 → (x0 = 5 → K 3 st) ∧ (¬ x0 = 5 → K 1 st)))))
def w_X1_fadeOf (k0 : Nat) (x1 : Int32) (st : St) (K : Int32 → St → Prop) : Prop :=
  w_X8_at (k0 + 1) 6 x1 st (fun r5 st5 => w_X8_at (k0 + 2) 6 x1 st5 (fun r13 st13 => w_X2_fading r5 r13 st13 (fun r16 st16 => K r16 st16)))
def w_X2_stirring (x0 : Int32) (x1 : Int32) (st : St) (K : Int32 → St → Prop) : Prop :=
  (x0 = 1 → K 1 st) ∧ (¬ x0 = 1 → (x0 = 4 → K (1 + (x1 / 4)) st) ∧ (¬ x0 = 4 → K 0 st))
def w_X1_stirOf (k0 : Nat) (x1 : Int32) (st : St) (K : Int32 → St → Prop) : Prop :=
  w_X8_at (k0 + 1) 6 x1 st (fun r5 st5 => w_X8_at (k0 + 2) 6 x1 st5 (fun r13 st13 => w_X2_stirring r5 r13 st13 (fun r16 st16 => K r16 st16)))
def w_X2_wage (x0 : Int32) (x1 : Int32) (st : St) (K : Int32 → St → Prop) : Prop :=
  (x0 = 1 → K (2 * (x1 + 1)) st) ∧ (¬ x0 = 1 → (x0 = 2 → K 5 st) ∧ (¬ x0 = 2 → (x0 = 3 → K 0 st) ∧ (¬ x0 = 3 → (x0 = 4 → K ((2 * (x1 + 1)) - 1) st) ∧ (¬ x0 = 4 → (x0 = 5 → K 2 st) ∧ (¬ x0 = 5 → K (x1 + 1) st)))))
def w_X1_wageOf (k0 : Nat) (x1 : Int32) (st : St) (K : Int32 → St → Prop) : Prop :=
  w_X8_at (k0 + 1) 6 x1 st (fun r5 st5 => w_X8_at (k0 + 2) 6 x1 st5 (fun r13 st13 => w_X2_wage r5 r13 st13 (fun r16 st16 => K r16 st16)))
def w_X1_depthOf (k0 : Nat) (x1 : Int32) (st : St) (K : Int32 → St → Prop) : Prop :=
  w_X8_at (k0 + 5) 6 x1 st (fun r5 st5 => K r5 st5)
def w_X1_letterTownOf (k0 : Nat) (x1 : Int32) (st : St) (K : Int32 → St → Prop) : Prop :=
  w_X8_at (k0 + 6) 6 x1 st (fun r5 st5 => K r5 st5)
def w_X8_bit (x0 : Int32) (x1 : Int32) (st : St) (K : Int32 → St → Prop) : Prop :=
  (x1 < 0 → K 0 st) ∧ (¬ x1 < 0 → (31 ≤ x1 → K 0 st) ∧ (¬ 31 ≤ x1 → K ((x0 >>> (x1 &&& 31)) &&& 1) st))
def w_X1_isOpen (k0 : Nat) (x1 : Int32) (st : St) (K : Int32 → St → Prop) : Prop :=
  w_X8_bit (st k0 9) x1 st (fun r5 st5 => (¬ r5 = 1 → K 0 st5) ∧ (r5 = 1 → K 1 st5))
def w_X1_openedBy (k0 : Nat) (x1 : Int32) (st : St) (K : Int32 → St → Prop) : Prop :=
  w_X8_at (k0 + 7) 6 x1 st (fun r5 st5 => K r5 st5)
def w_X1_hateOf (k0 : Nat) (x1 : Int32) (x2 : Int32) (st : St) (K : Int32 → St → Prop) : Prop :=
  w_X8_at (k0 + 4) 36 (((if x2 < x1 then x2 else x1) * 6) + (if x1 < x2 then x2 else x1)) st (fun r18 st18 => K r18 st18)
def w_X1_allHate_b39 (k0 : Nat) (c4 : Int32 → Int32 → St → Prop) (K : Int32 → St → Prop) (v1 : Int32) (v2 : Int32) (st : St) : Prop :=
  c4 v1 (v2 + 1) st
def w_X1_allHate_L16q (k0 : Nat) (c4 : Int32 → Int32 → St → Prop) (K : Int32 → St → Prop) (c16 : Int32 → Int32 → Int32 → St → Prop) (v1 : Int32) (v2 : Int32) (v3 : Int32) (st : St) : Prop :=
  ((st k0 7) ≤ v3 → w_X1_allHate_b39 k0 c4 K v1 v2 st) ∧ (¬ (st k0 7) ≤ v3 → w_X1_hateOf k0 v2 v3 st (fun r28 st28 => c16 (v1 + r28) v2 (v3 + 1) st28))
def w_X1_allHate_L16 (k0 : Nat) (c4 : Int32 → Int32 → St → Prop) (K : Int32 → St → Prop) : Nat → Int32 → Int32 → Int32 → St → Prop
  | 0, _, _, _, _ => False
  | n + 1, v1, v2, v3, st => w_X1_allHate_L16q k0 c4 K (fun v1 v2 v3 st => w_X1_allHate_L16 k0 c4 K n v1 v2 v3 st) v1 v2 v3 st
def w_X1_allHate_L4q (k0 : Nat)  (K : Int32 → St → Prop) (c4 : Int32 → Int32 → St → Prop) (v1 : Int32) (v2 : Int32) (st : St) : Prop :=
  ((st k0 7) ≤ v2 → K v1 st) ∧ (¬ (st k0 7) ≤ v2 → ∃ n, w_X1_allHate_L16 k0 c4 K n v1 v2 (v2 + 1) st)
def w_X1_allHate_L4 (k0 : Nat)  (K : Int32 → St → Prop) : Nat → Int32 → Int32 → St → Prop
  | 0, _, _, _ => False
  | n + 1, v1, v2, st => w_X1_allHate_L4q k0  K (fun v1 v2 st => w_X1_allHate_L4 k0  K n v1 v2 st) v1 v2 st
def w_X1_allHate (k0 : Nat) (st : St) (K : Int32 → St → Prop) : Prop :=
  ∃ n, w_X1_allHate_L4 k0  K n 0 0 st
def w_X8_put (k0 : Nat) (n0 : Nat) (x1 : Int32) (x2 : Int32) (st : St) (K : St → Prop) : Prop :=
  (x1 < 0 → K st) ∧ (¬ x1 < 0 → ((nI n0) ≤ x1 → K st) ∧ (¬ (nI n0) ≤ x1 → vp_in x1 n0 ∧ (K (u2 st k0 (x1).toNatClampNeg x2))))
def w_X1_setHate (k0 : Nat) (x1 : Int32) (x2 : Int32) (x3 : Int32) (st : St) (K : St → Prop) : Prop :=
  w_X8_put (k0 + 4) 36 (((if x2 < x1 then x2 else x1) * 6) + (if x1 < x2 then x2 else x1)) (if 0 < (if x3 < 99 then x3 else 99) then (if x3 < 99 then x3 else 99) else 0) st (fun st32 => K st32)
def w_X1_addKeeper_b62 (k0 : Nat) (x1 : Int32) (x2 : Int32) (x3 : Int32)  (K : Int32 → St → Prop) (v4 : Int32) (st : St) : Prop :=
  K v4 (u2 st k0 7 ((st k0 7) + 1))
def w_X1_addKeeper_L39q (k0 : Nat) (x1 : Int32) (x2 : Int32) (x3 : Int32)  (K : Int32 → St → Prop) (c39 : Int32 → Int32 → St → Prop) (v4 : Int32) (v5 : Int32) (st : St) : Prop :=
  (v4 ≤ v5 → w_X1_addKeeper_b62 k0 x1 x2 x3  K v4 st) ∧ (¬ v4 ≤ v5 → w_X1_setHate k0 v5 v4 20 st (fun st53 => c39 v4 (v5 + 1) st53))
def w_X1_addKeeper_L39 (k0 : Nat) (x1 : Int32) (x2 : Int32) (x3 : Int32)  (K : Int32 → St → Prop) : Nat → Int32 → Int32 → St → Prop
  | 0, _, _, _ => False
  | n + 1, v4, v5, st => w_X1_addKeeper_L39q k0 x1 x2 x3  K (fun v4 v5 st => w_X1_addKeeper_L39 k0 x1 x2 x3  K n v4 v5 st) v4 v5 st
def w_X1_addKeeper (k0 : Nat) (x1 : Int32) (x2 : Int32) (x3 : Int32) (st : St) (K : Int32 → St → Prop) : Prop :=
  w_X8_put (k0 + 1) 6 (st k0 7) x1 st (fun st13 => w_X8_put (k0 + 2) 6 (st k0 7) x2 st13 (fun st23 => w_X8_put (k0 + 3) 6 (st k0 7) x3 st23 (fun st33 => ∃ n, w_X1_addKeeper_L39 k0 x1 x2 x3  K n (st k0 7) 0 st33)))
def w_X1_addLetter (k0 : Nat) (x1 : Int32) (x2 : Int32) (st : St) (K : Int32 → St → Prop) : Prop :=
  w_X8_put (k0 + 5) 6 (st k0 8) x2 st (fun st11 => w_X8_put (k0 + 6) 6 (st k0 8) x1 st11 (fun st20 => K (st k0 8) (u2 st20 k0 8 ((st20 k0 8) + 1))))
def w_X1_setKind (k0 : Nat) (x1 : Int32) (x2 : Int32) (st : St) (K : St → Prop) : Prop :=
  w_X8_put (k0 + 1) 6 x1 x2 st (fun st6 => K st6)
def w_X1_setFigure (k0 : Nat) (x1 : Int32) (x2 : Int32) (st : St) (K : St → Prop) : Prop :=
  w_X8_put (k0 + 2) 6 x1 x2 st (fun st6 => K st6)
def w_X1_move (k0 : Nat) (x1 : Int32) (x2 : Int32) (st : St) (K : St → Prop) : Prop :=
  w_X8_put (k0 + 3) 6 x1 x2 st (fun st6 => K st6)
def w_X1_turnSeal (k0 : Nat) (x1 : Int32) (st : St) (K : St → Prop) : Prop :=
  w_X1_hasLetter k0 x1 st (fun r2 st2 => (r2 = 0 → K st2) ∧ (¬ r2 = 0 → K (u2 st2 k0 9 ((st2 k0 9) ^^^ ((1 : Int32) <<< (x1 &&& 31))))))
def w_X8_twoName (x0 : Int32) (x1 : Int32) (st : St) (K : Int32 → St → Prop) : Prop :=
  K ((10 * (if x1 < x0 then x1 else x0)) + (if x0 < x1 then x1 else x0)) st
def w_X1_opener_b106 (k0 : Nat) (x1 : Int32) (c29 : Int32 → Int32 → Int32 → Int32 → Int32 → St → Prop) (c44 : Int32 → Int32 → Int32 → Int32 → Int32 → Int32 → St → Prop) (K : Int32 → St → Prop) (v2 : Int32) (v3 : Int32) (v4 : Int32) (v5 : Int32) (v6 : Int32) (v7 : Int32) (st : St) : Prop :=
  c44 v2 v3 v4 v5 v6 (v7 + 1) st
def w_X1_opener_b78 (k0 : Nat) (x1 : Int32) (c29 : Int32 → Int32 → Int32 → Int32 → Int32 → St → Prop) (c44 : Int32 → Int32 → Int32 → Int32 → Int32 → Int32 → St → Prop) (K : Int32 → St → Prop) (v2 : Int32) (v3 : Int32) (v4 : Int32) (v5 : Int32) (v6 : Int32) (v7 : Int32) (s0 : Int32) (st : St) : Prop :=
  (s0 < v3 → w_X1_opener_b106 k0 x1 c29 c44 K v2 v3 v4 v5 v6 v7 st) ∧ (¬ s0 < v3 → (v5 ≤ s0 → w_X1_opener_b106 k0 x1 c29 c44 K v2 v3 v4 v5 v6 v7 st) ∧ (¬ v5 ≤ s0 → w_X8_twoName v6 v7 st (fun r97 st97 => w_X1_opener_b106 k0 x1 c29 c44 K v2 v3 r97 s0 v6 v7 st97)))
def w_X1_opener_b112 (k0 : Nat) (x1 : Int32) (c29 : Int32 → Int32 → Int32 → Int32 → Int32 → St → Prop) (K : Int32 → St → Prop) (v2 : Int32) (v3 : Int32) (v4 : Int32) (v5 : Int32) (v6 : Int32) (st : St) : Prop :=
  c29 v2 v3 v4 v5 (v6 + 1) st
def w_X1_opener_L44q (k0 : Nat) (x1 : Int32) (c29 : Int32 → Int32 → Int32 → Int32 → Int32 → St → Prop) (K : Int32 → St → Prop) (c44 : Int32 → Int32 → Int32 → Int32 → Int32 → Int32 → St → Prop) (v2 : Int32) (v3 : Int32) (v4 : Int32) (v5 : Int32) (v6 : Int32) (v7 : Int32) (st : St) : Prop :=
  ((st k0 7) ≤ v7 → w_X1_opener_b112 k0 x1 c29 K v2 v3 v4 v5 v6 st) ∧ (¬ (st k0 7) ≤ v7 → w_X1_areBothIn k0 v2 v6 v7 st (fun r59 st59 => (r59 = 0 → w_X1_opener_b78 k0 x1 c29 c44 K v2 v3 v4 v5 v6 v7 (-9) st59) ∧ (¬ r59 = 0 → w_X1_hateOf k0 v6 v7 st59 (fun r70 st70 => w_X1_opener_b78 k0 x1 c29 c44 K v2 v3 v4 v5 v6 v7 r70 st70))))
def w_X1_opener_L44 (k0 : Nat) (x1 : Int32) (c29 : Int32 → Int32 → Int32 → Int32 → Int32 → St → Prop) (K : Int32 → St → Prop) : Nat → Int32 → Int32 → Int32 → Int32 → Int32 → Int32 → St → Prop
  | 0, _, _, _, _, _, _, _ => False
  | n + 1, v2, v3, v4, v5, v6, v7, st => w_X1_opener_L44q k0 x1 c29 K (fun v2 v3 v4 v5 v6 v7 st => w_X1_opener_L44 k0 x1 c29 K n v2 v3 v4 v5 v6 v7 st) v2 v3 v4 v5 v6 v7 st
def w_X1_opener_L29q (k0 : Nat) (x1 : Int32)  (K : Int32 → St → Prop) (c29 : Int32 → Int32 → Int32 → Int32 → Int32 → St → Prop) (v2 : Int32) (v3 : Int32) (v4 : Int32) (v5 : Int32) (v6 : Int32) (st : St) : Prop :=
  ((st k0 7) ≤ v6 → K v4 st) ∧ (¬ (st k0 7) ≤ v6 → ∃ n, w_X1_opener_L44 k0 x1 c29 K n v2 v3 v4 v5 v6 (v6 + 1) st)
def w_X1_opener_L29 (k0 : Nat) (x1 : Int32)  (K : Int32 → St → Prop) : Nat → Int32 → Int32 → Int32 → Int32 → Int32 → St → Prop
  | 0, _, _, _, _, _, _ => False
  | n + 1, v2, v3, v4, v5, v6, st => w_X1_opener_L29q k0 x1  K (fun v2 v3 v4 v5 v6 st => w_X1_opener_L29 k0 x1  K n v2 v3 v4 v5 v6 st) v2 v3 v4 v5 v6 st
def w_X1_opener (k0 : Nat) (x1 : Int32) (st : St) (K : Int32 → St → Prop) : Prop :=
  w_X8_at (k0 + 6) 6 x1 st (fun r5 st5 => w_X8_at (k0 + 5) 6 x1 st5 (fun r14 st14 => ∃ n, w_X1_opener_L29 k0 x1  K n r5 r14 (-9) 100 0 st14))
def w_X1_change (k0 : Nat) (x1 : Int32) (x2 : Int32) (st : St) (K : Int32 → St → Prop) : Prop :=
  w_X8_at (k0 + 3) 6 x1 st (fun r5 st5 => w_X8_at (k0 + 3) 6 x2 st5 (fun r14 st14 => (r5 = (-1) → K 0 st14) ∧ (¬ r5 = (-1) → (¬ r14 = (-1) → (¬ r5 = r14 → w_X1_stirOf k0 x1 st14 (fun r55 st55 => w_X1_stirOf k0 x2 st55 (fun r60 st60 => K (r55 + r60) st60))) ∧ (r5 = r14 → w_X1_fadeOf k0 x1 st14 (fun r40 st40 => w_X1_fadeOf k0 x2 st40 (fun r46 st46 => K ((-r40) - r46) st46)))) ∧ (r14 = (-1) → K 0 st14))))
def w_X1_passWeek_b57 (k0 : Nat) (c12 : Int32 → St → Prop) (K : Int32 → St → Prop) (v1 : Int32) (st : St) : Prop :=
  c12 (v1 + 1) st
def w_X1_passWeek_L24q (k0 : Nat) (c12 : Int32 → St → Prop) (K : Int32 → St → Prop) (c24 : Int32 → Int32 → St → Prop) (v1 : Int32) (v2 : Int32) (st : St) : Prop :=
  ((st k0 7) ≤ v2 → w_X1_passWeek_b57 k0 c12 K v1 st) ∧ (¬ (st k0 7) ≤ v2 → w_X1_hateOf k0 v1 v2 st (fun r38 st38 => w_X1_change k0 v1 v2 st38 (fun r44 st44 => w_X1_setHate k0 v1 v2 (r38 + r44) st44 (fun st48 => c24 v1 (v2 + 1) st48))))
def w_X1_passWeek_L24 (k0 : Nat) (c12 : Int32 → St → Prop) (K : Int32 → St → Prop) : Nat → Int32 → Int32 → St → Prop
  | 0, _, _, _ => False
  | n + 1, v1, v2, st => w_X1_passWeek_L24q k0 c12 K (fun v1 v2 st => w_X1_passWeek_L24 k0 c12 K n v1 v2 st) v1 v2 st
def w_X1_passWeek_b153 (k0 : Nat) (c67 : Int32 → Int32 → St → Prop) (K : Int32 → St → Prop) (v1 : Int32) (v2 : Int32) (st : St) : Prop :=
  c67 v1 (v2 + 1) st
def w_X1_passWeek_b93 (k0 : Nat) (c67 : Int32 → Int32 → St → Prop) (K : Int32 → St → Prop) (v1 : Int32) (v2 : Int32) (s0 : Int32) (st : St) : Prop :=
  (s0 = (-9) → w_X1_passWeek_b153 k0 c67 K v1 v2 st) ∧ (¬ s0 = (-9) → w_X8_put (k0 + 7) 6 v2 s0 (u2 st k0 9 ((st k0 9) ||| ((1 : Int32) <<< (v2 &&& 31)))) (fun st124 => w_X1_hateOf k0 (s0 / 10) (s0 - s0 / 10 * 10) st124 (fun r145 st145 => w_X1_setHate k0 (s0 / 10) (s0 - s0 / 10 * 10) (r145 - 5) st145 (fun st150 => w_X1_passWeek_b153 k0 c67 K (v1 ||| ((1 : Int32) <<< (v2 &&& 31))) v2 st150))))
def w_X1_passWeek_L67q (k0 : Nat)  (K : Int32 → St → Prop) (c67 : Int32 → Int32 → St → Prop) (v1 : Int32) (v2 : Int32) (st : St) : Prop :=
  ((st k0 8) ≤ v2 → K v1 st) ∧ (¬ (st k0 8) ≤ v2 → w_X1_isOpen k0 v2 st (fun r77 st77 => (r77 = 0 → w_X1_opener k0 v2 st77 (fun r90 st90 => w_X1_passWeek_b93 k0 c67 K v1 v2 r90 st90)) ∧ (¬ r77 = 0 → w_X1_passWeek_b93 k0 c67 K v1 v2 (-9) st77)))
def w_X1_passWeek_L67 (k0 : Nat)  (K : Int32 → St → Prop) : Nat → Int32 → Int32 → St → Prop
  | 0, _, _, _ => False
  | n + 1, v1, v2, st => w_X1_passWeek_L67q k0  K (fun v1 v2 st => w_X1_passWeek_L67 k0  K n v1 v2 st) v1 v2 st
def w_X1_passWeek_b63 (k0 : Nat)  (K : Int32 → St → Prop)  (st : St) : Prop :=
  ∃ n, w_X1_passWeek_L67 k0  K n 0 0 st
def w_X1_passWeek_L12q (k0 : Nat)  (K : Int32 → St → Prop) (c12 : Int32 → St → Prop) (v1 : Int32) (st : St) : Prop :=
  ((st k0 7) ≤ v1 → w_X1_passWeek_b63 k0  K st) ∧ (¬ (st k0 7) ≤ v1 → ∃ n, w_X1_passWeek_L24 k0 c12 K n v1 (v1 + 1) st)
def w_X1_passWeek_L12 (k0 : Nat)  (K : Int32 → St → Prop) : Nat → Int32 → St → Prop
  | 0, _, _ => False
  | n + 1, v1, st => w_X1_passWeek_L12q k0  K (fun v1 st => w_X1_passWeek_L12 k0  K n v1 st) v1 st
def w_X1_passWeek (k0 : Nat) (st : St) (K : Int32 → St → Prop) : Prop :=
  ∃ n, w_X1_passWeek_L12 k0  K n 0 (u2 st k0 10 ((st k0 10) + 1))
def w_X1_passWeeks_b18 (k0 : Nat) (x1 : Int32)  (K : Int32 → St → Prop)  (st : St) : Prop :=
  w_X1_openCount k0 st (fun r19 st19 => K r19 st19)
def w_X1_passWeeks_L2q (k0 : Nat) (x1 : Int32)  (K : Int32 → St → Prop) (c2 : Int32 → St → Prop) (v2 : Int32) (st : St) : Prop :=
  (x1 ≤ v2 → w_X1_passWeeks_b18 k0 x1  K st) ∧ (¬ x1 ≤ v2 → w_X1_passWeek k0 st (fun r8 st8 => c2 (v2 + 1) st8))
def w_X1_passWeeks_L2 (k0 : Nat) (x1 : Int32)  (K : Int32 → St → Prop) : Nat → Int32 → St → Prop
  | 0, _, _ => False
  | n + 1, v2, st => w_X1_passWeeks_L2q k0 x1  K (fun v2 st => w_X1_passWeeks_L2 k0 x1  K n v2 st) v2 st
def w_X1_passWeeks (k0 : Nat) (x1 : Int32) (st : St) (K : Int32 → St → Prop) : Prop :=
  ∃ n, w_X1_passWeeks_L2 k0 x1  K n 0 st
def w_X3_keepersIn_b38 (x1 : Int32) (c4 : Int32 → Int32 → St → Prop) (K : Int32 → St → Prop) (v2 : Int32) (v3 : Int32) (st : St) : Prop :=
  c4 v2 (v3 + 1) st
def w_X3_keepersIn_b32 (x1 : Int32) (c4 : Int32 → Int32 → St → Prop) (K : Int32 → St → Prop) (v2 : Int32) (v3 : Int32) (st : St) : Prop :=
  w_X3_keepersIn_b38 x1 c4 K (v2 ||| ((1 : Int32) <<< (v3 &&& 31))) v3 st
def w_X3_keepersIn_L4q (x1 : Int32)  (K : Int32 → St → Prop) (c4 : Int32 → Int32 → St → Prop) (v2 : Int32) (v3 : Int32) (st : St) : Prop :=
  w_X1_keeperCount 11 st (fun r9 st9 => (r9 ≤ v3 → K v2 st9) ∧ (¬ r9 ≤ v3 → (x1 = (-1) → w_X3_keepersIn_b32 x1 c4 K v2 v3 st9) ∧ (¬ x1 = (-1) → w_X1_townOf 11 v3 st9 (fun r25 st25 => (¬ r25 = x1 → w_X3_keepersIn_b38 x1 c4 K v2 v3 st25) ∧ (r25 = x1 → w_X3_keepersIn_b32 x1 c4 K v2 v3 st25)))))
def w_X3_keepersIn_L4 (x1 : Int32)  (K : Int32 → St → Prop) : Nat → Int32 → Int32 → St → Prop
  | 0, _, _, _ => False
  | n + 1, v2, v3, st => w_X3_keepersIn_L4q x1  K (fun v2 v3 st => w_X3_keepersIn_L4 x1  K n v2 v3 st) v2 v3 st
def w_X3_keepersIn (x1 : Int32) (st : St) (K : Int32 → St → Prop) : Prop :=
  ∃ n, w_X3_keepersIn_L4 x1  K n 0 0 st
def w_X3_wages_b35 (x1 : Int32) (c4 : Int32 → Int32 → St → Prop) (K : Int32 → St → Prop) (v2 : Int32) (v3 : Int32) (st : St) : Prop :=
  c4 v2 (v3 + 1) st
def w_X3_wages_L4q (x1 : Int32)  (K : Int32 → St → Prop) (c4 : Int32 → Int32 → St → Prop) (v2 : Int32) (v3 : Int32) (st : St) : Prop :=
  w_X1_keeperCount 11 st (fun r9 st9 => (r9 ≤ v3 → K v2 st9) ∧ (¬ r9 ≤ v3 → w_X8_bit x1 v3 st9 (fun r17 st17 => (¬ r17 = 1 → w_X3_wages_b35 x1 c4 K v2 v3 st17) ∧ (r17 = 1 → w_X1_wageOf 11 v3 st17 (fun r30 st30 => w_X3_wages_b35 x1 c4 K (v2 + r30) v3 st30)))))
def w_X3_wages_L4 (x1 : Int32)  (K : Int32 → St → Prop) : Nat → Int32 → Int32 → St → Prop
  | 0, _, _, _ => False
  | n + 1, v2, v3, st => w_X3_wages_L4q x1  K (fun v2 v3 st => w_X3_wages_L4 x1  K n v2 v3 st) v2 v3 st
def w_X3_wages (x1 : Int32) (st : St) (K : Int32 → St → Prop) : Prop :=
  ∃ n, w_X3_wages_L4 x1  K n 0 0 st
def w_X3_crowd (x1 : Int32) (st : St) (K : Int32 → St → Prop) : Prop :=
  w_X3_keepersIn x1 st (fun r2 st2 => w_J6_bitCount_0f7a4 r2 st2 (fun r5 st5 => K r5 st5))
def w_X3_townOfMost_b24  (c4 : Int32 → Int32 → St → Prop) (K : Int32 → St → Prop) (v1 : Int32) (v2 : Int32) (st : St) : Prop :=
  c4 v1 (v2 + 1) st
def w_X3_townOfMost_L4q   (K : Int32 → St → Prop) (c4 : Int32 → Int32 → St → Prop) (v1 : Int32) (v2 : Int32) (st : St) : Prop :=
  (4 ≤ v2 → K v1 st) ∧ (¬ 4 ≤ v2 → w_X3_crowd v2 st (fun r11 st11 => w_X3_crowd v1 st11 (fun r16 st16 => (r11 ≤ r16 → w_X3_townOfMost_b24  c4 K v1 v2 st16) ∧ (¬ r11 ≤ r16 → w_X3_townOfMost_b24  c4 K v2 v2 st16))))
def w_X3_townOfMost_L4   (K : Int32 → St → Prop) : Nat → Int32 → Int32 → St → Prop
  | 0, _, _, _ => False
  | n + 1, v1, v2, st => w_X3_townOfMost_L4q   K (fun v1 v2 st => w_X3_townOfMost_L4   K n v1 v2 st) v1 v2 st
def w_X3_townOfMost  (st : St) (K : Int32 → St → Prop) : Prop :=
  ∃ n, w_X3_townOfMost_L4   K n 0 1 st
def w_X3_mostHateIn_b62 (x1 : Int32) (c5 : Int32 → Int32 → St → Prop) (c21 : Int32 → Int32 → Int32 → St → Prop) (K : Int32 → St → Prop) (v2 : Int32) (v3 : Int32) (v4 : Int32) (st : St) : Prop :=
  c21 v2 v3 (v4 + 1) st
def w_X3_mostHateIn_b68 (x1 : Int32) (c5 : Int32 → Int32 → St → Prop) (K : Int32 → St → Prop) (v2 : Int32) (v3 : Int32) (st : St) : Prop :=
  c5 v2 (v3 + 1) st
def w_X3_mostHateIn_L21q (x1 : Int32) (c5 : Int32 → Int32 → St → Prop) (K : Int32 → St → Prop) (c21 : Int32 → Int32 → Int32 → St → Prop) (v2 : Int32) (v3 : Int32) (v4 : Int32) (st : St) : Prop :=
  w_X1_keeperCount 11 st (fun r27 st27 => (r27 ≤ v4 → w_X3_mostHateIn_b68 x1 c5 K v2 v3 st27) ∧ (¬ r27 ≤ v4 → w_X1_areBothIn 11 x1 v3 v4 st27 (fun r41 st41 => (r41 = 0 → w_X3_mostHateIn_b62 x1 c5 c21 K v2 v3 v4 st41) ∧ (¬ r41 = 0 → w_X1_hateOf 11 v3 v4 st41 (fun r55 st55 => w_X3_mostHateIn_b62 x1 c5 c21 K (if v2 < r55 then r55 else v2) v3 v4 st55)))))
def w_X3_mostHateIn_L21 (x1 : Int32) (c5 : Int32 → Int32 → St → Prop) (K : Int32 → St → Prop) : Nat → Int32 → Int32 → Int32 → St → Prop
  | 0, _, _, _, _ => False
  | n + 1, v2, v3, v4, st => w_X3_mostHateIn_L21q x1 c5 K (fun v2 v3 v4 st => w_X3_mostHateIn_L21 x1 c5 K n v2 v3 v4 st) v2 v3 v4 st
def w_X3_mostHateIn_L5q (x1 : Int32)  (K : Int32 → St → Prop) (c5 : Int32 → Int32 → St → Prop) (v2 : Int32) (v3 : Int32) (st : St) : Prop :=
  w_X1_keeperCount 11 st (fun r10 st10 => (r10 ≤ v3 → K v2 st10) ∧ (¬ r10 ≤ v3 → ∃ n, w_X3_mostHateIn_L21 x1 c5 K n v2 v3 (v3 + 1) st10))
def w_X3_mostHateIn_L5 (x1 : Int32)  (K : Int32 → St → Prop) : Nat → Int32 → Int32 → St → Prop
  | 0, _, _, _ => False
  | n + 1, v2, v3, st => w_X3_mostHateIn_L5q x1  K (fun v2 v3 st => w_X3_mostHateIn_L5 x1  K n v2 v3 st) v2 v3 st
def w_X3_mostHateIn (x1 : Int32) (st : St) (K : Int32 → St → Prop) : Prop :=
  ∃ n, w_X3_mostHateIn_L5 x1  K n (-9) 0 st
def w_X3_townsThatOpen_b24 (x1 : Int32) (c4 : Int32 → Int32 → St → Prop) (K : Int32 → St → Prop) (v2 : Int32) (v3 : Int32) (st : St) : Prop :=
  c4 v2 (v3 + 1) st
def w_X3_townsThatOpen_L4q (x1 : Int32)  (K : Int32 → St → Prop) (c4 : Int32 → Int32 → St → Prop) (v2 : Int32) (v3 : Int32) (st : St) : Prop :=
  (4 ≤ v3 → K v2 st) ∧ (¬ 4 ≤ v3 → w_X3_mostHateIn v3 st (fun r11 st11 => (r11 < x1 → w_X3_townsThatOpen_b24 x1 c4 K v2 v3 st11) ∧ (¬ r11 < x1 → w_X3_townsThatOpen_b24 x1 c4 K (v2 ||| ((1 : Int32) <<< (v3 &&& 31))) v3 st11)))
def w_X3_townsThatOpen_L4 (x1 : Int32)  (K : Int32 → St → Prop) : Nat → Int32 → Int32 → St → Prop
  | 0, _, _, _ => False
  | n + 1, v2, v3, st => w_X3_townsThatOpen_L4q x1  K (fun v2 v3 st => w_X3_townsThatOpen_L4 x1  K n v2 v3 st) v2 v3 st
def w_X3_townsThatOpen (x1 : Int32) (st : St) (K : Int32 → St → Prop) : Prop :=
  ∃ n, w_X3_townsThatOpen_L4 x1  K n 0 0 st
def w_X3_mostTwosWith_b99 (x1 : Int32) (x2 : Int32) (x3 : Int32) (c13 : Int32 → Int32 → St → Prop) (K : Int32 → St → Prop) (v4 : Int32) (v5 : Int32) (st : St) : Prop :=
  c13 v4 (v5 + 1) st
def w_X3_mostTwosWith_b44 (x1 : Int32) (x2 : Int32) (x3 : Int32) (c13 : Int32 → Int32 → St → Prop) (K : Int32 → St → Prop) (v4 : Int32) (v5 : Int32) (s0 : Int32) (st : St) : Prop :=
  w_X8_bit x2 v5 st (fun r49 st49 => (¬ r49 = 1 → w_X3_mostTwosWith_b99 x1 x2 x3 c13 K v4 v5 st49) ∧ (r49 = 1 → (s0 = 0 → w_X3_mostTwosWith_b99 x1 x2 x3 c13 K v4 v5 st49) ∧ (¬ s0 = 0 → w_X1_hateOf 11 v5 x1 st49 (fun r68 st68 => (r68 < x3 → w_X3_mostTwosWith_b99 x1 x2 x3 c13 K v4 v5 st68) ∧ (¬ r68 < x3 → w_X8_at 9 64 (x2 &&& (((1 : Int32) <<< (v5 &&& 31)) ^^^ (-1))) st68 (fun r90 st90 => w_X3_mostTwosWith_b99 x1 x2 x3 c13 K (if v4 < (1 + r90) then (1 + r90) else v4) v5 st90))))))
def w_X3_mostTwosWith_L13q (x1 : Int32) (x2 : Int32) (x3 : Int32)  (K : Int32 → St → Prop) (c13 : Int32 → Int32 → St → Prop) (v4 : Int32) (v5 : Int32) (st : St) : Prop :=
  (x1 ≤ v5 → K v4 st) ∧ (¬ x1 ≤ v5 → w_X1_townOf 11 v5 st (fun r25 st25 => w_X1_townOf 11 x1 st25 (fun r33 st33 => (¬ r25 = r33 → w_X3_mostTwosWith_b44 x1 x2 x3 c13 K v4 v5 0 st33) ∧ (r25 = r33 → w_X3_mostTwosWith_b44 x1 x2 x3 c13 K v4 v5 1 st33))))
def w_X3_mostTwosWith_L13 (x1 : Int32) (x2 : Int32) (x3 : Int32)  (K : Int32 → St → Prop) : Nat → Int32 → Int32 → St → Prop
  | 0, _, _, _ => False
  | n + 1, v4, v5, st => w_X3_mostTwosWith_L13q x1 x2 x3  K (fun v4 v5 st => w_X3_mostTwosWith_L13 x1 x2 x3  K n v4 v5 st) v4 v5 st
def w_X3_mostTwosWith (x1 : Int32) (x2 : Int32) (x3 : Int32) (st : St) (K : Int32 → St → Prop) : Prop :=
  w_X8_at 9 64 x2 st (fun r5 st5 => ∃ n, w_X3_mostTwosWith_L13 x1 x2 x3  K n r5 0 st5)
def w_X3_mostTwos_b47 (x1 : Int32) (c2 : Int32 → St → Prop) (K : Int32 → St → Prop) (v2 : Int32) (st : St) : Prop :=
  c2 (v2 + 1) st
def w_X3_mostTwos_L15q (x1 : Int32) (c2 : Int32 → St → Prop) (K : Int32 → St → Prop) (c15 : Int32 → Int32 → St → Prop) (v2 : Int32) (v3 : Int32) (st : St) : Prop :=
  (((1 : Int32) <<< (v2 &&& 31)) ≤ v3 → w_X3_mostTwos_b47 x1 c2 K v2 st) ∧ (¬ ((1 : Int32) <<< (v2 &&& 31)) ≤ v3 → w_X3_mostTwosWith v2 v3 x1 st (fun r35 st35 => w_X8_put 9 64 (v3 ||| ((1 : Int32) <<< (v2 &&& 31))) r35 st35 (fun st38 => c15 v2 (v3 + 1) st38)))
def w_X3_mostTwos_L15 (x1 : Int32) (c2 : Int32 → St → Prop) (K : Int32 → St → Prop) : Nat → Int32 → Int32 → St → Prop
  | 0, _, _, _ => False
  | n + 1, v2, v3, st => w_X3_mostTwos_L15q x1 c2 K (fun v2 v3 st => w_X3_mostTwos_L15 x1 c2 K n v2 v3 st) v2 v3 st
def w_X3_mostTwos_b53 (x1 : Int32)  (K : Int32 → St → Prop)  (st : St) : Prop :=
  w_X1_keeperCount 11 st (fun r62 st62 => w_X8_at 9 64 (((1 : Int32) <<< (r62 &&& 31)) - 1) st62 (fun r68 st68 => K r68 st68))
def w_X3_mostTwos_L2q (x1 : Int32)  (K : Int32 → St → Prop) (c2 : Int32 → St → Prop) (v2 : Int32) (st : St) : Prop :=
  w_X1_keeperCount 11 st (fun r7 st7 => (r7 ≤ v2 → w_X3_mostTwos_b53 x1  K st7) ∧ (¬ r7 ≤ v2 → ∃ n, w_X3_mostTwos_L15 x1 c2 K n v2 0 st7))
def w_X3_mostTwos_L2 (x1 : Int32)  (K : Int32 → St → Prop) : Nat → Int32 → St → Prop
  | 0, _, _ => False
  | n + 1, v2, st => w_X3_mostTwos_L2q x1  K (fun v2 st => w_X3_mostTwos_L2 x1  K n v2 st) v2 st
def w_X3_mostTwos (x1 : Int32) (st : St) (K : Int32 → St → Prop) : Prop :=
  ∃ n, w_X3_mostTwos_L2 x1  K n 0 st
def w_X3_worstTwo_b74 (x1 : Int32) (c9 : Int32 → Int32 → Int32 → St → Prop) (c27 : Int32 → Int32 → Int32 → Int32 → St → Prop) (K : Int32 → St → Prop) (v2 : Int32) (v3 : Int32) (v4 : Int32) (v5 : Int32) (st : St) : Prop :=
  c27 v2 v3 v4 (v5 + 1) st
def w_X3_worstTwo_b80 (x1 : Int32) (c9 : Int32 → Int32 → Int32 → St → Prop) (K : Int32 → St → Prop) (v2 : Int32) (v3 : Int32) (v4 : Int32) (st : St) : Prop :=
  c9 v2 v3 (v4 + 1) st
def w_X3_worstTwo_L27q (x1 : Int32) (c9 : Int32 → Int32 → Int32 → St → Prop) (K : Int32 → St → Prop) (c27 : Int32 → Int32 → Int32 → Int32 → St → Prop) (v2 : Int32) (v3 : Int32) (v4 : Int32) (v5 : Int32) (st : St) : Prop :=
  w_X1_keeperCount 11 st (fun r33 st33 => (r33 ≤ v5 → w_X3_worstTwo_b80 x1 c9 K v2 v3 v4 st33) ∧ (¬ r33 ≤ v5 → w_X1_hateOf 11 v4 v5 st33 (fun r47 st47 => (r47 ≤ v3 → w_X3_worstTwo_b74 x1 c9 c27 K v2 v3 v4 v5 st47) ∧ (¬ r47 ≤ v3 → w_X1_hateOf 11 v4 v5 st47 (fun r62 st62 => w_X8_twoName v4 v5 st62 (fun r70 st70 => w_X3_worstTwo_b74 x1 c9 c27 K r70 r62 v4 v5 st70))))))
def w_X3_worstTwo_L27 (x1 : Int32) (c9 : Int32 → Int32 → Int32 → St → Prop) (K : Int32 → St → Prop) : Nat → Int32 → Int32 → Int32 → Int32 → St → Prop
  | 0, _, _, _, _, _ => False
  | n + 1, v2, v3, v4, v5, st => w_X3_worstTwo_L27q x1 c9 K (fun v2 v3 v4 v5 st => w_X3_worstTwo_L27 x1 c9 K n v2 v3 v4 v5 st) v2 v3 v4 v5 st
def w_X3_worstTwo_b86 (x1 : Int32)  (K : Int32 → St → Prop) (v2 : Int32) (v3 : Int32) (st : St) : Prop :=
  (x1 = 0 → K v3 st) ∧ (¬ x1 = 0 → K v2 st)
def w_X3_worstTwo_L9q (x1 : Int32)  (K : Int32 → St → Prop) (c9 : Int32 → Int32 → Int32 → St → Prop) (v2 : Int32) (v3 : Int32) (v4 : Int32) (st : St) : Prop :=
  w_X1_keeperCount 11 st (fun r15 st15 => (r15 ≤ v4 → w_X3_worstTwo_b86 x1  K v2 v3 st15) ∧ (¬ r15 ≤ v4 → ∃ n, w_X3_worstTwo_L27 x1 c9 K n v2 v3 v4 (v4 + 1) st15))
def w_X3_worstTwo_L9 (x1 : Int32)  (K : Int32 → St → Prop) : Nat → Int32 → Int32 → Int32 → St → Prop
  | 0, _, _, _, _ => False
  | n + 1, v2, v3, v4, st => w_X3_worstTwo_L9q x1  K (fun v2 v3 v4 st => w_X3_worstTwo_L9 x1  K n v2 v3 v4 st) v2 v3 v4 st
def w_X3_worstTwo (x1 : Int32) (st : St) (K : Int32 → St → Prop) : Prop :=
  ∃ n, w_X3_worstTwo_L9 x1  K n (-9) (-9) 0 st
def w_X3_friends_b45  (c4 : Int32 → Int32 → St → Prop) (c19 : Int32 → Int32 → Int32 → St → Prop) (K : Int32 → St → Prop) (v1 : Int32) (v2 : Int32) (v3 : Int32) (st : St) : Prop :=
  c19 v1 v2 (v3 + 1) st
def w_X3_friends_b51  (c4 : Int32 → Int32 → St → Prop) (K : Int32 → St → Prop) (v1 : Int32) (v2 : Int32) (st : St) : Prop :=
  c4 v1 (v2 + 1) st
def w_X3_friends_L19q  (c4 : Int32 → Int32 → St → Prop) (K : Int32 → St → Prop) (c19 : Int32 → Int32 → Int32 → St → Prop) (v1 : Int32) (v2 : Int32) (v3 : Int32) (st : St) : Prop :=
  w_X1_keeperCount 11 st (fun r24 st24 => (r24 ≤ v3 → w_X3_friends_b51  c4 K v1 v2 st24) ∧ (¬ r24 ≤ v3 → w_X1_hateOf 11 v2 v3 st24 (fun r36 st36 => (¬ r36 = 0 → w_X3_friends_b45  c4 c19 K v1 v2 v3 st36) ∧ (r36 = 0 → w_X3_friends_b45  c4 c19 K (v1 + 1) v2 v3 st36))))
def w_X3_friends_L19  (c4 : Int32 → Int32 → St → Prop) (K : Int32 → St → Prop) : Nat → Int32 → Int32 → Int32 → St → Prop
  | 0, _, _, _, _ => False
  | n + 1, v1, v2, v3, st => w_X3_friends_L19q  c4 K (fun v1 v2 v3 st => w_X3_friends_L19  c4 K n v1 v2 v3 st) v1 v2 v3 st
def w_X3_friends_L4q   (K : Int32 → St → Prop) (c4 : Int32 → Int32 → St → Prop) (v1 : Int32) (v2 : Int32) (st : St) : Prop :=
  w_X1_keeperCount 11 st (fun r9 st9 => (r9 ≤ v2 → K v1 st9) ∧ (¬ r9 ≤ v2 → ∃ n, w_X3_friends_L19  c4 K n v1 v2 (v2 + 1) st9))
def w_X3_friends_L4   (K : Int32 → St → Prop) : Nat → Int32 → Int32 → St → Prop
  | 0, _, _, _ => False
  | n + 1, v1, v2, st => w_X3_friends_L4q   K (fun v1 v2 st => w_X3_friends_L4   K n v1 v2 st) v1 v2 st
def w_X3_friends  (st : St) (K : Int32 → St → Prop) : Prop :=
  ∃ n, w_X3_friends_L4   K n 0 0 st
def w_X3_deepestSealed_b64  (c5 : Int32 → Int32 → St → Prop) (K : Int32 → St → Prop) (v1 : Int32) (v2 : Int32) (st : St) : Prop :=
  c5 v1 (v2 + 1) st
def w_X3_deepestSealed_b46  (c5 : Int32 → Int32 → St → Prop) (K : Int32 → St → Prop) (v1 : Int32) (v2 : Int32) (s0 : Int32) (st : St) : Prop :=
  w_X1_isOpen 11 v2 st (fun r52 st52 => (¬ r52 = 0 → w_X3_deepestSealed_b64  c5 K v1 v2 st52) ∧ (r52 = 0 → (s0 = 0 → w_X3_deepestSealed_b64  c5 K v1 v2 st52) ∧ (¬ s0 = 0 → w_X3_deepestSealed_b64  c5 K v2 v2 st52)))
def w_X3_deepestSealed_b41  (c5 : Int32 → Int32 → St → Prop) (K : Int32 → St → Prop) (v1 : Int32) (v2 : Int32) (st : St) : Prop :=
  w_X3_deepestSealed_b46  c5 K v1 v2 1 st
def w_X3_deepestSealed_L5q   (K : Int32 → St → Prop) (c5 : Int32 → Int32 → St → Prop) (v1 : Int32) (v2 : Int32) (st : St) : Prop :=
  w_X1_letterCount 11 st (fun r10 st10 => (r10 ≤ v2 → K v1 st10) ∧ (¬ r10 ≤ v2 → (v1 = (-9) → w_X3_deepestSealed_b41  c5 K v1 v2 st10) ∧ (¬ v1 = (-9) → w_X1_depthOf 11 v2 st10 (fun r27 st27 => w_X1_depthOf 11 v1 st27 (fun r35 st35 => (r27 ≤ r35 → w_X3_deepestSealed_b46  c5 K v1 v2 0 st35) ∧ (¬ r27 ≤ r35 → w_X3_deepestSealed_b41  c5 K v1 v2 st35))))))
def w_X3_deepestSealed_L5   (K : Int32 → St → Prop) : Nat → Int32 → Int32 → St → Prop
  | 0, _, _, _ => False
  | n + 1, v1, v2, st => w_X3_deepestSealed_L5q   K (fun v1 v2 st => w_X3_deepestSealed_L5   K n v1 v2 st) v1 v2 st
def w_X3_deepestSealed  (st : St) (K : Int32 → St → Prop) : Prop :=
  ∃ n, w_X3_deepestSealed_L5   K n (-9) 0 st
def w_X3_hateOrSelf (x1 : Int32) (x2 : Int32) (st : St) (K : Int32 → St → Prop) : Prop :=
  (¬ x1 = x2 → w_X1_hateOf 11 x1 x2 st (fun r15 st15 => K r15 st15)) ∧ (x1 = x2 → K 0 st)
def w_X3_hatesTogether_L4q (x1 : Int32)  (K : Int32 → St → Prop) (c4 : Int32 → Int32 → St → Prop) (v2 : Int32) (v3 : Int32) (st : St) : Prop :=
  w_X1_keeperCount 11 st (fun r9 st9 => (r9 ≤ v3 → K v2 st9) ∧ (¬ r9 ≤ v3 → w_X3_hateOrSelf x1 v3 st9 (fun r19 st19 => c4 (v2 + r19) (v3 + 1) st19)))
def w_X3_hatesTogether_L4 (x1 : Int32)  (K : Int32 → St → Prop) : Nat → Int32 → Int32 → St → Prop
  | 0, _, _, _ => False
  | n + 1, v2, v3, st => w_X3_hatesTogether_L4q x1  K (fun v2 v3 st => w_X3_hatesTogether_L4 x1  K n v2 v3 st) v2 v3 st
def w_X3_hatesTogether (x1 : Int32) (st : St) (K : Int32 → St → Prop) : Prop :=
  ∃ n, w_X3_hatesTogether_L4 x1  K n 0 0 st
def w_X3_leastHating_b37  (c5 : Int32 → Int32 → St → Prop) (K : Int32 → St → Prop) (v1 : Int32) (v2 : Int32) (st : St) : Prop :=
  c5 v1 (v2 + 1) st
def w_X3_leastHating_b35  (c5 : Int32 → Int32 → St → Prop) (K : Int32 → St → Prop) (v2 : Int32) (st : St) : Prop :=
  w_X3_leastHating_b37  c5 K v2 v2 st
def w_X3_leastHating_L5q   (K : Int32 → St → Prop) (c5 : Int32 → Int32 → St → Prop) (v1 : Int32) (v2 : Int32) (st : St) : Prop :=
  w_X1_keeperCount 11 st (fun r10 st10 => (r10 ≤ v2 → K v1 st10) ∧ (¬ r10 ≤ v2 → (v1 = (-9) → w_X3_leastHating_b35  c5 K v2 st10) ∧ (¬ v1 = (-9) → w_X3_hatesTogether v2 st10 (fun r24 st24 => w_X3_hatesTogether v1 st24 (fun r29 st29 => (r29 ≤ r24 → w_X3_leastHating_b37  c5 K v1 v2 st29) ∧ (¬ r29 ≤ r24 → w_X3_leastHating_b35  c5 K v2 st29))))))
def w_X3_leastHating_L5   (K : Int32 → St → Prop) : Nat → Int32 → Int32 → St → Prop
  | 0, _, _, _ => False
  | n + 1, v1, v2, st => w_X3_leastHating_L5q   K (fun v1 v2 st => w_X3_leastHating_L5   K n v1 v2 st) v1 v2 st
def w_X3_leastHating  (st : St) (K : Int32 → St → Prop) : Prop :=
  ∃ n, w_X3_leastHating_L5   K n (-9) 0 st
def w_X3_mostHated_b62 (x1 : Int32) (c5 : Int32 → Int32 → St → Prop) (K : Int32 → St → Prop) (v2 : Int32) (v3 : Int32) (st : St) : Prop :=
  c5 v2 (v3 + 1) st
def w_X3_mostHated_b48 (x1 : Int32) (c5 : Int32 → Int32 → St → Prop) (K : Int32 → St → Prop) (v2 : Int32) (v3 : Int32) (s0 : Int32) (st : St) : Prop :=
  (v3 = x1 → w_X3_mostHated_b62 x1 c5 K v2 v3 st) ∧ (¬ v3 = x1 → (s0 = 0 → w_X3_mostHated_b62 x1 c5 K v2 v3 st) ∧ (¬ s0 = 0 → w_X3_mostHated_b62 x1 c5 K v3 v3 st))
def w_X3_mostHated_b43 (x1 : Int32) (c5 : Int32 → Int32 → St → Prop) (K : Int32 → St → Prop) (v2 : Int32) (v3 : Int32) (st : St) : Prop :=
  w_X3_mostHated_b48 x1 c5 K v2 v3 1 st
def w_X3_mostHated_L5q (x1 : Int32)  (K : Int32 → St → Prop) (c5 : Int32 → Int32 → St → Prop) (v2 : Int32) (v3 : Int32) (st : St) : Prop :=
  w_X1_keeperCount 11 st (fun r10 st10 => (r10 ≤ v3 → K v2 st10) ∧ (¬ r10 ≤ v3 → (v2 = (-9) → w_X3_mostHated_b43 x1 c5 K v2 v3 st10) ∧ (¬ v2 = (-9) → w_X1_hateOf 11 x1 v3 st10 (fun r28 st28 => w_X1_hateOf 11 x1 v2 st28 (fun r37 st37 => (r28 ≤ r37 → w_X3_mostHated_b48 x1 c5 K v2 v3 0 st37) ∧ (¬ r28 ≤ r37 → w_X3_mostHated_b43 x1 c5 K v2 v3 st37))))))
def w_X3_mostHated_L5 (x1 : Int32)  (K : Int32 → St → Prop) : Nat → Int32 → Int32 → St → Prop
  | 0, _, _, _ => False
  | n + 1, v2, v3, st => w_X3_mostHated_L5q x1  K (fun v2 v3 st => w_X3_mostHated_L5 x1  K n v2 v3 st) v2 v3 st
def w_X3_mostHated (x1 : Int32) (st : St) (K : Int32 → St → Prop) : Prop :=
  ∃ n, w_X3_mostHated_L5 x1  K n (-9) 0 st
def w_X3_bareTowns_b55  (c4 : Int32 → Int32 → St → Prop) (K : Int32 → St → Prop) (v1 : Int32) (v2 : Int32) (st : St) : Prop :=
  c4 v1 (v2 + 1) st
def w_X3_bareTowns_L4q   (K : Int32 → St → Prop) (c4 : Int32 → Int32 → St → Prop) (v1 : Int32) (v2 : Int32) (st : St) : Prop :=
  w_X1_letterCount 11 st (fun r9 st9 => (r9 ≤ v2 → K v1 st9) ∧ (¬ r9 ≤ v2 → w_X1_isOpen 11 v2 st9 (fun r20 st20 => (¬ r20 = 0 → w_X3_bareTowns_b55  c4 K v1 v2 st20) ∧ (r20 = 0 → w_X1_letterTownOf 11 v2 st20 (fun r32 st32 => w_X3_crowd r32 st32 (fun r35 st35 => (2 ≤ r35 → w_X3_bareTowns_b55  c4 K v1 v2 st35) ∧ (¬ 2 ≤ r35 → w_X1_letterTownOf 11 v2 st35 (fun r49 st49 => w_X3_bareTowns_b55  c4 K (v1 ||| ((1 : Int32) <<< (r49 &&& 31))) v2 st49))))))))
def w_X3_bareTowns_L4   (K : Int32 → St → Prop) : Nat → Int32 → Int32 → St → Prop
  | 0, _, _, _ => False
  | n + 1, v1, v2, st => w_X3_bareTowns_L4q   K (fun v1 v2 st => w_X3_bareTowns_L4   K n v1 v2 st) v1 v2 st
def w_X3_bareTowns  (st : St) (K : Int32 → St → Prop) : Prop :=
  ∃ n, w_X3_bareTowns_L4   K n 0 0 st
def w_X6_size  (st : St) (K : Int32 → St → Prop) : Prop :=
  K (st 6 1) st
def w_X6_number (x1 : Int32) (st : St) (K : Int32 → St → Prop) : Prop :=
  w_X8_at 7 12 x1 st (fun r5 st5 => K r5 st5)
def w_X3_firstMisjudged_L9q (x1 : Int32)  (K : Int32 → St → Prop) (c9 : Int32 → St → Prop) (v3 : Int32) (st : St) : Prop :=
  w_X6_size  st (fun r11 st11 => (r11 ≤ v3 → K (-9) st11) ∧ (¬ r11 ≤ v3 → w_X1_hasKeeper 11 v3 st11 (fun r22 st22 => (r22 = 0 → K v3 st22) ∧ (¬ r22 = 0 → w_X6_number v3 st22 (fun r30 st30 => w_X3_hateOrSelf x1 v3 st30 (fun r36 st36 => (r30 = r36 → c9 (v3 + 1) st36) ∧ (¬ r30 = r36 → K v3 st36)))))))
def w_X3_firstMisjudged_L9 (x1 : Int32)  (K : Int32 → St → Prop) : Nat → Int32 → St → Prop
  | 0, _, _ => False
  | n + 1, v3, st => w_X3_firstMisjudged_L9q x1  K (fun v3 st => w_X3_firstMisjudged_L9 x1  K n v3 st) v3 st
def w_X3_firstMisjudged (x1 : Int32) (st : St) (K : Int32 → St → Prop) : Prop :=
  ∃ n, w_X3_firstMisjudged_L9 x1  K n 0 st
def w_X4_hateAfter (x1 : Int32) (x2 : Int32) (x3 : Int32) (st : St) (K : Int32 → St → Prop) : Prop :=
  w_X1_become 99 11 st (fun st8 => w_X1_passWeeks 99 x3 st8 (fun r16 st16 => w_X1_hateOf 99 x1 x2 st16 (fun r26 st26 => K r26 st26)))
def w_X4_openBitsAfter (x1 : Int32) (st : St) (K : Int32 → St → Prop) : Prop :=
  w_X1_become 99 11 st (fun st8 => w_X1_passWeeks 99 x1 st8 (fun r16 st16 => w_X1_openBits 99 st16 (fun r24 st24 => K r24 st24)))
def w_X4_allHateAfter (x1 : Int32) (st : St) (K : Int32 → St → Prop) : Prop :=
  w_X1_become 99 11 st (fun st8 => w_X1_passWeeks 99 x1 st8 (fun r16 st16 => w_X1_allHate 99 st16 (fun r24 st24 => K r24 st24)))
def w_X4_weekOpened_L13q (x1 : Int32)  (K : Int32 → St → Prop) (c13 : Int32 → St → Prop) (v2 : Int32) (st : St) : Prop :=
  (60 < v2 → K (-9) st) ∧ (¬ 60 < v2 → w_X1_isOpen 99 x1 st (fun r24 st24 => (r24 = 0 → w_X1_passWeek 99 st24 (fun r36 st36 => c13 (v2 + 1) st36)) ∧ (¬ r24 = 0 → K v2 st24)))
def w_X4_weekOpened_L13 (x1 : Int32)  (K : Int32 → St → Prop) : Nat → Int32 → St → Prop
  | 0, _, _ => False
  | n + 1, v2, st => w_X4_weekOpened_L13q x1  K (fun v2 st => w_X4_weekOpened_L13 x1  K n v2 st) v2 st
def w_X4_weekOpened (x1 : Int32) (st : St) (K : Int32 → St → Prop) : Prop :=
  w_X1_become 99 11 st (fun st8 => ∃ n, w_X4_weekOpened_L13 x1  K n 0 st8)
def w_X4_openedBy (x1 : Int32) (st : St) (K : Int32 → St → Prop) : Prop :=
  w_X1_become 99 11 st (fun st8 => w_X1_passWeeks 99 60 st8 (fun r17 st17 => w_X1_openedBy 99 x1 st17 (fun r26 st26 => K r26 st26)))
def w_X4_weekBelow_L14q (x1 : Int32) (x2 : Int32) (x3 : Int32)  (K : Int32 → St → Prop) (c14 : Int32 → St → Prop) (v4 : Int32) (st : St) : Prop :=
  (60 < v4 → K (-9) st) ∧ (¬ 60 < v4 → w_X1_hateOf 99 x1 x2 st (fun r27 st27 => (x3 ≤ r27 → w_X1_passWeek 99 st27 (fun r41 st41 => c14 (v4 + 1) st41)) ∧ (¬ x3 ≤ r27 → K v4 st27)))
def w_X4_weekBelow_L14 (x1 : Int32) (x2 : Int32) (x3 : Int32)  (K : Int32 → St → Prop) : Nat → Int32 → St → Prop
  | 0, _, _ => False
  | n + 1, v4, st => w_X4_weekBelow_L14q x1 x2 x3  K (fun v4 st => w_X4_weekBelow_L14 x1 x2 x3  K n v4 st) v4 st
def w_X4_weekBelow (x1 : Int32) (x2 : Int32) (x3 : Int32) (st : St) (K : Int32 → St → Prop) : Prop :=
  w_X1_become 99 11 st (fun st8 => ∃ n, w_X4_weekBelow_L14 x1 x2 x3  K n 0 st8)
def w_X4_sealedFar  (st : St) (K : Int32 → St → Prop) : Prop :=
  w_X1_letterCount 11 st (fun r5 st5 => w_X4_openBitsAfter 60 st5 (fun r14 st14 => K ((((1 : Int32) <<< (r5 &&& 31)) - 1) &&& (r14 ^^^ (-1))) st14))
def w_X4_firstOpened_b52  (c13 : Int32 → St → Prop) (K : Int32 → St → Prop) (v1 : Int32) (st : St) : Prop :=
  c13 (v1 + 1) st
def w_X4_firstOpened_L29q  (c13 : Int32 → St → Prop) (K : Int32 → St → Prop) (c29 : Int32 → Int32 → Int32 → St → Prop) (v1 : Int32) (v2 : Int32) (v3 : Int32) (st : St) : Prop :=
  (6 ≤ v3 → w_X4_firstOpened_b52  c13 K v1 st) ∧ (¬ 6 ≤ v3 → w_X8_bit v2 v3 st (fun r37 st37 => (¬ r37 = 1 → c29 v1 v2 (v3 + 1) st37) ∧ (r37 = 1 → K v3 st37)))
def w_X4_firstOpened_L29  (c13 : Int32 → St → Prop) (K : Int32 → St → Prop) : Nat → Int32 → Int32 → Int32 → St → Prop
  | 0, _, _, _, _ => False
  | n + 1, v1, v2, v3, st => w_X4_firstOpened_L29q  c13 K (fun v1 v2 v3 st => w_X4_firstOpened_L29  c13 K n v1 v2 v3 st) v1 v2 v3 st
def w_X4_firstOpened_L13q   (K : Int32 → St → Prop) (c13 : Int32 → St → Prop) (v1 : Int32) (st : St) : Prop :=
  (60 < v1 → K (-9) st) ∧ (¬ 60 < v1 → w_X1_passWeek 99 st (fun r23 st23 => ∃ n, w_X4_firstOpened_L29  c13 K n v1 r23 0 st23))
def w_X4_firstOpened_L13   (K : Int32 → St → Prop) : Nat → Int32 → St → Prop
  | 0, _, _ => False
  | n + 1, v1, st => w_X4_firstOpened_L13q   K (fun v1 st => w_X4_firstOpened_L13   K n v1 st) v1 st
def w_X4_firstOpened  (st : St) (K : Int32 → St → Prop) : Prop :=
  w_X1_become 99 11 st (fun st8 => ∃ n, w_X4_firstOpened_L13   K n 1 st8)
def w_X4_leastInsult_L3q (x1 : Int32) (x2 : Int32) (x3 : Int32)  (K : Int32 → St → Prop) (c3 : Int32 → St → Prop) (v4 : Int32) (st : St) : Prop :=
  (99 < v4 → K (-9) st) ∧ (¬ 99 < v4 → w_X1_become 99 11 st (fun st18 => w_X1_hateOf 11 x1 x2 st18 (fun r33 st33 => w_X1_setHate 99 x1 x2 (r33 + v4) st33 (fun st39 => w_X1_passWeek 99 st39 (fun r46 st46 => w_X1_openedBy 99 x3 st46 (fun r55 st55 => w_X8_twoName x1 x2 st55 (fun r60 st60 => (¬ r55 = r60 → c3 (v4 + 1) st60) ∧ (r55 = r60 → K v4 st60))))))))
def w_X4_leastInsult_L3 (x1 : Int32) (x2 : Int32) (x3 : Int32)  (K : Int32 → St → Prop) : Nat → Int32 → St → Prop
  | 0, _, _ => False
  | n + 1, v4, st => w_X4_leastInsult_L3q x1 x2 x3  K (fun v4 st => w_X4_leastInsult_L3 x1 x2 x3  K n v4 st) v4 st
def w_X4_leastInsult (x1 : Int32) (x2 : Int32) (x3 : Int32) (st : St) (K : Int32 → St → Prop) : Prop :=
  ∃ n, w_X4_leastInsult_L3 x1 x2 x3  K n 0 st
def w_X4_idleWeeks_b33 (x1 : Int32) (c15 : Int32 → Int32 → St → Prop) (K : Int32 → St → Prop) (v2 : Int32) (v3 : Int32) (st : St) : Prop :=
  c15 v2 (v3 + 1) st
def w_X4_idleWeeks_L15q (x1 : Int32)  (K : Int32 → St → Prop) (c15 : Int32 → Int32 → St → Prop) (v2 : Int32) (v3 : Int32) (st : St) : Prop :=
  (x1 ≤ v3 → K v2 st) ∧ (¬ x1 ≤ v3 → w_X1_passWeek 99 st (fun r24 st24 => (¬ r24 = 0 → w_X4_idleWeeks_b33 x1 c15 K v2 v3 st24) ∧ (r24 = 0 → w_X4_idleWeeks_b33 x1 c15 K (v2 + 1) v3 st24)))
def w_X4_idleWeeks_L15 (x1 : Int32)  (K : Int32 → St → Prop) : Nat → Int32 → Int32 → St → Prop
  | 0, _, _, _ => False
  | n + 1, v2, v3, st => w_X4_idleWeeks_L15q x1  K (fun v2 v3 st => w_X4_idleWeeks_L15 x1  K n v2 v3 st) v2 v3 st
def w_X4_idleWeeks (x1 : Int32) (st : St) (K : Int32 → St → Prop) : Prop :=
  w_X1_become 99 11 st (fun st8 => ∃ n, w_X4_idleWeeks_L15 x1  K n 0 0 st8)
def w_X4_openAsAllIs (x1 : Int32) (st : St) (K : Int32 → St → Prop) : Prop :=
  w_X1_become 99 11 st (fun st8 => w_X1_passWeeks 99 x1 st8 (fun r16 st16 => K r16 st16))
def w_X4_bestSending_b97 (x1 : Int32) (c12 : Int32 → Int32 → Int32 → St → Prop) (c27 : Int32 → Int32 → Int32 → Int32 → St → Prop) (K : Int32 → St → Prop) (v2 : Int32) (v3 : Int32) (v4 : Int32) (v5 : Int32) (st : St) : Prop :=
  c27 v2 v3 v4 (v5 + 1) st
def w_X4_bestSending_b103 (x1 : Int32) (c12 : Int32 → Int32 → Int32 → St → Prop) (K : Int32 → St → Prop) (v2 : Int32) (v3 : Int32) (v4 : Int32) (st : St) : Prop :=
  c12 v2 v3 (v4 + 1) st
def w_X4_bestSending_L27q (x1 : Int32) (c12 : Int32 → Int32 → Int32 → St → Prop) (K : Int32 → St → Prop) (c27 : Int32 → Int32 → Int32 → Int32 → St → Prop) (v2 : Int32) (v3 : Int32) (v4 : Int32) (v5 : Int32) (st : St) : Prop :=
  (4 ≤ v5 → w_X4_bestSending_b103 x1 c12 K v2 v3 v4 st) ∧ (¬ 4 ≤ v5 → w_X1_townOf 11 v4 st (fun r41 st41 => (v5 = r41 → w_X4_bestSending_b97 x1 c12 c27 K v2 v3 v4 v5 st41) ∧ (¬ v5 = r41 → w_X1_become 99 11 st41 (fun st55 => w_X1_move 99 v4 v5 st55 (fun st66 => w_X1_passWeeks 99 x1 st66 (fun r74 st74 => (r74 ≤ v3 → w_X4_bestSending_b97 x1 c12 c27 K v2 v3 v4 v5 st74) ∧ (¬ r74 ≤ v3 → w_X4_bestSending_b97 x1 c12 c27 K ((10 * v4) + v5) r74 v4 v5 st74)))))))
def w_X4_bestSending_L27 (x1 : Int32) (c12 : Int32 → Int32 → Int32 → St → Prop) (K : Int32 → St → Prop) : Nat → Int32 → Int32 → Int32 → Int32 → St → Prop
  | 0, _, _, _, _, _ => False
  | n + 1, v2, v3, v4, v5, st => w_X4_bestSending_L27q x1 c12 K (fun v2 v3 v4 v5 st => w_X4_bestSending_L27 x1 c12 K n v2 v3 v4 v5 st) v2 v3 v4 v5 st
def w_X4_bestSending_L12q (x1 : Int32)  (K : Int32 → St → Prop) (c12 : Int32 → Int32 → Int32 → St → Prop) (v2 : Int32) (v3 : Int32) (v4 : Int32) (st : St) : Prop :=
  w_X1_keeperCount 11 st (fun r18 st18 => (r18 ≤ v4 → K v2 st18) ∧ (¬ r18 ≤ v4 → ∃ n, w_X4_bestSending_L27 x1 c12 K n v2 v3 v4 0 st18))
def w_X4_bestSending_L12 (x1 : Int32)  (K : Int32 → St → Prop) : Nat → Int32 → Int32 → Int32 → St → Prop
  | 0, _, _, _, _ => False
  | n + 1, v2, v3, v4, st => w_X4_bestSending_L12q x1  K (fun v2 v3 v4 st => w_X4_bestSending_L12 x1  K n v2 v3 v4 st) v2 v3 v4 st
def w_X4_bestSending (x1 : Int32) (st : St) (K : Int32 → St → Prop) : Prop :=
  w_X4_openAsAllIs x1 st (fun r5 st5 => ∃ n, w_X4_bestSending_L12 x1  K n (-9) r5 0 st5)
def w_X4_bestSwap_b137 (x1 : Int32) (c12 : Int32 → Int32 → Int32 → St → Prop) (c30 : Int32 → Int32 → Int32 → Int32 → St → Prop) (K : Int32 → St → Prop) (v2 : Int32) (v3 : Int32) (v4 : Int32) (v5 : Int32) (st : St) : Prop :=
  c30 v2 v3 v4 (v5 + 1) st
def w_X4_bestSwap_b143 (x1 : Int32) (c12 : Int32 → Int32 → Int32 → St → Prop) (K : Int32 → St → Prop) (v2 : Int32) (v3 : Int32) (v4 : Int32) (st : St) : Prop :=
  c12 v2 v3 (v4 + 1) st
def w_X4_bestSwap_L30q (x1 : Int32) (c12 : Int32 → Int32 → Int32 → St → Prop) (K : Int32 → St → Prop) (c30 : Int32 → Int32 → Int32 → Int32 → St → Prop) (v2 : Int32) (v3 : Int32) (v4 : Int32) (v5 : Int32) (st : St) : Prop :=
  w_X1_keeperCount 11 st (fun r36 st36 => (r36 ≤ v5 → w_X4_bestSwap_b143 x1 c12 K v2 v3 v4 st36) ∧ (¬ r36 ≤ v5 → w_X1_townOf 11 v4 st36 (fun r48 st48 => w_X1_townOf 11 v5 st48 (fun r57 st57 => (r48 = r57 → w_X4_bestSwap_b137 x1 c12 c30 K v2 v3 v4 v5 st57) ∧ (¬ r48 = r57 → w_X1_become 99 11 st57 (fun st71 => w_X1_townOf 11 v5 st71 (fun r86 st86 => w_X1_move 99 v4 r86 st86 (fun st89 => w_X1_townOf 11 v4 st89 (fun r104 st104 => w_X1_move 99 v5 r104 st104 (fun st107 => w_X1_passWeeks 99 x1 st107 (fun r115 st115 => (r115 ≤ v3 → w_X4_bestSwap_b137 x1 c12 c30 K v2 v3 v4 v5 st115) ∧ (¬ r115 ≤ v3 → w_X8_twoName v4 v5 st115 (fun r133 st133 => w_X4_bestSwap_b137 x1 c12 c30 K r133 r115 v4 v5 st133)))))))))))))
def w_X4_bestSwap_L30 (x1 : Int32) (c12 : Int32 → Int32 → Int32 → St → Prop) (K : Int32 → St → Prop) : Nat → Int32 → Int32 → Int32 → Int32 → St → Prop
  | 0, _, _, _, _, _ => False
  | n + 1, v2, v3, v4, v5, st => w_X4_bestSwap_L30q x1 c12 K (fun v2 v3 v4 v5 st => w_X4_bestSwap_L30 x1 c12 K n v2 v3 v4 v5 st) v2 v3 v4 v5 st
def w_X4_bestSwap_L12q (x1 : Int32)  (K : Int32 → St → Prop) (c12 : Int32 → Int32 → Int32 → St → Prop) (v2 : Int32) (v3 : Int32) (v4 : Int32) (st : St) : Prop :=
  w_X1_keeperCount 11 st (fun r18 st18 => (r18 ≤ v4 → K v2 st18) ∧ (¬ r18 ≤ v4 → ∃ n, w_X4_bestSwap_L30 x1 c12 K n v2 v3 v4 (v4 + 1) st18))
def w_X4_bestSwap_L12 (x1 : Int32)  (K : Int32 → St → Prop) : Nat → Int32 → Int32 → Int32 → St → Prop
  | 0, _, _, _, _ => False
  | n + 1, v2, v3, v4, st => w_X4_bestSwap_L12q x1  K (fun v2 v3 v4 st => w_X4_bestSwap_L12 x1  K n v2 v3 v4 st) v2 v3 v4 st
def w_X4_bestSwap (x1 : Int32) (st : St) (K : Int32 → St → Prop) : Prop :=
  w_X4_openAsAllIs x1 st (fun r5 st5 => ∃ n, w_X4_bestSwap_L12 x1  K n (-9) r5 0 st5)
def w_X4_openPlaced (x1 : Int32) (x2 : Int32) (x3 : Int32) (x4 : Int32) (x5 : Int32) (st : St) (K : Int32 → St → Prop) : Prop :=
  w_X1_become 99 11 st (fun st8 => w_X1_move 99 x1 (x5 / 100) st8 (fun st21 => w_X1_move 99 x2 ((x5 / 10) - (x5 / 10) / 10 * 10) st21 (fun st37 => w_X1_move 99 x3 (x5 - x5 / 10 * 10) st37 (fun st50 => w_X1_passWeeks 99 x4 st50 (fun r59 st59 => K r59 st59)))))
def w_X4_bestPlaces_b69 (x1 : Int32) (x2 : Int32) (x3 : Int32) (x4 : Int32) (c9 : Int32 → Int32 → Int32 → St → Prop) (K : Int32 → St → Prop) (v5 : Int32) (v6 : Int32) (v7 : Int32) (st : St) : Prop :=
  c9 v5 v6 (v7 + 1) st
def w_X4_bestPlaces_L9q (x1 : Int32) (x2 : Int32) (x3 : Int32) (x4 : Int32)  (K : Int32 → St → Prop) (c9 : Int32 → Int32 → Int32 → St → Prop) (v5 : Int32) (v6 : Int32) (v7 : Int32) (st : St) : Prop :=
  (64 ≤ v7 → K v5 st) ∧ (¬ 64 ≤ v7 → w_X4_openPlaced x1 x2 x3 x4 ((((v7 / 16) * 100) + (((v7 / 4) - (v7 / 4) / 4 * 4) * 10)) + (v7 - v7 / 4 * 4)) st (fun r49 st49 => (r49 ≤ v6 → w_X4_bestPlaces_b69 x1 x2 x3 x4 c9 K v5 v6 v7 st49) ∧ (¬ r49 ≤ v6 → w_X4_bestPlaces_b69 x1 x2 x3 x4 c9 K ((((v7 / 16) * 100) + (((v7 / 4) - (v7 / 4) / 4 * 4) * 10)) + (v7 - v7 / 4 * 4)) r49 v7 st49)))
def w_X4_bestPlaces_L9 (x1 : Int32) (x2 : Int32) (x3 : Int32) (x4 : Int32)  (K : Int32 → St → Prop) : Nat → Int32 → Int32 → Int32 → St → Prop
  | 0, _, _, _, _ => False
  | n + 1, v5, v6, v7, st => w_X4_bestPlaces_L9q x1 x2 x3 x4  K (fun v5 v6 v7 st => w_X4_bestPlaces_L9 x1 x2 x3 x4  K n v5 v6 v7 st) v5 v6 v7 st
def w_X4_bestPlaces (x1 : Int32) (x2 : Int32) (x3 : Int32) (x4 : Int32) (st : St) (K : Int32 → St → Prop) : Prop :=
  ∃ n, w_X4_bestPlaces_L9 x1 x2 x3 x4  K n 0 (-1) 0 st
def w_X4_openKept_b41 (x1 : Int32) (x2 : Int32) (c13 : Int32 → St → Prop) (K : Int32 → St → Prop) (v3 : Int32) (st : St) : Prop :=
  c13 (v3 + 1) st
def w_X4_openKept_b47 (x1 : Int32) (x2 : Int32)  (K : Int32 → St → Prop)  (st : St) : Prop :=
  w_X1_passWeeks 99 x2 st (fun r52 st52 => K r52 st52)
def w_X4_openKept_L13q (x1 : Int32) (x2 : Int32)  (K : Int32 → St → Prop) (c13 : Int32 → St → Prop) (v3 : Int32) (st : St) : Prop :=
  w_X1_keeperCount 11 st (fun r18 st18 => (r18 ≤ v3 → w_X4_openKept_b47 x1 x2  K st18) ∧ (¬ r18 ≤ v3 → w_X8_bit x1 v3 st18 (fun r26 st26 => (¬ r26 = 0 → w_X4_openKept_b41 x1 x2 c13 K v3 st26) ∧ (r26 = 0 → w_X1_move 99 v3 (-1) st26 (fun st38 => w_X4_openKept_b41 x1 x2 c13 K v3 st38)))))
def w_X4_openKept_L13 (x1 : Int32) (x2 : Int32)  (K : Int32 → St → Prop) : Nat → Int32 → St → Prop
  | 0, _, _ => False
  | n + 1, v3, st => w_X4_openKept_L13q x1 x2  K (fun v3 st => w_X4_openKept_L13 x1 x2  K n v3 st) v3 st
def w_X4_openKept (x1 : Int32) (x2 : Int32) (st : St) (K : Int32 → St → Prop) : Prop :=
  w_X1_become 99 11 st (fun st8 => ∃ n, w_X4_openKept_L13 x1 x2  K n 0 st8)
def w_X4_fewestKept_b70 (x1 : Int32) (c24 : Int32 → Int32 → Int32 → Int32 → St → Prop) (K : Int32 → St → Prop) (v2 : Int32) (v3 : Int32) (v4 : Int32) (v5 : Int32) (st : St) : Prop :=
  c24 v2 v3 v4 (v5 + 1) st
def w_X4_fewestKept_b48 (x1 : Int32) (c24 : Int32 → Int32 → Int32 → Int32 → St → Prop) (K : Int32 → St → Prop) (v2 : Int32) (v3 : Int32) (v4 : Int32) (v5 : Int32) (s0 : Int32) (st : St) : Prop :=
  (s0 = 0 → w_X4_fewestKept_b70 x1 c24 K v2 v3 v4 v5 st) ∧ (¬ s0 = 0 → w_X4_openKept v5 x1 st (fun r59 st59 => (r59 < v3 → w_X4_fewestKept_b70 x1 c24 K v2 v3 v4 v5 st59) ∧ (¬ r59 < v3 → w_X4_fewestKept_b70 x1 c24 K v2 v3 v5 v5 st59)))
def w_X4_fewestKept_L24q (x1 : Int32)  (K : Int32 → St → Prop) (c24 : Int32 → Int32 → Int32 → Int32 → St → Prop) (v2 : Int32) (v3 : Int32) (v4 : Int32) (v5 : Int32) (st : St) : Prop :=
  (v2 ≤ v5 → K v4 st) ∧ (¬ v2 ≤ v5 → w_J6_bitCount_0f7a4 v5 st (fun r32 st32 => w_J6_bitCount_0f7a4 v4 st32 (fun r37 st37 => (r37 ≤ r32 → w_X4_fewestKept_b48 x1 c24 K v2 v3 v4 v5 0 st37) ∧ (¬ r37 ≤ r32 → w_X4_fewestKept_b48 x1 c24 K v2 v3 v4 v5 1 st37))))
def w_X4_fewestKept_L24 (x1 : Int32)  (K : Int32 → St → Prop) : Nat → Int32 → Int32 → Int32 → Int32 → St → Prop
  | 0, _, _, _, _, _ => False
  | n + 1, v2, v3, v4, v5, st => w_X4_fewestKept_L24q x1  K (fun v2 v3 v4 v5 st => w_X4_fewestKept_L24 x1  K n v2 v3 v4 v5 st) v2 v3 v4 v5 st
def w_X4_fewestKept (x1 : Int32) (st : St) (K : Int32 → St → Prop) : Prop :=
  w_X1_keeperCount 11 st (fun r5 st5 => w_X4_openAsAllIs x1 st5 (fun r14 st14 => ∃ n, w_X4_fewestKept_L24 x1  K n (((1 : Int32) <<< (r5 &&& 31)) - 1) r14 (((1 : Int32) <<< (r5 &&& 31)) - 1) 0 st14))
def w_X4_opensAsTold_L8q   (K : Int32 → St → Prop) (c8 : Int32 → St → Prop) (v2 : Int32) (st : St) : Prop :=
  w_X6_size  st (fun r10 st10 => (r10 ≤ v2 → K 1 st10) ∧ (¬ r10 ≤ v2 → w_X1_openCount 99 st10 (fun r20 st20 => w_X6_number v2 st20 (fun r25 st25 => (r20 = r25 → w_X1_passWeek 99 st25 (fun r37 st37 => c8 (v2 + 1) st37)) ∧ (¬ r20 = r25 → K 0 st25)))))
def w_X4_opensAsTold_L8   (K : Int32 → St → Prop) : Nat → Int32 → St → Prop
  | 0, _, _ => False
  | n + 1, v2, st => w_X4_opensAsTold_L8q   K (fun v2 st => w_X4_opensAsTold_L8   K n v2 st) v2 st
def w_X4_opensAsTold  (st : St) (K : Int32 → St → Prop) : Prop :=
  ∃ n, w_X4_opensAsTold_L8   K n 0 st
def w_X4_fittingHate_b74 (x1 : Int32) (x2 : Int32) (x4 : Int32) (c14 : Int32 → Int32 → Int32 → Int32 → St → Prop) (K : Int32 → St → Prop) (v5 : Int32) (v6 : Int32) (v7 : Int32) (v8 : Int32) (st : St) : Prop :=
  c14 v5 v6 v7 (v8 + 1) st
def w_X4_fittingHate_b68 (x1 : Int32) (x2 : Int32) (x4 : Int32) (c14 : Int32 → Int32 → Int32 → Int32 → St → Prop) (K : Int32 → St → Prop) (v5 : Int32) (v8 : Int32) (s0 : Int32) (st : St) : Prop :=
  w_X4_fittingHate_b74 x1 x2 x4 c14 K v5 s0 v8 v8 st
def w_X4_fittingHate_b80 (x1 : Int32) (x2 : Int32) (x4 : Int32)  (K : Int32 → St → Prop) (v5 : Int32) (v6 : Int32) (v7 : Int32) (st : St) : Prop :=
  (¬ x4 = 0 → (¬ x4 = 1 → K v7 st) ∧ (x4 = 1 → K v6 st)) ∧ (x4 = 0 → K v5 st)
def w_X4_fittingHate_L14q (x1 : Int32) (x2 : Int32) (x4 : Int32)  (K : Int32 → St → Prop) (c14 : Int32 → Int32 → Int32 → Int32 → St → Prop) (v5 : Int32) (v6 : Int32) (v7 : Int32) (v8 : Int32) (st : St) : Prop :=
  (99 < v8 → w_X4_fittingHate_b80 x1 x2 x4  K v5 v6 v7 st) ∧ (¬ 99 < v8 → w_X1_become 99 11 st (fun st29 => w_X1_setHate 99 x1 x2 v8 st29 (fun st40 => w_X4_opensAsTold  st40 (fun r45 st45 => (r45 = 0 → w_X4_fittingHate_b74 x1 x2 x4 c14 K v5 v6 v7 v8 st45) ∧ (¬ r45 = 0 → (¬ v6 = (-9) → w_X4_fittingHate_b68 x1 x2 x4 c14 K (v5 + 1) v8 v6 st45) ∧ (v6 = (-9) → w_X4_fittingHate_b68 x1 x2 x4 c14 K (v5 + 1) v8 v8 st45))))))
def w_X4_fittingHate_L14 (x1 : Int32) (x2 : Int32) (x4 : Int32)  (K : Int32 → St → Prop) : Nat → Int32 → Int32 → Int32 → Int32 → St → Prop
  | 0, _, _, _, _, _ => False
  | n + 1, v5, v6, v7, v8, st => w_X4_fittingHate_L14q x1 x2 x4  K (fun v5 v6 v7 v8 st => w_X4_fittingHate_L14 x1 x2 x4  K n v5 v6 v7 v8 st) v5 v6 v7 v8 st
def w_X4_fittingHate (x1 : Int32) (x2 : Int32) (x4 : Int32) (st : St) (K : Int32 → St → Prop) : Prop :=
  ∃ n, w_X4_fittingHate_L14 x1 x2 x4  K n 0 (-9) (-9) 0 st
def w_X4_hatesAsTold_L9q (x1 : Int32) (x2 : Int32)  (K : Int32 → St → Prop) (c9 : Int32 → St → Prop) (v4 : Int32) (st : St) : Prop :=
  w_X6_size  st (fun r12 st12 => (r12 ≤ v4 → K 1 st12) ∧ (¬ r12 ≤ v4 → w_X1_hateOf 99 x1 x2 st12 (fun r24 st24 => w_X6_number v4 st24 (fun r30 st30 => (r24 = r30 → w_X1_passWeek 99 st30 (fun r42 st42 => c9 (v4 + 1) st42)) ∧ (¬ r24 = r30 → K 0 st30)))))
def w_X4_hatesAsTold_L9 (x1 : Int32) (x2 : Int32)  (K : Int32 → St → Prop) : Nat → Int32 → St → Prop
  | 0, _, _ => False
  | n + 1, v4, st => w_X4_hatesAsTold_L9q x1 x2  K (fun v4 st => w_X4_hatesAsTold_L9 x1 x2  K n v4 st) v4 st
def w_X4_hatesAsTold (x1 : Int32) (x2 : Int32) (st : St) (K : Int32 → St → Prop) : Prop :=
  ∃ n, w_X4_hatesAsTold_L9 x1 x2  K n 0 st
def w_X4_fittingKinds_b53 (x1 : Int32) (x2 : Int32) (c6 : Int32 → Int32 → St → Prop) (K : Int32 → St → Prop) (v4 : Int32) (v5 : Int32) (st : St) : Prop :=
  c6 v4 (v5 + 1) st
def w_X4_fittingKinds_L6q (x1 : Int32) (x2 : Int32)  (K : Int32 → St → Prop) (c6 : Int32 → Int32 → St → Prop) (v4 : Int32) (v5 : Int32) (st : St) : Prop :=
  (6 ≤ v5 → K v4 st) ∧ (¬ 6 ≤ v5 → w_X1_become 99 11 st (fun st21 => w_X1_setKind 99 x1 v5 st21 (fun st31 => w_X4_hatesAsTold x1 x2 st31 (fun r38 st38 => (r38 = 0 → w_X4_fittingKinds_b53 x1 x2 c6 K v4 v5 st38) ∧ (¬ r38 = 0 → w_X4_fittingKinds_b53 x1 x2 c6 K (v4 ||| ((1 : Int32) <<< (v5 &&& 31))) v5 st38)))))
def w_X4_fittingKinds_L6 (x1 : Int32) (x2 : Int32)  (K : Int32 → St → Prop) : Nat → Int32 → Int32 → St → Prop
  | 0, _, _, _ => False
  | n + 1, v4, v5, st => w_X4_fittingKinds_L6q x1 x2  K (fun v4 v5 st => w_X4_fittingKinds_L6 x1 x2  K n v4 v5 st) v4 v5 st
def w_X4_fittingKinds (x1 : Int32) (x2 : Int32) (st : St) (K : Int32 → St → Prop) : Prop :=
  ∃ n, w_X4_fittingKinds_L6 x1 x2  K n 0 0 st
def w_X4_fittingFigures_b53 (x1 : Int32) (x2 : Int32) (c6 : Int32 → Int32 → St → Prop) (K : Int32 → St → Prop) (v4 : Int32) (v5 : Int32) (st : St) : Prop :=
  c6 v4 (v5 + 1) st
def w_X4_fittingFigures_L6q (x1 : Int32) (x2 : Int32)  (K : Int32 → St → Prop) (c6 : Int32 → Int32 → St → Prop) (v4 : Int32) (v5 : Int32) (st : St) : Prop :=
  (9 < v5 → K v4 st) ∧ (¬ 9 < v5 → w_X1_become 99 11 st (fun st21 => w_X1_setFigure 99 x1 v5 st21 (fun st31 => w_X4_hatesAsTold x1 x2 st31 (fun r38 st38 => (r38 = 0 → w_X4_fittingFigures_b53 x1 x2 c6 K v4 v5 st38) ∧ (¬ r38 = 0 → w_X4_fittingFigures_b53 x1 x2 c6 K (v4 ||| ((1 : Int32) <<< (v5 &&& 31))) v5 st38)))))
def w_X4_fittingFigures_L6 (x1 : Int32) (x2 : Int32)  (K : Int32 → St → Prop) : Nat → Int32 → Int32 → St → Prop
  | 0, _, _, _ => False
  | n + 1, v4, v5, st => w_X4_fittingFigures_L6q x1 x2  K (fun v4 v5 st => w_X4_fittingFigures_L6 x1 x2  K n v4 v5 st) v4 v5 st
def w_X4_fittingFigures (x1 : Int32) (x2 : Int32) (st : St) (K : Int32 → St → Prop) : Prop :=
  ∃ n, w_X4_fittingFigures_L6 x1 x2  K n 0 0 st
def w_X4_hateMadeUp (x1 : Int32) (x2 : Int32) (st : St) (K : Int32 → St → Prop) : Prop :=
  w_X1_become 99 11 st (fun st8 => w_X1_hateOf 11 x1 x2 st8 (fun r23 st23 => w_X1_setHate 99 x1 x2 (r23 / 2) st23 (fun st28 => w_X1_passWeeks 99 4 st28 (fun r36 st36 => w_X1_hateOf 99 x1 x2 st36 (fun r46 st46 => K r46 st46)))))
def w_X4_gain_b33 (x1 : Int32) (x2 : Int32) (x3 : Int32) (x4 : Int32) (x5 : Int32)  (K : Int32 → St → Prop) (v6 : Int32) (s0 : Int32) (st : St) : Prop :=
  w_X1_wageOf 11 x1 st (fun r41 st41 => K (((4 * r41) - (v6 / 2)) - s0) st41)
def w_X4_gain_b32 (x1 : Int32) (x2 : Int32) (x3 : Int32) (x4 : Int32) (x5 : Int32)  (K : Int32 → St → Prop) (v6 : Int32) (st : St) : Prop :=
  w_X4_gain_b33 x1 x2 x3 x4 x5  K v6 0 st
def w_X4_gain_b17 (x1 : Int32) (x2 : Int32) (x3 : Int32) (x4 : Int32) (x5 : Int32)  (K : Int32 → St → Prop) (s0 : Int32) (st : St) : Prop :=
  (¬ x2 = 1 → w_X4_gain_b32 x1 x2 x3 x4 x5  K s0 st) ∧ (x2 = 1 → (¬ x3 = 0 → w_X4_gain_b32 x1 x2 x3 x4 x5  K s0 st) ∧ (x3 = 0 → w_X4_gain_b33 x1 x2 x3 x4 x5  K s0 3 st))
def w_X4_gain_b15 (x1 : Int32) (x2 : Int32) (x3 : Int32) (x4 : Int32) (x5 : Int32)  (K : Int32 → St → Prop)  (st : St) : Prop :=
  w_X4_gain_b17 x1 x2 x3 x4 x5  K x4 st
def w_X4_gain (x1 : Int32) (x2 : Int32) (x3 : Int32) (x4 : Int32) (x5 : Int32) (st : St) (K : Int32 → St → Prop) : Prop :=
  (¬ x2 = 1 → w_X4_gain_b15 x1 x2 x3 x4 x5  K st) ∧ (x2 = 1 → (¬ x3 = 1 → w_X4_gain_b15 x1 x2 x3 x4 x5  K st) ∧ (x3 = 1 → w_X4_gain_b17 x1 x2 x3 x4 x5  K x5 st))
def w_X4_settled_b119 (x1 : Int32) (x2 : Int32)  (K : Int32 → St → Prop) (v6 : Int32) (v7 : Int32) (st : St) : Prop :=
  K ((10 * v6) + v7) st
def w_X4_settled_b128 (x1 : Int32) (x2 : Int32) (c19 : Int32 → Int32 → Int32 → St → Prop) (K : Int32 → St → Prop) (v3 : Int32) (v4 : Int32) (v5 : Int32) (st : St) : Prop :=
  c19 v3 v4 (v5 + 1) st
def w_X4_settled_b107 (x1 : Int32) (x2 : Int32) (c19 : Int32 → Int32 → Int32 → St → Prop) (K : Int32 → St → Prop) (v3 : Int32) (v4 : Int32) (v5 : Int32) (v6 : Int32) (v7 : Int32) (v8 : Int32) (s0 : Int32) (st : St) : Prop :=
  (v8 = 0 → w_X4_settled_b128 x1 x2 c19 K v3 v4 v5 st) ∧ (¬ v8 = 0 → (s0 = 0 → w_X4_settled_b128 x1 x2 c19 K v3 v4 v5 st) ∧ (¬ s0 = 0 → w_X4_settled_b119 x1 x2  K v6 v7 st))
def w_X4_settled_b71 (x1 : Int32) (x2 : Int32) (c19 : Int32 → Int32 → Int32 → St → Prop) (K : Int32 → St → Prop) (v3 : Int32) (v4 : Int32) (v5 : Int32) (v6 : Int32) (v7 : Int32) (s0 : Int32) (st : St) : Prop :=
  w_X4_gain x2 v7 v6 v3 v4 st (fun r82 st82 => w_X4_gain x2 (1 - v7) v6 v3 v4 st82 (fun r96 st96 => (r82 < r96 → w_X4_settled_b107 x1 x2 c19 K v3 v4 v5 v6 v7 s0 0 st96) ∧ (¬ r82 < r96 → w_X4_settled_b107 x1 x2 c19 K v3 v4 v5 v6 v7 s0 1 st96)))
def w_X4_settled_L19q (x1 : Int32) (x2 : Int32)  (K : Int32 → St → Prop) (c19 : Int32 → Int32 → Int32 → St → Prop) (v3 : Int32) (v4 : Int32) (v5 : Int32) (st : St) : Prop :=
  (4 ≤ v5 → K (-9) st) ∧ (¬ 4 ≤ v5 → w_X4_gain x1 (v5 / 2) (v5 - v5 / 2 * 2) v3 v4 st (fun r46 st46 => w_X4_gain x1 (1 - (v5 / 2)) (v5 - v5 / 2 * 2) v3 v4 st46 (fun r60 st60 => (r46 < r60 → w_X4_settled_b71 x1 x2 c19 K v3 v4 v5 (v5 / 2) (v5 - v5 / 2 * 2) 0 st60) ∧ (¬ r46 < r60 → w_X4_settled_b71 x1 x2 c19 K v3 v4 v5 (v5 / 2) (v5 - v5 / 2 * 2) 1 st60))))
def w_X4_settled_L19 (x1 : Int32) (x2 : Int32)  (K : Int32 → St → Prop) : Nat → Int32 → Int32 → Int32 → St → Prop
  | 0, _, _, _, _ => False
  | n + 1, v3, v4, v5, st => w_X4_settled_L19q x1 x2  K (fun v3 v4 v5 st => w_X4_settled_L19 x1 x2  K n v3 v4 v5 st) v3 v4 v5 st
def w_X4_settled (x1 : Int32) (x2 : Int32) (st : St) (K : Int32 → St → Prop) : Prop :=
  w_X4_hateAfter x1 x2 4 st (fun r4 st4 => w_X4_hateMadeUp x1 x2 st4 (fun r11 st11 => ∃ n, w_X4_settled_L19 x1 x2  K n r4 r11 0 st11))
def w_X4_meetingWays_b68 (x1 : Int32) (x2 : Int32) (x3 : Int32) (x4 : Int32) (x5 : Int32) (c6 : Int64 → Int32 → St → Prop) (c29 : Int64 → Int32 → Int32 → St → Prop) (K : Int64 → St → Prop) (v6 : Int64) (v8 : Int32) (v9 : Int32) (st : St) : Prop :=
  w_X1_passWeek 99 st (fun r72 st72 => c29 v6 v8 (v9 + 1) st72)
def w_X4_meetingWays_b113 (x1 : Int32) (x2 : Int32) (x3 : Int32) (x4 : Int32) (x5 : Int32) (c6 : Int64 → Int32 → St → Prop) (K : Int64 → St → Prop) (v6 : Int64) (v8 : Int32) (st : St) : Prop :=
  c6 v6 (v8 + 1) st
def w_X4_meetingWays_b82 (x1 : Int32) (x2 : Int32) (x3 : Int32) (x4 : Int32) (x5 : Int32) (c6 : Int64 → Int32 → St → Prop) (K : Int64 → St → Prop) (v6 : Int64) (v8 : Int32) (st : St) : Prop :=
  w_X1_isOpen 99 x3 st (fun r87 st87 => (r87 = 0 → w_X4_meetingWays_b113 x1 x2 x3 x4 x5 c6 K v6 v8 st87) ∧ (¬ r87 = 0 → w_J6_bitCount_0f7a4 v8 st87 (fun r103 st103 => w_X0_power (x5 - 1) (x4 - r103) st103 (fun r107 st107 => w_X4_meetingWays_b113 x1 x2 x3 x4 x5 c6 K (v6 + r107) v8 st107))))
def w_X4_meetingWays_L29q (x1 : Int32) (x2 : Int32) (x3 : Int32) (x4 : Int32) (x5 : Int32) (c6 : Int64 → Int32 → St → Prop) (K : Int64 → St → Prop) (c29 : Int64 → Int32 → Int32 → St → Prop) (v6 : Int64) (v8 : Int32) (v9 : Int32) (st : St) : Prop :=
  (x4 ≤ v9 → w_X4_meetingWays_b82 x1 x2 x3 x4 x5 c6 K v6 v8 st) ∧ (¬ x4 ≤ v9 → w_X8_bit v8 v9 st (fun r40 st40 => (¬ r40 = 1 → w_X4_meetingWays_b68 x1 x2 x3 x4 x5 c6 c29 K v6 v8 v9 st40) ∧ (r40 = 1 → w_X1_hateOf 99 x1 x2 st40 (fun r59 st59 => w_X1_setHate 99 x1 x2 (r59 - 10) st59 (fun st65 => w_X4_meetingWays_b68 x1 x2 x3 x4 x5 c6 c29 K v6 v8 v9 st65)))))
def w_X4_meetingWays_L29 (x1 : Int32) (x2 : Int32) (x3 : Int32) (x4 : Int32) (x5 : Int32) (c6 : Int64 → Int32 → St → Prop) (K : Int64 → St → Prop) : Nat → Int64 → Int32 → Int32 → St → Prop
  | 0, _, _, _, _ => False
  | n + 1, v6, v8, v9, st => w_X4_meetingWays_L29q x1 x2 x3 x4 x5 c6 K (fun v6 v8 v9 st => w_X4_meetingWays_L29 x1 x2 x3 x4 x5 c6 K n v6 v8 v9 st) v6 v8 v9 st
def w_X4_meetingWays_L6q (x1 : Int32) (x2 : Int32) (x3 : Int32) (x4 : Int32) (x5 : Int32)  (K : Int64 → St → Prop) (c6 : Int64 → Int32 → St → Prop) (v6 : Int64) (v8 : Int32) (st : St) : Prop :=
  (((1 : Int32) <<< (x4 &&& 31)) ≤ v8 → K v6 st) ∧ (¬ ((1 : Int32) <<< (x4 &&& 31)) ≤ v8 → w_X1_become 99 11 st (fun st23 => ∃ n, w_X4_meetingWays_L29 x1 x2 x3 x4 x5 c6 K n v6 v8 0 st23))
def w_X4_meetingWays_L6 (x1 : Int32) (x2 : Int32) (x3 : Int32) (x4 : Int32) (x5 : Int32)  (K : Int64 → St → Prop) : Nat → Int64 → Int32 → St → Prop
  | 0, _, _, _ => False
  | n + 1, v6, v8, st => w_X4_meetingWays_L6q x1 x2 x3 x4 x5  K (fun v6 v8 st => w_X4_meetingWays_L6 x1 x2 x3 x4 x5  K n v6 v8 st) v6 v8 st
def w_X4_meetingWays (x1 : Int32) (x2 : Int32) (x3 : Int32) (x4 : Int32) (x5 : Int32) (st : St) (K : Int64 → St → Prop) : Prop :=
  ∃ n, w_X4_meetingWays_L6 x1 x2 x3 x4 x5  K n 0 0 st
def w_X4_byLot_b101 (x1 : Int32) (x2 : Int32) (x3 : Int32) (c12 : Int32 → Int32 → Int32 → Int32 → St → Prop) (c32 : Int32 → Int32 → Int32 → Int32 → Int32 → St → Prop) (K : Int32 → St → Prop) (v4 : Int32) (v5 : Int32) (v6 : Int32) (v7 : Int32) (v8 : Int32) (st : St) : Prop :=
  c32 v4 v5 v6 v7 (v8 + 1) st
def w_X4_byLot_L50q (x1 : Int32) (x2 : Int32) (x3 : Int32) (c12 : Int32 → Int32 → Int32 → Int32 → St → Prop) (c32 : Int32 → Int32 → Int32 → Int32 → Int32 → St → Prop) (K : Int32 → St → Prop) (c50 : Int32 → Int32 → Int32 → Int32 → Int32 → Int32 → St → Prop) (v4 : Int32) (v5 : Int32) (v6 : Int32) (v7 : Int32) (v8 : Int32) (v9 : Int32) (st : St) : Prop :=
  w_X1_keeperCount 11 st (fun r56 st56 => (r56 ≤ v9 → w_X4_byLot_b101 x1 x2 x3 c12 c32 K v4 v5 v6 v7 v8 st56) ∧ (¬ r56 ≤ v9 → w_X1_setHate 99 v8 v9 (((((v4 * 1103515245) + 12345) &&& 2147483647) / 65536) - ((((v4 * 1103515245) + 12345) &&& 2147483647) / 65536) / 60 * 60) st56 (fun st92 => c50 ((v4 * 1103515245) + 12345) v5 v6 v7 v8 (v9 + 1) st92)))
def w_X4_byLot_L50 (x1 : Int32) (x2 : Int32) (x3 : Int32) (c12 : Int32 → Int32 → Int32 → Int32 → St → Prop) (c32 : Int32 → Int32 → Int32 → Int32 → Int32 → St → Prop) (K : Int32 → St → Prop) : Nat → Int32 → Int32 → Int32 → Int32 → Int32 → Int32 → St → Prop
  | 0, _, _, _, _, _, _, _ => False
  | n + 1, v4, v5, v6, v7, v8, v9, st => w_X4_byLot_L50q x1 x2 x3 c12 c32 K (fun v4 v5 v6 v7 v8 v9 st => w_X4_byLot_L50 x1 x2 x3 c12 c32 K n v4 v5 v6 v7 v8 v9 st) v4 v5 v6 v7 v8 v9 st
def w_X4_byLot_b107 (x1 : Int32) (x2 : Int32) (x3 : Int32) (c12 : Int32 → Int32 → Int32 → Int32 → St → Prop) (K : Int32 → St → Prop) (v4 : Int32) (v5 : Int32) (v6 : Int32) (v7 : Int32) (st : St) : Prop :=
  w_X1_passWeeks 99 10 st (fun r115 st115 => w_X1_openCount 11 st115 (fun r122 st122 => w_X1_allHate 99 st122 (fun r135 st135 => c12 v4 (v5 + (r115 - r122)) (v6 + r135) (v7 + 1) st135)))
def w_X4_byLot_L32q (x1 : Int32) (x2 : Int32) (x3 : Int32) (c12 : Int32 → Int32 → Int32 → Int32 → St → Prop) (K : Int32 → St → Prop) (c32 : Int32 → Int32 → Int32 → Int32 → Int32 → St → Prop) (v4 : Int32) (v5 : Int32) (v6 : Int32) (v7 : Int32) (v8 : Int32) (st : St) : Prop :=
  w_X1_keeperCount 11 st (fun r38 st38 => (r38 ≤ v8 → w_X4_byLot_b107 x1 x2 x3 c12 K v4 v5 v6 v7 st38) ∧ (¬ r38 ≤ v8 → ∃ n, w_X4_byLot_L50 x1 x2 x3 c12 c32 K n v4 v5 v6 v7 v8 (v8 + 1) st38))
def w_X4_byLot_L32 (x1 : Int32) (x2 : Int32) (x3 : Int32) (c12 : Int32 → Int32 → Int32 → Int32 → St → Prop) (K : Int32 → St → Prop) : Nat → Int32 → Int32 → Int32 → Int32 → Int32 → St → Prop
  | 0, _, _, _, _, _, _ => False
  | n + 1, v4, v5, v6, v7, v8, st => w_X4_byLot_L32q x1 x2 x3 c12 K (fun v4 v5 v6 v7 v8 st => w_X4_byLot_L32 x1 x2 x3 c12 K n v4 v5 v6 v7 v8 st) v4 v5 v6 v7 v8 st
def w_X4_byLot_b147 (x1 : Int32) (x2 : Int32) (x3 : Int32)  (K : Int32 → St → Prop) (v5 : Int32) (v6 : Int32) (st : St) : Prop :=
  (¬ x3 = 0 → K v6 st) ∧ (x3 = 0 → K v5 st)
def w_X4_byLot_L12q (x1 : Int32) (x2 : Int32) (x3 : Int32)  (K : Int32 → St → Prop) (c12 : Int32 → Int32 → Int32 → Int32 → St → Prop) (v4 : Int32) (v5 : Int32) (v6 : Int32) (v7 : Int32) (st : St) : Prop :=
  (x1 ≤ v7 → w_X4_byLot_b147 x1 x2 x3  K v5 v6 st) ∧ (¬ x1 ≤ v7 → w_X1_become 99 11 st (fun st26 => ∃ n, w_X4_byLot_L32 x1 x2 x3 c12 K n v4 v5 v6 v7 0 st26))
def w_X4_byLot_L12 (x1 : Int32) (x2 : Int32) (x3 : Int32)  (K : Int32 → St → Prop) : Nat → Int32 → Int32 → Int32 → Int32 → St → Prop
  | 0, _, _, _, _, _ => False
  | n + 1, v4, v5, v6, v7, st => w_X4_byLot_L12q x1 x2 x3  K (fun v4 v5 v6 v7 st => w_X4_byLot_L12 x1 x2 x3  K n v4 v5 v6 v7 st) v4 v5 v6 v7 st
def w_X4_byLot (x1 : Int32) (x2 : Int32) (x3 : Int32) (st : St) (K : Int32 → St → Prop) : Prop :=
  ∃ n, w_X4_byLot_L12 x1 x2 x3  K n x2 0 0 0 st
def w_X5_size  (st : St) (K : Int32 → St → Prop) : Prop :=
  K (st 2 2) st
def w_X5_forget  (st : St) (K : St → Prop) : Prop :=
  K (u2 st 2 2 0)
def w_X5_country (x1 : Int32) (st : St) (K : Option Nat → St → Prop) : Prop :=
  (x1 < 0 → K none st) ∧ (¬ x1 < 0 → (8 ≤ x1 → K none st) ∧ (¬ 8 ≤ x1 → vp_in x1 8 ∧ (K (some (35 + 8 * (x1).toNatClampNeg)) st)))
def w_X5_remember (k1 : Nat) (st : St) (K : St → Prop) : Prop :=
  w_X5_country (st 2 1) st (fun r5 st5 => (r5 = none → K st5) ∧ (∀ q5 : Nat, r5 = some q5 → w_X1_become q5 k1 st5 (fun st15 => K (u2 (u2 st15 2 1 (((st15 2 1) + 1) - ((st15 2 1) + 1) / 8 * 8)) 2 2 (if (((u2 st15 2 1 (((st15 2 1) + 1) - ((st15 2 1) + 1) / 8 * 8)) 2 2) + 1) < 8 then (((u2 st15 2 1 (((st15 2 1) + 1) - ((st15 2 1) + 1) / 8 * 8)) 2 2) + 1) else 8)))))
def w_X5_takeBack (k1 : Nat) (st : St) (K : St → Prop) : Prop :=
  w_X5_country ((((st 2 1) + 8) - 1) - (((st 2 1) + 8) - 1) / 8 * 8) st (fun r15 st15 => (r15 = none → ((st15 2 2) ≤ 0 → K st15) ∧ (¬ (st15 2 2) ≤ 0 → K st15)) ∧ (∀ q15 : Nat, r15 = some q15 → ((st15 2 2) ≤ 0 → K st15) ∧ (¬ (st15 2 2) ≤ 0 → w_X1_become k1 q15 st15 (fun st36 => K (u2 (u2 st36 2 1 ((((st 2 1) + 8) - 1) - (((st 2 1) + 8) - 1) / 8 * 8)) 2 2 (((u2 st36 2 1 ((((st 2 1) + 8) - 1) - (((st 2 1) + 8) - 1) / 8 * 8)) 2 2) - 1))))))
def w_X6_isFull  (st : St) (K : Int32 → St → Prop) : Prop :=
  ((st 6 1) < 12 → K 0 st) ∧ (¬ (st 6 1) < 12 → K 1 st)
def w_X6_add (x1 : Int32) (st : St) (K : Int32 → St → Prop) : Prop :=
  w_X8_put 7 12 (st 6 1) x1 st (fun st9 => K ((u2 st9 6 1 (if ((st9 6 1) + 1) < 12 then ((st9 6 1) + 1) else 12)) 6 1) (u2 st9 6 1 (if ((st9 6 1) + 1) < 12 then ((st9 6 1) + 1) else 12)))
def w_X6_empty  (st : St) (K : St → Prop) : Prop :=
  K (u2 st 6 1 0)
def w_X7_size  (st : St) (K : Int32 → St → Prop) : Prop :=
  K (st 4 1) st
def w_X7_isFull  (st : St) (K : Int32 → St → Prop) : Prop :=
  ((st 4 1) < 96 → K 0 st) ∧ (¬ (st 4 1) < 96 → K 1 st)
def w_X7_add (x1 : Int32) (st : St) (K : Int32 → St → Prop) : Prop :=
  w_X8_put 5 96 (st 4 1) x1 st (fun st9 => K ((u2 st9 4 1 (if ((st9 4 1) + 1) < 96 then ((st9 4 1) + 1) else 96)) 4 1) (u2 st9 4 1 (if ((st9 4 1) + 1) < 96 then ((st9 4 1) + 1) else 96)))
def w_X7_empty  (st : St) (K : St → Prop) : Prop :=
  K (u2 st 4 1 0)
def w_X7_sign (x1 : Int32) (st : St) (K : Int32 → St → Prop) : Prop :=
  ((st 4 1) ≤ x1 → K (-1) st) ∧ (¬ (st 4 1) ≤ x1 → w_X8_at 5 96 x1 st (fun r13 st13 => K r13 st13))
def w_X7_digitsBehind (x0 : Int32) (st : St) (K : Int32 → St → Prop) : Prop :=
  (x0 = 103 → K 2 st) ∧ (¬ x0 = 103 → (x0 = 104 → K 4 st) ∧ (¬ x0 = 104 → (x0 = 107 → K 3 st) ∧ (¬ x0 = 107 → (x0 = 108 → K 3 st) ∧ (¬ x0 = 108 → (x0 = 115 → K 1 st) ∧ (¬ x0 = 115 → (x0 = 119 → K 2 st) ∧ (¬ x0 = 119 → K 0 st))))))
def w_X7_isDigit (x1 : Int32) (st : St) (K : Int32 → St → Prop) : Prop :=
  w_X7_sign x1 st (fun r2 st2 => (r2 < 48 → K 0 st2) ∧ (¬ r2 < 48 → w_X7_sign x1 st2 (fun r12 st12 => (57 < r12 → K 0 st12) ∧ (¬ 57 < r12 → K 1 st12))))
def w_X7_brokenPlace_b79  (c13 : Int32 → Int32 → St → Prop) (K : Int32 → St → Prop) (v2 : Int32) (v4 : Int32) (st : St) : Prop :=
  w_X7_sign v4 st (fun r82 st82 => (r82 = 59 → c13 (v4 + 1) (v2 + 1) st82) ∧ (¬ r82 = 59 → K v4 st82))
def w_X7_brokenPlace_L54q  (c13 : Int32 → Int32 → St → Prop) (K : Int32 → St → Prop) (c54 : Int32 → Int32 → Int32 → St → Prop) (v2 : Int32) (v4 : Int32) (v5 : Int32) (st : St) : Prop :=
  (v4 ≤ v5 → w_X7_brokenPlace_b79  c13 K v2 v4 st) ∧ (¬ v4 ≤ v5 → w_X7_isDigit v5 st (fun r64 st64 => (¬ r64 = 0 → c54 v2 v4 (v5 + 1) st64) ∧ (r64 = 0 → K v5 st64)))
def w_X7_brokenPlace_L54  (c13 : Int32 → Int32 → St → Prop) (K : Int32 → St → Prop) : Nat → Int32 → Int32 → Int32 → St → Prop
  | 0, _, _, _, _ => False
  | n + 1, v2, v4, v5, st => w_X7_brokenPlace_L54q  c13 K (fun v2 v4 v5 st => w_X7_brokenPlace_L54  c13 K n v2 v4 v5 st) v2 v4 v5 st
def w_X7_brokenPlace_L13q   (K : Int32 → St → Prop) (c13 : Int32 → Int32 → St → Prop) (v1 : Int32) (v2 : Int32) (st : St) : Prop :=
  (96 ≤ v2 → K (-1) st) ∧ (¬ 96 ≤ v2 → ((st 4 1) ≤ v1 → K (-1) st) ∧ (¬ (st 4 1) ≤ v1 → w_X7_sign v1 st (fun r29 st29 => w_X7_digitsBehind r29 st29 (fun r32 st32 => (¬ r32 = 0 → ∃ n, w_X7_brokenPlace_L54  c13 K n v2 ((v1 + r32) + 1) (v1 + 1) st32) ∧ (r32 = 0 → K v1 st32)))))
def w_X7_brokenPlace_L13   (K : Int32 → St → Prop) : Nat → Int32 → Int32 → St → Prop
  | 0, _, _, _ => False
  | n + 1, v1, v2, st => w_X7_brokenPlace_L13q   K (fun v1 v2 st => w_X7_brokenPlace_L13   K n v1 v2 st) v1 v2 st
def w_X7_brokenPlace  (st : St) (K : Int32 → St → Prop) : Prop :=
  (¬ (st 4 1) = 0 → ∃ n, w_X7_brokenPlace_L13   K n 0 0 st) ∧ ((st 4 1) = 0 → K 0 st)
def w_X7_digit (x1 : Int32) (st : St) (K : Int32 → St → Prop) : Prop :=
  w_X7_sign x1 st (fun r2 st2 => K (r2 - 48) st2)
def w_X7_twoDigits (x1 : Int32) (st : St) (K : Int32 → St → Prop) : Prop :=
  w_X7_digit x1 st (fun r4 st4 => w_X7_digit (x1 + 1) st4 (fun r12 st12 => K ((10 * r4) + r12) st12))
def w_X8_isTown (x0 : Int32) (st : St) (K : Int32 → St → Prop) : Prop :=
  (x0 < 0 → K 0 st) ∧ (¬ x0 < 0 → (4 ≤ x0 → K 0 st) ∧ (¬ 4 ≤ x0 → K 1 st))
def w_X7_isRight (x1 : Int32) (k2 : Nat) (st : St) (K : Int32 → St → Prop) : Prop :=
  w_X7_digit (x1 + 1) st (fun r4 st4 => w_X7_digit (x1 + 2) st4 (fun r12 st12 => w_X7_digit (x1 + 3) st12 (fun r21 st21 => w_X7_twoDigits (x1 + 1) st21 (fun r30 st30 => w_X7_sign x1 st30 (fun r37 st37 => (r37 = 103 → w_X1_hasKeeper k2 r4 st37 (fun r166 st166 => (r166 = 0 → K 0 st166) ∧ (¬ r166 = 0 → w_X8_isTown r12 st166 (fun r174 st174 => (r174 = 0 → K 0 st174) ∧ (¬ r174 = 0 → K 1 st174))))) ∧ (¬ r37 = 103 → (r37 = 104 → w_X1_areTwo k2 r4 r12 st37 (fun r139 st139 => (r139 = 0 ∨ r139 = 1) ∧ K r139 st139)) ∧ (¬ r37 = 104 → (r37 = 107 → (6 ≤ r4 → K 0 st37) ∧ (¬ 6 ≤ r4 → w_X8_isTown r21 st37 (fun r116 st116 => (r116 = 0 → K 0 st116) ∧ (¬ r116 = 0 → w_X1_hasKeeperRoom k2 st116 (fun r123 st123 => (r123 = 0 → K 0 st123) ∧ (¬ r123 = 0 → K 1 st123)))))) ∧ (¬ r37 = 107 → (r37 = 108 → w_X8_isTown r21 st37 (fun r145 st145 => (r145 = 0 → K 0 st145) ∧ (¬ r145 = 0 → w_X1_hasLetterRoom k2 st145 (fun r152 st152 => (r152 = 0 → K 0 st152) ∧ (¬ r152 = 0 → K 1 st152))))) ∧ (¬ r37 = 108 → (r37 = 115 → w_X1_hasLetter k2 r4 st37 (fun r188 st188 => (r188 = 0 ∨ r188 = 1) ∧ K r188 st188)) ∧ (¬ r37 = 115 → (r30 < 1 → K 0 st37) ∧ (¬ r30 < 1 → (60 < r30 → K 0 st37) ∧ (¬ 60 < r30 → w_X1_weekNow k2 st37 (fun r211 st211 => ((999 - r211) < r30 → K 0 st211) ∧ (¬ (999 - r211) < r30 → K 1 st211))))))))))))))
def w_X7_comes (x1 : Int32) (k2 : Nat) (st : St) (K : St → Prop) : Prop :=
  w_X7_digit (x1 + 1) st (fun r4 st4 => w_X7_digit (x1 + 2) st4 (fun r12 st12 => w_X7_sign x1 st12 (fun r19 st19 => (r19 = 103 → w_X1_move k2 r4 r12 st19 (fun st149 => K st149)) ∧ (¬ r19 = 103 → (r19 = 104 → w_X7_twoDigits (x1 + 3) st19 (fun r114 st114 => w_X1_setHate k2 r4 r12 r114 st114 (fun st117 => K st117))) ∧ (¬ r19 = 104 → (r19 = 107 → w_X7_digit (x1 + 3) st19 (fun r96 st96 => w_X1_addKeeper k2 r4 r12 r96 st96 (fun r99 st99 => K st99))) ∧ (¬ r19 = 107 → (r19 = 108 → w_X7_digit (x1 + 3) st19 (fun r128 st128 => w_X7_twoDigits (x1 + 1) st128 (fun r135 st135 => w_X1_addLetter k2 r128 r135 st135 (fun r138 st138 => K st138)))) ∧ (¬ r19 = 108 → (r19 = 115 → w_X1_turnSeal k2 r4 st19 (fun st157 => K st157)) ∧ (¬ r19 = 115 → w_X7_twoDigits (x1 + 1) st19 (fun r168 st168 => w_X1_passWeeks k2 r168 st168 (fun r171 st171 => K st171))))))))))
def w_X7_tellTo_b54 (k1 : Nat)  (K : Int32 → St → Prop) (v4 : Int32) (st : St) : Prop :=
  K ((-2000) - v4) st
def w_X7_tellTo_L24q (k1 : Nat)  (K : Int32 → St → Prop) (c24 : Int32 → Int32 → Int32 → St → Prop) (v3 : Int32) (v4 : Int32) (v5 : Int32) (st : St) : Prop :=
  (96 ≤ v5 → K v3 st) ∧ (¬ 96 ≤ v5 → ((st 4 1) ≤ v4 → K v3 st) ∧ (¬ (st 4 1) ≤ v4 → w_X7_isRight v4 k1 st (fun r48 st48 => (¬ r48 = 0 → w_X7_comes v4 k1 st48 (fun st65 => w_X7_sign v4 st65 (fun r76 st76 => w_X7_digitsBehind r76 st76 (fun r79 st79 => c24 (v3 + 1) (v4 + (r79 + 2)) (v5 + 1) st79)))) ∧ (r48 = 0 → w_X7_tellTo_b54 k1  K v4 st48))))
def w_X7_tellTo_L24 (k1 : Nat)  (K : Int32 → St → Prop) : Nat → Int32 → Int32 → Int32 → St → Prop
  | 0, _, _, _, _ => False
  | n + 1, v3, v4, v5, st => w_X7_tellTo_L24q k1  K (fun v3 v4 v5 st => w_X7_tellTo_L24 k1  K n v3 v4 v5 st) v3 v4 v5 st
def w_X7_tellTo (k1 : Nat) (st : St) (K : Int32 → St → Prop) : Prop :=
  w_X7_brokenPlace  st (fun r1 st1 => (r1 = (-1) → ∃ n, w_X7_tellTo_L24 k1  K n 0 0 0 st1) ∧ (¬ r1 = (-1) → K ((-1000) - r1) st1))
def w_X8_range (x0 : Int32) (x1 : Int32) (x2 : Int32) (st : St) (K : Int32 → St → Prop) : Prop :=
  (x1 ≤ x0 → (x0 ≤ x2 → K 0 st) ∧ (¬ x0 ≤ x2 → K (-6) st)) ∧ (¬ x1 ≤ x0 → K (-4) st)
def w_X8_firstOf (x0 : Int32) (x1 : Int32) (x2 : Int32) (st : St) (K : Int32 → St → Prop) : Prop :=
  (x0 = 0 → (x1 = 0 → K x2 st) ∧ (¬ x1 = 0 → K x1 st)) ∧ (¬ x0 = 0 → K x0 st)
def w_X8_refused (x1 : Int32) (st : St) (K : Int32 → St → Prop) : Prop :=
  w_X8_at 1 7 (-x1) st (fun r12 st12 => w_X8_put 1 7 (-x1) (r12 + 1) st12 (fun st17 => K x1 st17))
def w_X8_feed_b24 (x1 : Int32)  (K : Int32 → St → Prop) (s0 : Int32) (s1 : Int32) (st : St) : Prop :=
  w_X8_firstOf s1 s0 0 st (fun r25 st25 => (r25 = 0 → w_X7_add x1 st25 (fun r46 st46 => K r46 st46)) ∧ (¬ r25 = 0 → w_X8_refused r25 st25 (fun r35 st35 => K r35 st35)))
def w_X8_feed (x1 : Int32) (st : St) (K : Int32 → St → Prop) : Prop :=
  w_X8_range x1 0 255 st (fun r5 st5 => w_X7_isFull  st5 (fun r12 st12 => (r12 = 0 → w_X8_feed_b24 x1  K 0 r5 st12) ∧ (¬ r12 = 0 → w_X8_feed_b24 x1  K (-6) r5 st12)))
def w_X8_land  (st : St) (K : Int32 → St → Prop) : Prop :=
  w_X1_become 19 11 st (fun st8 => w_X7_tellTo 19 st8 (fun r19 st19 => w_X7_empty  st19 (fun st27 => (r19 ≤ 0 → K r19 st27) ∧ (¬ r19 ≤ 0 → w_X1_become 11 19 st27 (fun st42 => w_X5_forget  st42 (fun st49 => K r19 st49))))))
def w_X8_keeperRefusal (x1 : Int32) (st : St) (K : Int32 → St → Prop) : Prop :=
  w_X1_hasKeeper 11 x1 st (fun r5 st5 => (r5 = 0 → K (-1) st5) ∧ (¬ r5 = 0 → K 0 st5))
def w_X8_choice (x0 : Int32) (x1 : Int32) (st : St) (K : Int32 → St → Prop) : Prop :=
  (x0 < 0 → K (-2) st) ∧ (¬ x0 < 0 → (x1 < x0 → K (-2) st) ∧ (¬ x1 < x0 → K 0 st))
def w_X8_keeperOf (x1 : Int32) (x2 : Int32) (st : St) (K : Int32 → St → Prop) : Prop :=
  w_X8_keeperRefusal x1 st (fun r2 st2 => w_X8_choice x2 5 st2 (fun r7 st7 => w_X8_firstOf r2 r7 0 st7 (fun r11 st11 => (r11 = 0 → (x2 = 0 → w_X1_kindOf 11 x1 st11 (fun r65 st65 => K r65 st65)) ∧ (¬ x2 = 0 → (x2 = 1 → w_X1_figureOf 11 x1 st11 (fun r74 st74 => K r74 st74)) ∧ (¬ x2 = 1 → (x2 = 2 → w_X1_townOf 11 x1 st11 (fun r83 st83 => K r83 st83)) ∧ (¬ x2 = 2 → (x2 = 3 → w_X1_fadeOf 11 x1 st11 (fun r92 st92 => K r92 st92)) ∧ (¬ x2 = 3 → (x2 = 4 → w_X1_stirOf 11 x1 st11 (fun r101 st101 => K r101 st101)) ∧ (¬ x2 = 4 → w_X1_wageOf 11 x1 st11 (fun r110 st110 => K r110 st110))))))) ∧ (¬ r11 = 0 → w_X8_refused r11 st11 (fun r21 st21 => K r21 st21)))))
def w_X8_letterRefusal (x1 : Int32) (st : St) (K : Int32 → St → Prop) : Prop :=
  w_X1_hasLetter 11 x1 st (fun r5 st5 => (r5 = 0 → K (-1) st5) ∧ (¬ r5 = 0 → K 0 st5))
def w_X8_letterOf (x1 : Int32) (x2 : Int32) (st : St) (K : Int32 → St → Prop) : Prop :=
  w_X8_letterRefusal x1 st (fun r2 st2 => w_X8_choice x2 3 st2 (fun r7 st7 => w_X8_firstOf r2 r7 0 st7 (fun r11 st11 => (r11 = 0 → (x2 = 0 → w_X1_depthOf 11 x1 st11 (fun r57 st57 => K r57 st57)) ∧ (¬ x2 = 0 → (x2 = 1 → w_X1_letterTownOf 11 x1 st11 (fun r66 st66 => K r66 st66)) ∧ (¬ x2 = 1 → (x2 = 2 → w_X1_isOpen 11 x1 st11 (fun r75 st75 => (r75 = 0 → K 0 st75) ∧ (¬ r75 = 0 → K 1 st75))) ∧ (¬ x2 = 2 → w_X1_opener 11 x1 st11 (fun r92 st92 => K r92 st92))))) ∧ (¬ r11 = 0 → w_X8_refused r11 st11 (fun r21 st21 => K r21 st21)))))
def w_X8_twoRefusal (x1 : Int32) (x2 : Int32) (st : St) (K : Int32 → St → Prop) : Prop :=
  w_X1_areTwo 11 x1 x2 st (fun r6 st6 => (r6 = 0 → K (-1) st6) ∧ (¬ r6 = 0 → K 0 st6))
def w_X8_hate (x1 : Int32) (x2 : Int32) (st : St) (K : Int32 → St → Prop) : Prop :=
  w_X8_twoRefusal x1 x2 st (fun r3 st3 => (r3 = 0 → w_X1_hateOf 11 x1 x2 st3 (fun r25 st25 => K r25 st25)) ∧ (¬ r3 = 0 → w_X8_refused r3 st3 (fun r13 st13 => K r13 st13)))
def w_X8_count (x1 : Int32) (st : St) (K : Int32 → St → Prop) : Prop :=
  (x1 = 0 → w_X1_keeperCount 11 st (fun r52 st52 => K r52 st52)) ∧ (¬ x1 = 0 → (x1 = 1 → w_X1_letterCount 11 st (fun r60 st60 => K r60 st60)) ∧ (¬ x1 = 1 → (x1 = 2 → w_X1_weekNow 11 st (fun r68 st68 => K r68 st68)) ∧ (¬ x1 = 2 → (x1 = 3 → w_X1_openBits 11 st (fun r76 st76 => K r76 st76)) ∧ (¬ x1 = 3 → (x1 = 4 → w_X1_allHate 11 st (fun r84 st84 => K r84 st84)) ∧ (¬ x1 = 4 → (x1 = 5 → w_X7_size  st (fun r92 st92 => K r92 st92)) ∧ (¬ x1 = 5 → (x1 = 6 → w_X6_size  st (fun r100 st100 => K r100 st100)) ∧ (¬ x1 = 6 → (x1 = 7 → w_X5_size  st (fun r108 st108 => K r108 st108)) ∧ (¬ x1 = 7 → (x1 < 11 → K (-9) st) ∧ (¬ x1 < 11 → (16 < x1 → K (-9) st) ∧ (¬ 16 < x1 → w_X8_at 1 7 (x1 - 10) st (fun r132 st132 => K r132 st132)))))))))))
def w_X8_townRefusal (x0 : Int32) (st : St) (K : Int32 → St → Prop) : Prop :=
  w_X8_isTown x0 st (fun r1 st1 => (r1 = 0 → K (-1) st1) ∧ (¬ r1 = 0 → K 0 st1))
def w_X8_keeper_b34 (x1 : Int32) (x2 : Int32) (x3 : Int32)  (K : Int32 → St → Prop) (v4 : Int32) (s0 : Int32) (st : St) : Prop :=
  w_X8_range x2 0 9 st (fun r38 st38 => w_X8_firstOf s0 r38 v4 st38 (fun r43 st43 => w_X8_townRefusal x3 st43 (fun r51 st51 => w_X8_firstOf r43 r51 0 st51 (fun r55 st55 => (r55 = 0 → w_X5_forget  st55 (fun st76 => w_X1_addKeeper 11 x1 x2 x3 st76 (fun r86 st86 => K r86 st86))) ∧ (¬ r55 = 0 → w_X8_refused r55 st55 (fun r68 st68 => K r68 st68))))))
def w_X8_keeper_b28 (x1 : Int32) (x2 : Int32) (x3 : Int32)  (K : Int32 → St → Prop) (v4 : Int32) (st : St) : Prop :=
  w_X8_keeper_b34 x1 x2 x3  K v4 (-2) st
def w_X8_keeper_b16 (x1 : Int32) (x2 : Int32) (x3 : Int32)  (K : Int32 → St → Prop) (s0 : Int32) (st : St) : Prop :=
  (x1 < 0 → w_X8_keeper_b28 x1 x2 x3  K s0 st) ∧ (¬ x1 < 0 → (x1 < 6 → w_X8_keeper_b34 x1 x2 x3  K s0 0 st) ∧ (¬ x1 < 6 → w_X8_keeper_b28 x1 x2 x3  K s0 st))
def w_X8_keeper (x1 : Int32) (x2 : Int32) (x3 : Int32) (st : St) (K : Int32 → St → Prop) : Prop :=
  w_X1_hasKeeperRoom 11 st (fun r4 st4 => (r4 = 0 → w_X8_keeper_b16 x1 x2 x3  K (-6) st4) ∧ (¬ r4 = 0 → w_X8_keeper_b16 x1 x2 x3  K 0 st4))
def w_X8_letter_b16 (x1 : Int32) (x2 : Int32)  (K : Int32 → St → Prop) (s0 : Int32) (st : St) : Prop :=
  w_X8_townRefusal x1 st (fun r18 st18 => w_X8_range x2 0 99 st18 (fun r25 st25 => w_X8_firstOf r18 r25 s0 st25 (fun r29 st29 => (r29 = 0 → w_X5_forget  st29 (fun st50 => w_X1_addLetter 11 x1 x2 st50 (fun r59 st59 => K r59 st59))) ∧ (¬ r29 = 0 → w_X8_refused r29 st29 (fun r42 st42 => K r42 st42)))))
def w_X8_letter (x1 : Int32) (x2 : Int32) (st : St) (K : Int32 → St → Prop) : Prop :=
  w_X1_hasLetterRoom 11 st (fun r4 st4 => (r4 = 0 → w_X8_letter_b16 x1 x2  K (-6) st4) ∧ (¬ r4 = 0 → w_X8_letter_b16 x1 x2  K 0 st4))
def w_X8_hates (x1 : Int32) (x2 : Int32) (x3 : Int32) (st : St) (K : Int32 → St → Prop) : Prop :=
  w_X8_twoRefusal x1 x2 st (fun r3 st3 => w_X8_range x3 0 99 st3 (fun r10 st10 => w_X8_firstOf r3 r10 0 st10 (fun r14 st14 => (r14 = 0 → w_X5_remember 11 st14 (fun st39 => w_X1_hateOf 11 x1 x2 st39 (fun r48 st48 => w_X1_setHate 11 x1 x2 x3 st48 (fun st60 => K r48 st60)))) ∧ (¬ r14 = 0 → w_X8_refused r14 st14 (fun r27 st27 => K r27 st27)))))
def w_X8_goes (x1 : Int32) (x2 : Int32) (st : St) (K : Int32 → St → Prop) : Prop :=
  w_X8_keeperRefusal x1 st (fun r2 st2 => w_X8_townRefusal x2 st2 (fun r6 st6 => w_X8_firstOf r2 r6 0 st6 (fun r10 st10 => (r10 = 0 → w_X5_remember 11 st10 (fun st32 => w_X1_townOf 11 x1 st32 (fun r40 st40 => w_X1_move 11 x1 x2 st40 (fun st51 => K r40 st51)))) ∧ (¬ r10 = 0 → w_X8_refused r10 st10 (fun r20 st20 => K r20 st20)))))
def w_X8_seals (x1 : Int32) (st : St) (K : Int32 → St → Prop) : Prop :=
  w_X8_letterRefusal x1 st (fun r2 st2 => (r2 = 0 → w_X5_remember 11 st2 (fun st24 => w_X1_turnSeal 11 x1 st24 (fun st32 => w_X1_isOpen 11 x1 st32 (fun r40 st40 => (r40 = 0 → K 0 st40) ∧ (¬ r40 = 0 → K 1 st40))))) ∧ (¬ r2 = 0 → w_X8_refused r2 st2 (fun r12 st12 => K r12 st12)))
def w_X8_weeks_b28 (x1 : Int32)  (K : Int32 → St → Prop) (s0 : Int32) (s1 : Int32) (st : St) : Prop :=
  w_X8_firstOf s1 s0 0 st (fun r29 st29 => (r29 = 0 → w_X5_remember 11 st29 (fun st51 => w_X1_passWeeks 11 x1 st51 (fun r59 st59 => K r59 st59))) ∧ (¬ r29 = 0 → w_X8_refused r29 st29 (fun r39 st39 => K r39 st39)))
def w_X8_weeks (x1 : Int32) (st : St) (K : Int32 → St → Prop) : Prop :=
  w_X8_range x1 1 60 st (fun r4 st4 => w_X1_weekNow 11 st4 (fun r15 st15 => (x1 ≤ (999 - r15) → w_X8_weeks_b28 x1  K 0 r4 st15) ∧ (¬ x1 ≤ (999 - r15) → w_X8_weeks_b28 x1  K (-6) r4 st15)))
def w_X8_back  (st : St) (K : Int32 → St → Prop) : Prop :=
  w_X5_size  st (fun r4 st4 => (¬ r4 = 0 → w_X5_takeBack 11 st4 (fun st25 => w_X5_size  st25 (fun r32 st32 => K r32 st32))) ∧ (r4 = 0 → w_X8_refused (-3) st4 (fun r13 st13 => K r13 st13)))
def w_X8_image  (st : St) (K : Int32 → St → Prop) : Prop :=
  w_X1_become 27 11 st (fun st8 => w_X1_weekNow 11 (u2 st8 0 3 1) (fun r20 st20 => K r20 st20))
def w_X8_restore  (st : St) (K : Int32 → St → Prop) : Prop :=
  (¬ (st 0 3) = 0 → w_X1_become 11 27 st (fun st22 => w_X5_forget  st22 (fun st29 => w_X1_weekNow 11 st29 (fun r36 st36 => K r36 st36)))) ∧ ((st 0 3) = 0 → w_X8_refused (-3) st (fun r10 st10 => K r10 st10))
def w_X8_row_b23 (x1 : Int32)  (K : Int32 → St → Prop) (s0 : Int32) (s1 : Int32) (st : St) : Prop :=
  w_X8_firstOf s1 s0 0 st (fun r24 st24 => (r24 = 0 → w_X6_add x1 st24 (fun r45 st45 => K r45 st45)) ∧ (¬ r24 = 0 → w_X8_refused r24 st24 (fun r34 st34 => K r34 st34)))
def w_X8_row (x1 : Int32) (st : St) (K : Int32 → St → Prop) : Prop :=
  w_X8_range x1 0 99 st (fun r4 st4 => w_X6_isFull  st4 (fun r11 st11 => (r11 = 0 → w_X8_row_b23 x1  K 0 r4 st11) ∧ (¬ r11 = 0 → w_X8_row_b23 x1  K (-6) r4 st11)))
def w_X8_judge (x1 : Int32) (st : St) (K : Int32 → St → Prop) : Prop :=
  w_X8_keeperRefusal x1 st (fun r2 st2 => (r2 = 0 → w_X3_firstMisjudged x1 st2 (fun r25 st25 => w_X6_empty  st25 (fun st33 => K r25 st33))) ∧ (¬ r2 = 0 → w_X8_refused r2 st2 (fun r12 st12 => K r12 st12)))
def w_X8_clear  (st : St) (K : Int32 → St → Prop) : Prop :=
  w_X6_size  st (fun r4 st4 => w_X6_empty  st4 (fun st12 => K r4 st12))
def w_X8_behind (x1 : Int32) (x2 : Int32) (x3 : Int32) (st : St) (K : Int32 → St → Prop) : Prop :=
  w_X8_twoRefusal x1 x2 st (fun r3 st3 => w_X8_range x3 0 60 st3 (fun r10 st10 => w_X8_firstOf r3 r10 0 st10 (fun r14 st14 => (r14 = 0 → w_X4_hateAfter x1 x2 x3 st14 (fun r40 st40 => K r40 st40)) ∧ (¬ r14 = 0 → w_X8_refused r14 st14 (fun r27 st27 => K r27 st27)))))
def w_X8_then (x1 : Int32) (x2 : Int32) (st : St) (K : Int32 → St → Prop) : Prop :=
  w_X8_range x1 0 60 st (fun r4 st4 => w_X8_choice x2 1 st4 (fun r9 st9 => w_X8_firstOf r4 r9 0 st9 (fun r13 st13 => (r13 = 0 → (¬ x2 = 0 → w_X4_allHateAfter x1 st13 (fun r47 st47 => K r47 st47)) ∧ (x2 = 0 → w_X4_openBitsAfter x1 st13 (fun r36 st36 => K r36 st36))) ∧ (¬ r13 = 0 → w_X8_refused r13 st13 (fun r23 st23 => K r23 st23)))))
def w_X8_when (x1 : Int32) (x2 : Int32) (st : St) (K : Int32 → St → Prop) : Prop :=
  w_X8_letterRefusal x1 st (fun r2 st2 => w_X8_choice x2 1 st2 (fun r7 st7 => w_X8_firstOf r2 r7 0 st7 (fun r11 st11 => (r11 = 0 → (¬ x2 = 0 → w_X4_openedBy x1 st11 (fun r45 st45 => K r45 st45)) ∧ (x2 = 0 → w_X4_weekOpened x1 st11 (fun r34 st34 => K r34 st34))) ∧ (¬ r11 = 0 → w_X8_refused r11 st11 (fun r21 st21 => K r21 st21)))))
def w_X8_lasts (x1 : Int32) (x2 : Int32) (x3 : Int32) (st : St) (K : Int32 → St → Prop) : Prop :=
  w_X8_twoRefusal x1 x2 st (fun r3 st3 => w_X8_range x3 0 99 st3 (fun r10 st10 => w_X8_firstOf r3 r10 0 st10 (fun r14 st14 => (r14 = 0 → w_X4_weekBelow x1 x2 x3 st14 (fun r40 st40 => K r40 st40)) ∧ (¬ r14 = 0 → w_X8_refused r14 st14 (fun r27 st27 => K r27 st27)))))
def w_X8_never (x1 : Int32) (st : St) (K : Int32 → St → Prop) : Prop :=
  w_X8_choice x1 1 st (fun r2 st2 => (r2 = 0 → (¬ x1 = 0 → w_X4_firstOpened  st2 (fun r34 st34 => K r34 st34)) ∧ (x1 = 0 → w_X4_sealedFar  st2 (fun r24 st24 => K r24 st24))) ∧ (¬ r2 = 0 → w_X8_refused r2 st2 (fun r12 st12 => K r12 st12)))
def w_X8_insult_b17 (x1 : Int32) (x2 : Int32) (x3 : Int32)  (K : Int32 → St → Prop) (s0 : Int32) (st : St) : Prop :=
  w_X8_twoRefusal x1 x2 st (fun r22 st22 => w_X8_letterRefusal x3 st22 (fun r27 st27 => w_X8_firstOf r22 r27 s0 st27 (fun r32 st32 => (r32 = 0 → w_X4_leastInsult x1 x2 x3 st32 (fun r58 st58 => K r58 st58)) ∧ (¬ r32 = 0 → w_X8_refused r32 st32 (fun r45 st45 => K r45 st45)))))
def w_X8_insult (x1 : Int32) (x2 : Int32) (x3 : Int32) (st : St) (K : Int32 → St → Prop) : Prop :=
  w_X1_isOpen 11 x3 st (fun r5 st5 => (r5 = 0 → w_X8_insult_b17 x1 x2 x3  K 0 st5) ∧ (¬ r5 = 0 → w_X8_insult_b17 x1 x2 x3  K (-3) st5))
def w_X8_used (x1 : Int32) (x2 : Int32) (x3 : Int32) (st : St) (K : Int32 → St → Prop) : Prop :=
  w_X8_twoRefusal x1 x2 st (fun r3 st3 => w_X8_range x3 0 60 st3 (fun r10 st10 => w_X8_firstOf r3 r10 0 st10 (fun r14 st14 => (r14 = 0 → w_X1_hateOf 11 x1 x2 st14 (fun r40 st40 => w_X4_hateAfter x1 x2 x3 st40 (fun r50 st50 => K (r40 - r50) st50))) ∧ (¬ r14 = 0 → w_X8_refused r14 st14 (fun r29 st29 => K (1000000000 - r29) st29)))))
def w_X8_apart (x1 : Int32) (st : St) (K : Int32 → St → Prop) : Prop :=
  w_X8_range x1 0 60 st (fun r4 st4 => (r4 = 0 → w_X4_idleWeeks x1 st4 (fun r25 st25 => K r25 st25)) ∧ (¬ r4 = 0 → w_X8_refused r4 st4 (fun r14 st14 => K r14 st14)))
def w_X8_two (x1 : Int32) (x2 : Int32) (st : St) (K : Int32 → St → Prop) : Prop :=
  w_X8_twoRefusal x1 x2 st (fun r3 st3 => (r3 = 0 → w_X4_settled x1 x2 st3 (fun r25 st25 => K r25 st25)) ∧ (¬ r3 = 0 → w_X8_refused r3 st3 (fun r13 st13 => K r13 st13)))
def w_X8_send (x1 : Int32) (st : St) (K : Int32 → St → Prop) : Prop :=
  w_X8_range x1 0 60 st (fun r4 st4 => (r4 = 0 → w_X4_bestSending x1 st4 (fun r25 st25 => K r25 st25)) ∧ (¬ r4 = 0 → w_X8_refused r4 st4 (fun r14 st14 => K r14 st14)))
def w_X8_swap (x1 : Int32) (st : St) (K : Int32 → St → Prop) : Prop :=
  w_X8_range x1 0 60 st (fun r4 st4 => (r4 = 0 → w_X4_bestSwap x1 st4 (fun r25 st25 => K r25 st25)) ∧ (¬ r4 = 0 → w_X8_refused r4 st4 (fun r14 st14 => K r14 st14)))
def w_X8_places (x1 : Int32) (x2 : Int32) (x3 : Int32) (x4 : Int32) (x5 : Int32) (st : St) (K : Int32 → St → Prop) : Prop :=
  w_X8_twoRefusal x1 x2 st (fun r3 st3 => w_X8_twoRefusal x1 x3 st3 (fun r9 st9 => w_X8_twoRefusal x2 x3 st9 (fun r15 st15 => w_X8_firstOf r3 r9 r15 st15 (fun r18 st18 => w_X8_range x4 0 60 st18 (fun r30 st30 => w_X8_choice x5 1 st30 (fun r36 st36 => w_X8_firstOf r18 r30 r36 st36 (fun r39 st39 => (r39 = 0 → w_X4_bestPlaces x1 x2 x3 x4 st39 (fun r65 st65 => (¬ x5 = 0 → w_X4_openPlaced x1 x2 x3 x4 r65 st65 (fun r91 st91 => K r91 st91)) ∧ (x5 = 0 → K r65 st65))) ∧ (¬ r39 = 0 → w_X8_refused r39 st39 (fun r52 st52 => K r52 st52)))))))))
def w_X8_fewest (x1 : Int32) (x2 : Int32) (st : St) (K : Int32 → St → Prop) : Prop :=
  w_X8_range x1 0 60 st (fun r4 st4 => w_X8_choice x2 1 st4 (fun r9 st9 => w_X8_firstOf r4 r9 0 st9 (fun r13 st13 => (r13 = 0 → w_X4_fewestKept x1 st13 (fun r32 st32 => (¬ x2 = 0 → w_X3_wages r32 st32 (fun r52 st52 => K r52 st52)) ∧ (x2 = 0 → K r32 st32))) ∧ (¬ r13 = 0 → w_X8_refused r13 st13 (fun r23 st23 => K r23 st23)))))
def w_X8_pay_b13 (x1 : Int32) (x2 : Int32)  (K : Int32 → St → Prop) (s0 : Int32) (st : St) : Prop :=
  w_X8_range x2 0 60 st (fun r17 st17 => w_X8_firstOf s0 r17 0 st17 (fun r21 st21 => (r21 = 0 → w_X3_keepersIn x1 st21 (fun r46 st46 => w_X3_wages r46 st46 (fun r49 st49 => K (r49 * x2) st49))) ∧ (¬ r21 = 0 → w_X8_refused r21 st21 (fun r31 st31 => K r31 st31))))
def w_X8_pay (x1 : Int32) (x2 : Int32) (st : St) (K : Int32 → St → Prop) : Prop :=
  (¬ x1 = (-1) → w_X8_townRefusal x1 st (fun r10 st10 => w_X8_pay_b13 x1 x2  K r10 st10)) ∧ (x1 = (-1) → w_X8_pay_b13 x1 x2  K 0 st)
def w_X8_whoHates (x1 : Int32) (x2 : Int32) (x3 : Int32) (st : St) (K : Int32 → St → Prop) : Prop :=
  w_X8_twoRefusal x1 x2 st (fun r3 st3 => w_X8_choice x3 2 st3 (fun r8 st8 => w_X8_firstOf r3 r8 0 st8 (fun r12 st12 => (r12 = 0 → w_X4_fittingHate x1 x2 x3 st12 (fun r42 st42 => K r42 st42)) ∧ (¬ r12 = 0 → w_X8_refused r12 st12 (fun r25 st25 => K r25 st25)))))
def w_X8_whatKind (x1 : Int32) (x2 : Int32) (x3 : Int32) (st : St) (K : Int32 → St → Prop) : Prop :=
  w_X8_twoRefusal x1 x2 st (fun r3 st3 => w_X8_choice x3 1 st3 (fun r8 st8 => w_X8_firstOf r3 r8 0 st8 (fun r12 st12 => (r12 = 0 → (¬ x3 = 0 → w_X4_fittingFigures x1 x2 st12 (fun r59 st59 => K r59 st59)) ∧ (x3 = 0 → w_X4_fittingKinds x1 x2 st12 (fun r43 st43 => K r43 st43))) ∧ (¬ r12 = 0 → w_X8_refused r12 st12 (fun r25 st25 => K r25 st25)))))
def w_X8_jug_b45 (x1 : Int32) (x2 : Int32) (x3 : Int32) (x4 : Int32)  (K : Int64 → St → Prop) (v5 : Int32) (s0 : Int32) (st : St) : Prop :=
  w_X8_choice x4 1 st (fun r54 st54 => w_X8_firstOf v5 s0 r54 st54 (fun r57 st57 => (r57 = 0 → w_X0_ways x1 x2 x3 st57 (fun r82 st82 => w_X0_power x3 x1 st82 (fun r87 st87 => w_X0_part r82 r87 x4 st87 (fun r92 st92 => K r92 st92)))) ∧ (¬ r57 = 0 → w_X8_refused r57 st57 (fun r73 st73 => K (4000000000000000000 - ((r73).toInt64)) st73))))
def w_X8_jug_b39 (x1 : Int32) (x2 : Int32) (x3 : Int32) (x4 : Int32)  (K : Int64 → St → Prop) (v5 : Int32) (st : St) : Prop :=
  w_X8_jug_b45 x1 x2 x3 x4  K v5 (-6) st
def w_X8_jug_b19 (x1 : Int32) (x2 : Int32) (x3 : Int32) (x4 : Int32)  (K : Int64 → St → Prop) (s0 : Int32) (st : St) : Prop :=
  (8 < x1 → w_X8_jug_b39 x1 x2 x3 x4  K s0 st) ∧ (¬ 8 < x1 → (8 < x2 → w_X8_jug_b39 x1 x2 x3 x4  K s0 st) ∧ (¬ 8 < x2 → (x3 ≤ 20 → w_X8_jug_b45 x1 x2 x3 x4  K s0 0 st) ∧ (¬ x3 ≤ 20 → w_X8_jug_b39 x1 x2 x3 x4  K s0 st)))
def w_X8_jug_b13 (x1 : Int32) (x2 : Int32) (x3 : Int32) (x4 : Int32)  (K : Int64 → St → Prop)  (st : St) : Prop :=
  w_X8_jug_b19 x1 x2 x3 x4  K (-4) st
def w_X8_jug (x1 : Int32) (x2 : Int32) (x3 : Int32) (x4 : Int32) (st : St) (K : Int64 → St → Prop) : Prop :=
  (x1 < 0 → w_X8_jug_b13 x1 x2 x3 x4  K st) ∧ (¬ x1 < 0 → (x2 < 0 → w_X8_jug_b13 x1 x2 x3 x4  K st) ∧ (¬ x2 < 0 → (2 ≤ x3 → w_X8_jug_b19 x1 x2 x3 x4  K 0 st) ∧ (¬ 2 ≤ x3 → w_X8_jug_b13 x1 x2 x3 x4  K st)))
def w_X8_meetings_b56 (x1 : Int32) (x2 : Int32) (x3 : Int32) (x4 : Int32) (x5 : Int32) (x6 : Int32)  (K : Int64 → St → Prop) (v7 : Int32) (v8 : Int32) (s0 : Int32) (st : St) : Prop :=
  w_X8_firstOf v7 v8 s0 st (fun r64 st64 => w_X8_choice x6 1 st64 (fun r70 st70 => w_X8_firstOf r64 r70 0 st70 (fun r74 st74 => (r74 = 0 → w_X4_meetingWays x1 x2 x3 x4 x5 st74 (fun r107 st107 => w_X0_power x5 x4 st107 (fun r114 st114 => w_X0_part r107 r114 x6 st114 (fun r119 st119 => K r119 st119)))) ∧ (¬ r74 = 0 → w_X8_refused r74 st74 (fun r90 st90 => K (4000000000000000000 - ((r90).toInt64)) st90)))))
def w_X8_meetings_b50 (x1 : Int32) (x2 : Int32) (x3 : Int32) (x4 : Int32) (x5 : Int32) (x6 : Int32)  (K : Int64 → St → Prop) (v7 : Int32) (v8 : Int32) (st : St) : Prop :=
  w_X8_meetings_b56 x1 x2 x3 x4 x5 x6  K v7 v8 (-6) st
def w_X8_meetings_b34 (x1 : Int32) (x2 : Int32) (x3 : Int32) (x4 : Int32) (x5 : Int32) (x6 : Int32)  (K : Int64 → St → Prop) (v7 : Int32) (s0 : Int32) (st : St) : Prop :=
  (7 < x4 → w_X8_meetings_b50 x1 x2 x3 x4 x5 x6  K v7 s0 st) ∧ (¬ 7 < x4 → (x5 ≤ 20 → w_X8_meetings_b56 x1 x2 x3 x4 x5 x6  K v7 s0 0 st) ∧ (¬ x5 ≤ 20 → w_X8_meetings_b50 x1 x2 x3 x4 x5 x6  K v7 s0 st))
def w_X8_meetings_b28 (x1 : Int32) (x2 : Int32) (x3 : Int32) (x4 : Int32) (x5 : Int32) (x6 : Int32)  (K : Int64 → St → Prop) (v7 : Int32) (st : St) : Prop :=
  w_X8_meetings_b34 x1 x2 x3 x4 x5 x6  K v7 (-4) st
def w_X8_meetings (x1 : Int32) (x2 : Int32) (x3 : Int32) (x4 : Int32) (x5 : Int32) (x6 : Int32) (st : St) (K : Int64 → St → Prop) : Prop :=
  w_X8_twoRefusal x1 x2 st (fun r3 st3 => w_X8_letterRefusal x3 st3 (fun r8 st8 => w_X8_firstOf r3 r8 0 st8 (fun r12 st12 => (x4 < 0 → w_X8_meetings_b28 x1 x2 x3 x4 x5 x6  K r12 st12) ∧ (¬ x4 < 0 → (2 ≤ x5 → w_X8_meetings_b34 x1 x2 x3 x4 x5 x6  K r12 0 st12) ∧ (¬ 2 ≤ x5 → w_X8_meetings_b28 x1 x2 x3 x4 x5 x6  K r12 st12)))))
def w_X8_lots (x1 : Int32) (x2 : Int32) (x3 : Int32) (st : St) (K : Int32 → St → Prop) : Prop :=
  w_X8_range x1 1 20 st (fun r4 st4 => w_X8_choice x3 1 st4 (fun r9 st9 => w_X8_firstOf r4 r9 0 st9 (fun r13 st13 => (r13 = 0 → w_X4_byLot x1 x2 x3 st13 (fun r39 st39 => K r39 st39)) ∧ (¬ r13 = 0 → w_X8_refused r13 st13 (fun r26 st26 => K r26 st26)))))
def w_X8_deepest (x1 : Int32) (st : St) (K : Int32 → St → Prop) : Prop :=
  w_X8_townRefusal x1 st (fun r1 st1 => (r1 = 0 → w_X3_mostHateIn x1 st1 (fun r22 st22 => K r22 st22)) ∧ (¬ r1 = 0 → w_X8_refused r1 st1 (fun r11 st11 => K r11 st11)))
def w_X8_can (x1 : Int32) (st : St) (K : Int32 → St → Prop) : Prop :=
  w_X8_range x1 0 99 st (fun r4 st4 => (r4 = 0 → w_X3_townsThatOpen x1 st4 (fun r25 st25 => K r25 st25)) ∧ (¬ r4 = 0 → w_X8_refused r4 st4 (fun r14 st14 => K r14 st14)))
def w_X8_pairs (x1 : Int32) (st : St) (K : Int32 → St → Prop) : Prop :=
  w_X8_range x1 0 99 st (fun r4 st4 => (r4 = 0 → w_X3_mostTwos x1 st4 (fun r25 st25 => K r25 st25)) ∧ (¬ r4 = 0 → w_X8_refused r4 st4 (fun r14 st14 => K r14 st14)))
def w_X8_worst_b44 (x1 : Int32)  (K : Int32 → St → Prop) (s0 : Int32) (st : St) : Prop :=
  w_X3_worstTwo s0 st (fun r44 st44 => K r44 st44)
def w_X8_worst (x1 : Int32) (st : St) (K : Int32 → St → Prop) : Prop :=
  w_X8_choice x1 2 st (fun r2 st2 => (r2 = 0 → (¬ x1 = 2 → (¬ x1 = 0 → w_X8_worst_b44 x1  K 0 st2) ∧ (x1 = 0 → w_X8_worst_b44 x1  K 1 st2)) ∧ (x1 = 2 → w_X3_friends  st2 (fun r25 st25 => K r25 st25))) ∧ (¬ r2 = 0 → w_X8_refused r2 st2 (fun r12 st12 => K r12 st12)))
def w_X8_fullest (x1 : Int32) (st : St) (K : Int32 → St → Prop) : Prop :=
  w_X8_choice x1 1 st (fun r2 st2 => (r2 = 0 → w_X3_townOfMost  st2 (fun r20 st20 => (¬ x1 = 0 → w_X3_crowd r20 st20 (fun r37 st37 => K r37 st37)) ∧ (x1 = 0 → K r20 st20))) ∧ (¬ r2 = 0 → w_X8_refused r2 st2 (fun r12 st12 => K r12 st12)))
def w_X8_thickest  (st : St) (K : Int32 → St → Prop) : Prop :=
  w_X3_deepestSealed  st (fun r4 st4 => K r4 st4)
def w_X8_mildest  (st : St) (K : Int32 → St → Prop) : Prop :=
  w_X3_leastHating  st (fun r4 st4 => K r4 st4)
def w_X8_bare  (st : St) (K : Int32 → St → Prop) : Prop :=
  w_X3_bareTowns  st (fun r4 st4 => K r4 st4)
def w_X8_enemy (x1 : Int32) (st : St) (K : Int32 → St → Prop) : Prop :=
  w_X8_keeperRefusal x1 st (fun r2 st2 => (r2 = 0 → w_X3_mostHated x1 st2 (fun r23 st23 => K r23 st23)) ∧ (¬ r2 = 0 → w_X8_refused r2 st2 (fun r12 st12 => K r12 st12)))
def w_X8_mean (x1 : Int32) (st : St) (K : Int64 → St → Prop) : Prop :=
  w_X8_choice x1 1 st (fun r2 st2 => (r2 = 0 → w_X1_keeperCount 11 st2 (fun r25 st25 => w_X1_allHate 11 st25 (fun r33 st33 => w_X0_part ((r33).toInt64) (((if 1 < ((r25 * (r25 - 1)) / 2) then ((r25 * (r25 - 1)) / 2) else 1)).toInt64) x1 st33 (fun r50 st50 => K r50 st50)))) ∧ (¬ r2 = 0 → w_X8_refused r2 st2 (fun r15 st15 => K (4000000000000000000 - ((r15).toInt64)) st15)))
end
section
def w_X9_no (x1 : Int32) (st : St) (K : Int32 → St → Prop) : Prop :=
  vp_in (-x1) 7 ∧ (vp_in (-x1) 7 ∧ (K x1 (u2 st 1 ((-x1)).toNatClampNeg ((st 1 ((-x1)).toNatClampNeg) + 1))))
def w_X9_lower (x1 : Int32) (st : St) (K : Int32 → St → Prop) : Prop :=
  vp_in (-x1) 7 ∧ (vp_in (-x1) 7 ∧ (K (1000000000 - x1) (u2 st 1 ((-x1)).toNatClampNeg ((st 1 ((-x1)).toNatClampNeg) + 1))))
def w_X9_lowestOf (x1 : Int32) (st : St) (K : Int64 → St → Prop) : Prop :=
  vp_in (-x1) 7 ∧ (vp_in (-x1) 7 ∧ (K (4000000000000000000 - ((x1).toInt64)) (u2 st 1 ((-x1)).toNatClampNeg ((st 1 ((-x1)).toNatClampNeg) + 1))))
def w_X9_isIn (x0 : Int32) (x1 : Int32) (x2 : Int32) (st : St) (K : Int32 → St → Prop) : Prop :=
  (x0 < x1 → K 0 st) ∧ (¬ x0 < x1 → (x2 < x0 → K 0 st) ∧ (¬ x2 < x0 → K 1 st))
def w_X9_bound (x0 : Int32) (x1 : Int32) (x2 : Int32) (st : St) (K : Int32 → St → Prop) : Prop :=
  (x1 ≤ x0 → (x0 ≤ x2 → K 0 st) ∧ (¬ x0 ≤ x2 → K (-6) st)) ∧ (¬ x1 ≤ x0 → K (-4) st)
def w_X9_held (x0 : Int32) (x1 : Int32) (x2 : Int32) (st : St) (K : Int32 → St → Prop) : Prop :=
  (x1 ≤ x0 → (x0 ≤ x2 → K x0 st) ∧ (¬ x0 ≤ x2 → K x2 st)) ∧ (¬ x1 ≤ x0 → K x1 st)
def w_X9_has (x0 : Int32) (x1 : Int32) (st : St) (K : Int32 → St → Prop) : Prop :=
  (¬ ((x0 >>> (x1 &&& 31)) &&& 1) = 1 → K 0 st) ∧ (((x0 >>> (x1 &&& 31)) &&& 1) = 1 → K 1 st)
def w_X9_bits_L4q (x0 : Int32)  (K : Int32 → St → Prop) (c4 : Int32 → Int32 → St → Prop) (v1 : Int32) (v2 : Int32) (st : St) : Prop :=
  (31 ≤ v2 → K v1 st) ∧ (¬ 31 ≤ v2 → c4 (v1 + ((x0 >>> (v2 &&& 31)) &&& 1)) (v2 + 1) st)
def w_X9_bits_L4 (x0 : Int32)  (K : Int32 → St → Prop) : Nat → Int32 → Int32 → St → Prop
  | 0, _, _, _ => False
  | n + 1, v1, v2, st => w_X9_bits_L4q x0  K (fun v1 v2 st => w_X9_bits_L4 x0  K n v1 v2 st) v1 v2 st
def w_X9_bits (x0 : Int32) (st : St) (K : Int32 → St → Prop) : Prop :=
  ∃ n, w_X9_bits_L4 x0  K n 0 0 st
def w_X9_isKeeper (x1 : Int32) (st : St) (K : Int32 → St → Prop) : Prop :=
  (x1 < 0 → K 0 st) ∧ (¬ x1 < 0 → ((st 0 8) ≤ x1 → K 0 st) ∧ (¬ (st 0 8) ≤ x1 → K 1 st))
def w_X9_areTwo (x1 : Int32) (x2 : Int32) (st : St) (K : Int32 → St → Prop) : Prop :=
  w_X9_isKeeper x1 st (fun r2 st2 => (r2 = 0 → K 0 st2) ∧ (¬ r2 = 0 → w_X9_isKeeper x2 st2 (fun r10 st10 => (r10 = 0 → K 0 st10) ∧ (¬ r10 = 0 → (x1 = x2 → K 0 st10) ∧ (¬ x1 = x2 → K 1 st10)))))
def w_X9_isLetter (x1 : Int32) (st : St) (K : Int32 → St → Prop) : Prop :=
  (x1 < 0 → K 0 st) ∧ (¬ x1 < 0 → ((st 0 9) ≤ x1 → K 0 st) ∧ (¬ (st 0 9) ≤ x1 → K 1 st))
def w_X9_isTown (x0 : Int32) (st : St) (K : Int32 → St → Prop) : Prop :=
  (x0 < 0 → K 0 st) ∧ (¬ x0 < 0 → (4 ≤ x0 → K 0 st) ∧ (¬ 4 ≤ x0 → K 1 st))
def w_X9_hateOf (x1 : Int32) (x2 : Int32) (st : St) (K : Int32 → St → Prop) : Prop :=
  vp_in ((6 * x1) + x2) 36 ∧ (K (st 5 (((6 * x1) + x2)).toNatClampNeg) st)
def w_X9_sets (x1 : Int32) (x2 : Int32) (x3 : Int32) (st : St) (K : St → Prop) : Prop :=
  vp_in ((6 * x1) + x2) 36 ∧ (vp_in ((6 * x2) + x1) 36 ∧ (K (u2 (u2 st 5 (((6 * x1) + x2)).toNatClampNeg x3) 5 (((6 * x2) + x1)).toNatClampNeg x3)))
def w_X9_feed_b25 (x1 : Int32)  (K : Int32 → St → Prop) (v2 : Int32) (st : St) : Prop :=
  (v2 = 0 → vp_in (st 0 16) 96 ∧ (K ((u2 (u2 st 9 ((st 0 16)).toNatClampNeg x1) 0 16 (((u2 st 9 ((st 0 16)).toNatClampNeg x1) 0 16) + 1)) 0 16) (u2 (u2 st 9 ((st 0 16)).toNatClampNeg x1) 0 16 (((u2 st 9 ((st 0 16)).toNatClampNeg x1) 0 16) + 1)))) ∧ (¬ v2 = 0 → w_X9_no v2 st (fun r31 st31 => K r31 st31))
def w_X9_feed (x1 : Int32) (st : St) (K : Int32 → St → Prop) : Prop :=
  w_X9_bound x1 0 255 st (fun r5 st5 => (¬ r5 = 0 → w_X9_feed_b25 x1  K r5 st5) ∧ (r5 = 0 → (¬ (st5 0 16) = 96 → w_X9_feed_b25 x1  K r5 st5) ∧ ((st5 0 16) = 96 → w_X9_feed_b25 x1  K (-6) st5)))
def w_X9_next  (st : St) (K : Int32 → St → Prop) : Prop :=
  ((st 0 16) ≤ (st 0 17) → K (-1) st) ∧ (¬ (st 0 16) ≤ (st 0 17) → vp_in (st 0 17) 96 ∧ (K (st 9 ((st 0 17)).toNatClampNeg) st))
def w_X9_readsDigits_b56 (x1 : Int32) (x2 : Int32)  (K : Int32 → St → Prop) (v3 : Int32) (st : St) : Prop :=
  vp_in x1 144 ∧ (K 1 (u2 st 12 (x1).toNatClampNeg v3))
def w_X9_readsDigits_L5q (x1 : Int32) (x2 : Int32)  (K : Int32 → St → Prop) (c5 : Int32 → Int32 → St → Prop) (v3 : Int32) (v4 : Int32) (st : St) : Prop :=
  (x2 ≤ v4 → w_X9_readsDigits_b56 x1 x2  K v3 st) ∧ (¬ x2 ≤ v4 → w_X9_next  st (fun r12 st12 => w_X9_isIn r12 48 57 st12 (fun r19 st19 => (¬ r19 = 0 → w_X9_next  st19 (fun r32 st32 => c5 (((10 * v3) + r32) - 48) (v4 + 1) (u2 st32 0 17 ((st32 0 17) + 1)))) ∧ (r19 = 0 → K 0 st19))))
def w_X9_readsDigits_L5 (x1 : Int32) (x2 : Int32)  (K : Int32 → St → Prop) : Nat → Int32 → Int32 → St → Prop
  | 0, _, _, _ => False
  | n + 1, v3, v4, st => w_X9_readsDigits_L5q x1 x2  K (fun v3 v4 st => w_X9_readsDigits_L5 x1 x2  K n v3 v4 st) v3 v4 st
def w_X9_readsDigits (x1 : Int32) (x2 : Int32) (st : St) (K : Int32 → St → Prop) : Prop :=
  ∃ n, w_X9_readsDigits_L5 x1 x2  K n 0 0 st
def w_X9_readsAll (x1 : Int32) (x2 : Int32) (st : St) (K : Int32 → St → Prop) : Prop :=
  (x1 = 103 → w_X9_readsDigits x2 1 st (fun r171 st171 => (r171 = 0 → K 0 st171) ∧ (¬ r171 = 0 → w_X9_readsDigits (x2 + 1) 1 st171 (fun r182 st182 => (r182 = 0 → K 0 st182) ∧ (¬ r182 = 0 → K 1 st182))))) ∧ (¬ x1 = 103 → (x1 = 104 → w_X9_readsDigits x2 1 st (fun r108 st108 => (r108 = 0 → K 0 st108) ∧ (¬ r108 = 0 → w_X9_readsDigits (x2 + 1) 1 st108 (fun r119 st119 => (r119 = 0 → K 0 st119) ∧ (¬ r119 = 0 → w_X9_readsDigits (x2 + 2) 2 st119 (fun r130 st130 => (r130 = 0 → K 0 st130) ∧ (¬ r130 = 0 → K 1 st130))))))) ∧ (¬ x1 = 104 → (x1 = 107 → w_X9_readsDigits x2 1 st (fun r71 st71 => (r71 = 0 → K 0 st71) ∧ (¬ r71 = 0 → w_X9_readsDigits (x2 + 1) 1 st71 (fun r82 st82 => (r82 = 0 → K 0 st82) ∧ (¬ r82 = 0 → w_X9_readsDigits (x2 + 2) 1 st82 (fun r93 st93 => (r93 = 0 → K 0 st93) ∧ (¬ r93 = 0 → K 1 st93))))))) ∧ (¬ x1 = 107 → (x1 = 108 → w_X9_readsDigits x2 2 st (fun r145 st145 => (r145 = 0 → K 0 st145) ∧ (¬ r145 = 0 → w_X9_readsDigits (x2 + 1) 1 st145 (fun r156 st156 => (r156 = 0 → K 0 st156) ∧ (¬ r156 = 0 → K 1 st156))))) ∧ (¬ x1 = 108 → (x1 = 115 → w_X9_readsDigits x2 1 st (fun r197 st197 => (r197 = 0 ∨ r197 = 1) ∧ K r197 st197)) ∧ (¬ x1 = 115 → w_X9_readsDigits x2 2 st (fun r204 st204 => (r204 = 0 ∨ r204 = 1) ∧ K r204 st204))))))
def w_X9_statement_b43   (K : Int32 → St → Prop) (v1 : Int32) (st : St) : Prop :=
  vp_in (st 0 18) 48 ∧ (vp_in ((u2 st 10 ((st 0 18)).toNatClampNeg v1) 0 18) 48 ∧ (w_X9_readsAll v1 (3 * ((u2 (u2 (u2 st 10 ((st 0 18)).toNatClampNeg v1) 11 (((u2 st 10 ((st 0 18)).toNatClampNeg v1) 0 18)).toNatClampNeg ((u2 st 10 ((st 0 18)).toNatClampNeg v1) 0 17)) 0 17 (((u2 (u2 st 10 ((st 0 18)).toNatClampNeg v1) 11 (((u2 st 10 ((st 0 18)).toNatClampNeg v1) 0 18)).toNatClampNeg ((u2 st 10 ((st 0 18)).toNatClampNeg v1) 0 17)) 0 17) + 1)) 0 18)) (u2 (u2 (u2 st 10 ((st 0 18)).toNatClampNeg v1) 11 (((u2 st 10 ((st 0 18)).toNatClampNeg v1) 0 18)).toNatClampNeg ((u2 st 10 ((st 0 18)).toNatClampNeg v1) 0 17)) 0 17 (((u2 (u2 st 10 ((st 0 18)).toNatClampNeg v1) 11 (((u2 st 10 ((st 0 18)).toNatClampNeg v1) 0 18)).toNatClampNeg ((u2 st 10 ((st 0 18)).toNatClampNeg v1) 0 17)) 0 17) + 1)) (fun r84 st84 => (r84 = 0 → K 0 st84) ∧ (¬ r84 = 0 → w_X9_next  st84 (fun r91 st91 => (r91 = 59 → K 1 (u2 st91 0 17 ((st91 0 17) + 1))) ∧ (¬ r91 = 59 → K 0 st91))))))
def w_X9_statement  (st : St) (K : Int32 → St → Prop) : Prop :=
  w_X9_next  st (fun r1 st1 => (r1 = 107 → w_X9_statement_b43   K r1 st1) ∧ (¬ r1 = 107 → (r1 = 104 → w_X9_statement_b43   K r1 st1) ∧ (¬ r1 = 104 → (r1 = 108 → w_X9_statement_b43   K r1 st1) ∧ (¬ r1 = 108 → (r1 = 103 → w_X9_statement_b43   K r1 st1) ∧ (¬ r1 = 103 → (r1 = 115 → w_X9_statement_b43   K r1 st1) ∧ (¬ r1 = 115 → (r1 = 119 → w_X9_statement_b43   K r1 st1) ∧ (¬ r1 = 119 → K 0 st1)))))))
def w_X9_addsKeeper_b60 (x1 : Int32) (x2 : Int32) (x3 : Int32)  (K : St → Prop)  (st : St) : Prop :=
  K (u2 st 0 8 ((st 0 8) + 1))
def w_X9_addsKeeper_L33q (x1 : Int32) (x2 : Int32) (x3 : Int32)  (K : St → Prop) (c33 : Int32 → St → Prop) (v4 : Int32) (st : St) : Prop :=
  ((st 0 8) ≤ v4 → w_X9_addsKeeper_b60 x1 x2 x3  K st) ∧ (¬ (st 0 8) ≤ v4 → w_X9_sets v4 (st 0 8) 20 st (fun st51 => c33 (v4 + 1) st51))
def w_X9_addsKeeper_L33 (x1 : Int32) (x2 : Int32) (x3 : Int32)  (K : St → Prop) : Nat → Int32 → St → Prop
  | 0, _, _ => False
  | n + 1, v4, st => w_X9_addsKeeper_L33q x1 x2 x3  K (fun v4 st => w_X9_addsKeeper_L33 x1 x2 x3  K n v4 st) v4 st
def w_X9_addsKeeper (x1 : Int32) (x2 : Int32) (x3 : Int32) (st : St) (K : St → Prop) : Prop :=
  vp_in (st 0 8) 6 ∧ (vp_in ((u2 st 2 ((st 0 8)).toNatClampNeg x1) 0 8) 6 ∧ (vp_in ((u2 (u2 st 2 ((st 0 8)).toNatClampNeg x1) 3 (((u2 st 2 ((st 0 8)).toNatClampNeg x1) 0 8)).toNatClampNeg x2) 0 8) 6 ∧ (∃ n, w_X9_addsKeeper_L33 x1 x2 x3  K n 0 (u2 (u2 (u2 st 2 ((st 0 8)).toNatClampNeg x1) 3 (((u2 st 2 ((st 0 8)).toNatClampNeg x1) 0 8)).toNatClampNeg x2) 4 (((u2 (u2 st 2 ((st 0 8)).toNatClampNeg x1) 3 (((u2 st 2 ((st 0 8)).toNatClampNeg x1) 0 8)).toNatClampNeg x2) 0 8)).toNatClampNeg x3))))
def w_X9_comesKeeper (x1 : Int32) (x2 : Int32) (x3 : Int32) (st : St) (K : Int32 → St → Prop) : Prop :=
  (5 < x1 → K 0 st) ∧ (¬ 5 < x1 → w_X9_isTown x3 st (fun r6 st6 => (r6 = 0 → K 0 st6) ∧ (¬ r6 = 0 → (¬ (st6 0 8) = 6 → w_X9_addsKeeper x1 x2 x3 st6 (fun st27 => K 1 st27)) ∧ ((st6 0 8) = 6 → K 0 st6))))
def w_X9_addsLetter (x1 : Int32) (x2 : Int32) (st : St) (K : St → Prop) : Prop :=
  vp_in (st 0 9) 6 ∧ (vp_in ((u2 st 6 ((st 0 9)).toNatClampNeg x2) 0 9) 6 ∧ (vp_in ((u2 (u2 st 6 ((st 0 9)).toNatClampNeg x2) 7 (((u2 st 6 ((st 0 9)).toNatClampNeg x2) 0 9)).toNatClampNeg x1) 0 9) 6 ∧ (K (u2 (u2 (u2 (u2 st 6 ((st 0 9)).toNatClampNeg x2) 7 (((u2 st 6 ((st 0 9)).toNatClampNeg x2) 0 9)).toNatClampNeg x1) 8 (((u2 (u2 st 6 ((st 0 9)).toNatClampNeg x2) 7 (((u2 st 6 ((st 0 9)).toNatClampNeg x2) 0 9)).toNatClampNeg x1) 0 9)).toNatClampNeg 0) 0 9 (((u2 (u2 (u2 st 6 ((st 0 9)).toNatClampNeg x2) 7 (((u2 st 6 ((st 0 9)).toNatClampNeg x2) 0 9)).toNatClampNeg x1) 8 (((u2 (u2 st 6 ((st 0 9)).toNatClampNeg x2) 7 (((u2 st 6 ((st 0 9)).toNatClampNeg x2) 0 9)).toNatClampNeg x1) 0 9)).toNatClampNeg 0) 0 9) + 1)))))
def w_X9_comesLetter (x1 : Int32) (x2 : Int32) (st : St) (K : Int32 → St → Prop) : Prop :=
  w_X9_isTown x2 st (fun r1 st1 => (r1 = 0 → K 0 st1) ∧ (¬ r1 = 0 → (¬ (st1 0 9) = 6 → w_X9_addsLetter x2 x1 st1 (fun st21 => K 1 st21)) ∧ ((st1 0 9) = 6 → K 0 st1)))
def w_X9_fadesOf (x1 : Int32) (st : St) (K : Int32 → St → Prop) : Prop :=
  vp_in x1 6 ∧ (((st 2 (x1).toNatClampNeg) = 1 → K 0 st) ∧ (¬ (st 2 (x1).toNatClampNeg) = 1 → ((st 2 (x1).toNatClampNeg) = 2 → K 2 st) ∧ (¬ (st 2 (x1).toNatClampNeg) = 2 → ((st 2 (x1).toNatClampNeg) = 3 → vp_in x1 6 ∧ (K (((st 3 (x1).toNatClampNeg) / 2) + 1) st)) ∧ (¬ (st 2 (x1).toNatClampNeg) = 3 → ((st 2 (x1).toNatClampNeg) = 4 → K 0 st) ∧ (¬ (st 2 (x1).toNatClampNeg) = 4 → ((st 2 (x1).toNatClampNeg) = 5 → K 3 st) ∧ (¬ (st 2 (x1).toNatClampNeg) = 5 → K 1 st))))))
def w_X9_stirsOf (x1 : Int32) (st : St) (K : Int32 → St → Prop) : Prop :=
  vp_in x1 6 ∧ ((¬ (st 2 (x1).toNatClampNeg) = 1 → vp_in x1 6 ∧ ((¬ (st 2 (x1).toNatClampNeg) = 4 → K 0 st) ∧ ((st 2 (x1).toNatClampNeg) = 4 → vp_in x1 6 ∧ (K (((st 3 (x1).toNatClampNeg) / 4) + 1) st)))) ∧ ((st 2 (x1).toNatClampNeg) = 1 → K 1 st))
def w_X9_fadesTwo_b89 (x1 : Int32) (x2 : Int32)  (K : St → Prop) (s0 : Int32) (s1 : Int32) (s2 : Int32) (st : St) : Prop :=
  w_X9_sets s2 s1 s0 st (fun st89 => K st89)
def w_X9_fadesTwo (x1 : Int32) (x2 : Int32) (st : St) (K : St → Prop) : Prop :=
  w_X9_has (st 0 11) x1 st (fun r5 st5 => (¬ r5 = 0 → K st5) ∧ (r5 = 0 → w_X9_has (st5 0 11) x2 st5 (fun r16 st16 => (r16 = 0 → w_X9_hateOf x1 x2 st16 (fun r26 st26 => vp_in x1 6 ∧ (vp_in x2 6 ∧ ((¬ (st26 4 (x1).toNatClampNeg) = (st26 4 (x2).toNatClampNeg) → w_X9_stirsOf x1 st26 (fun r73 st73 => w_X9_stirsOf x2 st73 (fun r79 st79 => w_X9_held ((r26 + r73) + r79) 0 99 st79 (fun r86 st86 => w_X9_fadesTwo_b89 x1 x2  K r86 x2 x1 st86)))) ∧ ((st26 4 (x1).toNatClampNeg) = (st26 4 (x2).toNatClampNeg) → w_X9_fadesOf x1 st26 (fun r51 st51 => w_X9_fadesOf x2 st51 (fun r57 st57 => w_X9_held ((r26 - r51) - r57) 0 99 st57 (fun r64 st64 => w_X9_fadesTwo_b89 x1 x2  K r64 x2 x1 st64)))))))) ∧ (¬ r16 = 0 → K st16))))
def w_X9_areThere (x1 : Int32) (x2 : Int32) (x3 : Int32) (st : St) (K : Int32 → St → Prop) : Prop :=
  vp_in x1 6 ∧ ((¬ (st 4 (x1).toNatClampNeg) = x3 → K 0 st) ∧ ((st 4 (x1).toNatClampNeg) = x3 → vp_in x2 6 ∧ ((¬ (st 4 (x2).toNatClampNeg) = x3 → K 0 st) ∧ ((st 4 (x2).toNatClampNeg) = x3 → w_X9_has (st 0 11) x1 st (fun r25 st25 => (¬ r25 = 0 → K 0 st25) ∧ (r25 = 0 → w_X9_has (st25 0 11) x2 st25 (fun r36 st36 => (¬ r36 = 0 → K 0 st36) ∧ (r36 = 0 → K 1 st36))))))))
def w_X9_opensAt_b93 (x1 : Int32) (x2 : Int32) (c10 : Int32 → Int32 → Int32 → St → Prop) (c25 : Int32 → Int32 → Int32 → Int32 → St → Prop) (K : Int32 → St → Prop) (v3 : Int32) (v4 : Int32) (v5 : Int32) (v6 : Int32) (st : St) : Prop :=
  c25 v3 v4 v5 (v6 + 1) st
def w_X9_opensAt_b99 (x1 : Int32) (x2 : Int32) (c10 : Int32 → Int32 → Int32 → St → Prop) (K : Int32 → St → Prop) (v3 : Int32) (v4 : Int32) (v5 : Int32) (st : St) : Prop :=
  c10 v3 v4 (v5 + 1) st
def w_X9_opensAt_L25q (x1 : Int32) (x2 : Int32) (c10 : Int32 → Int32 → Int32 → St → Prop) (K : Int32 → St → Prop) (c25 : Int32 → Int32 → Int32 → Int32 → St → Prop) (v3 : Int32) (v4 : Int32) (v5 : Int32) (v6 : Int32) (st : St) : Prop :=
  ((st 0 8) ≤ v6 → w_X9_opensAt_b99 x1 x2 c10 K v3 v4 v5 st) ∧ (¬ (st 0 8) ≤ v6 → w_X9_areThere v5 v6 x1 st (fun r40 st40 => (r40 = 0 → w_X9_opensAt_b93 x1 x2 c10 c25 K v3 v4 v5 v6 st40) ∧ (¬ r40 = 0 → w_X9_hateOf v5 v6 st40 (fun r51 st51 => (r51 < x2 → w_X9_opensAt_b93 x1 x2 c10 c25 K v3 v4 v5 v6 st51) ∧ (¬ r51 < x2 → w_X9_hateOf v5 v6 st51 (fun r63 st63 => (r63 < v4 → w_X9_hateOf v5 v6 st63 (fun r88 st88 => w_X9_opensAt_b93 x1 x2 c10 c25 K ((10 * v5) + v6) r88 v5 v6 st88)) ∧ (¬ r63 < v4 → w_X9_opensAt_b93 x1 x2 c10 c25 K v3 v4 v5 v6 st63)))))))
def w_X9_opensAt_L25 (x1 : Int32) (x2 : Int32) (c10 : Int32 → Int32 → Int32 → St → Prop) (K : Int32 → St → Prop) : Nat → Int32 → Int32 → Int32 → Int32 → St → Prop
  | 0, _, _, _, _, _ => False
  | n + 1, v3, v4, v5, v6, st => w_X9_opensAt_L25q x1 x2 c10 K (fun v3 v4 v5 v6 st => w_X9_opensAt_L25 x1 x2 c10 K n v3 v4 v5 v6 st) v3 v4 v5 v6 st
def w_X9_opensAt_L10q (x1 : Int32) (x2 : Int32)  (K : Int32 → St → Prop) (c10 : Int32 → Int32 → Int32 → St → Prop) (v3 : Int32) (v4 : Int32) (v5 : Int32) (st : St) : Prop :=
  ((st 0 8) ≤ v5 → K v3 st) ∧ (¬ (st 0 8) ≤ v5 → ∃ n, w_X9_opensAt_L25 x1 x2 c10 K n v3 v4 v5 (v5 + 1) st)
def w_X9_opensAt_L10 (x1 : Int32) (x2 : Int32)  (K : Int32 → St → Prop) : Nat → Int32 → Int32 → Int32 → St → Prop
  | 0, _, _, _, _ => False
  | n + 1, v3, v4, v5, st => w_X9_opensAt_L10q x1 x2  K (fun v3 v4 v5 st => w_X9_opensAt_L10 x1 x2  K n v3 v4 v5 st) v3 v4 v5 st
def w_X9_opensAt (x1 : Int32) (x2 : Int32) (st : St) (K : Int32 → St → Prop) : Prop :=
  ∃ n, w_X9_opensAt_L10 x1 x2  K n (-9) 100 0 st
def w_X9_goesWeek_b49  (c17 : Int32 → St → Prop) (K : St → Prop) (v1 : Int32) (st : St) : Prop :=
  c17 (v1 + 1) st
def w_X9_goesWeek_L29q  (c17 : Int32 → St → Prop) (K : St → Prop) (c29 : Int32 → Int32 → St → Prop) (v1 : Int32) (v2 : Int32) (st : St) : Prop :=
  ((st 0 8) ≤ v2 → w_X9_goesWeek_b49  c17 K v1 st) ∧ (¬ (st 0 8) ≤ v2 → w_X9_fadesTwo v1 v2 st (fun st40 => c29 v1 (v2 + 1) st40))
def w_X9_goesWeek_L29  (c17 : Int32 → St → Prop) (K : St → Prop) : Nat → Int32 → Int32 → St → Prop
  | 0, _, _, _ => False
  | n + 1, v1, v2, st => w_X9_goesWeek_L29q  c17 K (fun v1 v2 st => w_X9_goesWeek_L29  c17 K n v1 v2 st) v1 v2 st
def w_X9_goesWeek_b171  (c57 : Int32 → St → Prop) (K : St → Prop) (v1 : Int32) (st : St) : Prop :=
  c57 (v1 + 1) st
def w_X9_goesWeek_b101  (c57 : Int32 → St → Prop) (K : St → Prop) (v1 : Int32) (s0 : Int32) (s1 : Int32) (st : St) : Prop :=
  vp_in s1 6 ∧ (vp_in v1 6 ∧ ((0 ≤ ((u2 st 14 (s1).toNatClampNeg s0) 14 (v1).toNatClampNeg) → vp_in v1 6 ∧ (vp_in v1 6 ∧ (vp_in v1 6 ∧ (w_X9_hateOf (((u2 st 14 (s1).toNatClampNeg s0) 14 (v1).toNatClampNeg) / 10) (((u2 st 14 (s1).toNatClampNeg s0) 14 (v1).toNatClampNeg) - ((u2 st 14 (s1).toNatClampNeg s0) 14 (v1).toNatClampNeg) / 10 * 10) (u2 (u2 (u2 st 14 (s1).toNatClampNeg s0) 8 (v1).toNatClampNeg 1) 0 25 (((u2 (u2 st 14 (s1).toNatClampNeg s0) 8 (v1).toNatClampNeg 1) 0 25) + 1)) (fun r157 st157 => w_X9_held (r157 - 5) 0 99 st157 (fun r165 st165 => w_X9_sets (((u2 st 14 (s1).toNatClampNeg s0) 14 (v1).toNatClampNeg) / 10) (((u2 st 14 (s1).toNatClampNeg s0) 14 (v1).toNatClampNeg) - ((u2 st 14 (s1).toNatClampNeg s0) 14 (v1).toNatClampNeg) / 10 * 10) r165 st165 (fun st168 => w_X9_goesWeek_b171  c57 K v1 st168))))))) ∧ (¬ 0 ≤ ((u2 st 14 (s1).toNatClampNeg s0) 14 (v1).toNatClampNeg) → w_X9_goesWeek_b171  c57 K v1 (u2 st 14 (s1).toNatClampNeg s0))))
def w_X9_goesWeek_L57q   (K : St → Prop) (c57 : Int32 → St → Prop) (v1 : Int32) (st : St) : Prop :=
  ((st 0 9) ≤ v1 → K st) ∧ (¬ (st 0 9) ≤ v1 → vp_in v1 6 ∧ ((¬ (st 8 (v1).toNatClampNeg) = 1 → vp_in v1 6 ∧ (vp_in v1 6 ∧ (w_X9_opensAt (st 7 (v1).toNatClampNeg) (st 6 (v1).toNatClampNeg) st (fun r98 st98 => w_X9_goesWeek_b101  c57 K v1 r98 v1 st98)))) ∧ ((st 8 (v1).toNatClampNeg) = 1 → w_X9_goesWeek_b101  c57 K v1 (-9) v1 st)))
def w_X9_goesWeek_L57   (K : St → Prop) : Nat → Int32 → St → Prop
  | 0, _, _ => False
  | n + 1, v1, st => w_X9_goesWeek_L57q   K (fun v1 st => w_X9_goesWeek_L57   K n v1 st) v1 st
def w_X9_goesWeek_b55   (K : St → Prop)  (st : St) : Prop :=
  ∃ n, w_X9_goesWeek_L57   K n 0 st
def w_X9_goesWeek_L17q   (K : St → Prop) (c17 : Int32 → St → Prop) (v1 : Int32) (st : St) : Prop :=
  ((st 0 8) ≤ v1 → w_X9_goesWeek_b55   K st) ∧ (¬ (st 0 8) ≤ v1 → ∃ n, w_X9_goesWeek_L29  c17 K n v1 (v1 + 1) st)
def w_X9_goesWeek_L17   (K : St → Prop) : Nat → Int32 → St → Prop
  | 0, _, _ => False
  | n + 1, v1, st => w_X9_goesWeek_L17q   K (fun v1 st => w_X9_goesWeek_L17   K n v1 st) v1 st
def w_X9_goesWeek  (st : St) (K : St → Prop) : Prop :=
  ∃ n, w_X9_goesWeek_L17   K n 0 (u2 (u2 st 0 10 ((st 0 10) + 1)) 0 25 0)
def w_X9_goesOn_L2q (x1 : Int32)  (K : St → Prop) (c2 : Int32 → St → Prop) (v2 : Int32) (st : St) : Prop :=
  (x1 ≤ v2 → K st) ∧ (¬ x1 ≤ v2 → w_X9_goesWeek  st (fun st8 => c2 (v2 + 1) st8))
def w_X9_goesOn_L2 (x1 : Int32)  (K : St → Prop) : Nat → Int32 → St → Prop
  | 0, _, _ => False
  | n + 1, v2, st => w_X9_goesOn_L2q x1  K (fun v2 st => w_X9_goesOn_L2 x1  K n v2 st) v2 st
def w_X9_goesOn (x1 : Int32) (st : St) (K : St → Prop) : Prop :=
  ∃ n, w_X9_goesOn_L2 x1  K n 0 st
def w_X9_comesWeeks (x1 : Int32) (st : St) (K : Int32 → St → Prop) : Prop :=
  w_X9_isIn x1 1 60 st (fun r4 st4 => (r4 = 0 → K 0 st4) ∧ (¬ r4 = 0 → (((st4 0 10) + x1) ≤ 999 → w_X9_goesOn x1 st4 (fun st26 => K 1 st26)) ∧ (¬ ((st4 0 10) + x1) ≤ 999 → K 0 st4)))
def w_X9_comes (x1 : Int32) (st : St) (K : Int32 → St → Prop) : Prop :=
  vp_in x1 48 ∧ (((st 10 (x1).toNatClampNeg) = 103 → vp_in (3 * x1) 144 ∧ (w_X9_isKeeper (st 12 ((3 * x1)).toNatClampNeg) st (fun r180 st180 => (r180 = 0 → K 0 st180) ∧ (¬ r180 = 0 → vp_in ((3 * x1) + 1) 144 ∧ (w_X9_isTown (st180 12 (((3 * x1) + 1)).toNatClampNeg) st180 (fun r194 st194 => (¬ r194 = 0 → vp_in (3 * x1) 144 ∧ (vp_in ((3 * x1) + 1) 144 ∧ (vp_in (st194 12 ((3 * x1)).toNatClampNeg) 6 ∧ (K 1 (u2 st194 4 ((st194 12 ((3 * x1)).toNatClampNeg)).toNatClampNeg (st194 12 (((3 * x1) + 1)).toNatClampNeg)))))) ∧ (r194 = 0 → K 0 st194))))))) ∧ (¬ (st 10 (x1).toNatClampNeg) = 103 → ((st 10 (x1).toNatClampNeg) = 104 → vp_in (3 * x1) 144 ∧ (vp_in ((3 * x1) + 1) 144 ∧ (w_X9_areTwo (st 12 ((3 * x1)).toNatClampNeg) (st 12 (((3 * x1) + 1)).toNatClampNeg) st (fun r118 st118 => (¬ r118 = 0 → vp_in (3 * x1) 144 ∧ (vp_in ((3 * x1) + 1) 144 ∧ (vp_in ((3 * x1) + 2) 144 ∧ (w_X9_sets (st118 12 ((3 * x1)).toNatClampNeg) (st118 12 (((3 * x1) + 1)).toNatClampNeg) (st118 12 (((3 * x1) + 2)).toNatClampNeg) st118 (fun st149 => K 1 st149))))) ∧ (r118 = 0 → K 0 st118))))) ∧ (¬ (st 10 (x1).toNatClampNeg) = 104 → ((st 10 (x1).toNatClampNeg) = 107 → vp_in (3 * x1) 144 ∧ (vp_in ((3 * x1) + 1) 144 ∧ (vp_in ((3 * x1) + 2) 144 ∧ (w_X9_comesKeeper (st 12 ((3 * x1)).toNatClampNeg) (st 12 (((3 * x1) + 1)).toNatClampNeg) (st 12 (((3 * x1) + 2)).toNatClampNeg) st (fun r99 st99 => (r99 = 0 ∨ r99 = 1) ∧ K r99 st99))))) ∧ (¬ (st 10 (x1).toNatClampNeg) = 107 → ((st 10 (x1).toNatClampNeg) = 108 → vp_in (3 * x1) 144 ∧ (vp_in ((3 * x1) + 1) 144 ∧ (w_X9_comesLetter (st 12 ((3 * x1)).toNatClampNeg) (st 12 (((3 * x1) + 1)).toNatClampNeg) st (fun r169 st169 => (r169 = 0 ∨ r169 = 1) ∧ K r169 st169)))) ∧ (¬ (st 10 (x1).toNatClampNeg) = 108 → ((st 10 (x1).toNatClampNeg) = 115 → vp_in (3 * x1) 144 ∧ (w_X9_isLetter (st 12 ((3 * x1)).toNatClampNeg) st (fun r230 st230 => (¬ r230 = 0 → vp_in (3 * x1) 144 ∧ (vp_in (3 * x1) 144 ∧ (vp_in (st230 12 ((3 * x1)).toNatClampNeg) 6 ∧ (vp_in (st230 12 ((3 * x1)).toNatClampNeg) 6 ∧ (K 1 (u2 st230 8 ((st230 12 ((3 * x1)).toNatClampNeg)).toNatClampNeg (1 - (st230 8 ((st230 12 ((3 * x1)).toNatClampNeg)).toNatClampNeg)))))))) ∧ (r230 = 0 → K 0 st230)))) ∧ (¬ (st 10 (x1).toNatClampNeg) = 115 → vp_in (3 * x1) 144 ∧ (w_X9_comesWeeks (st 12 ((3 * x1)).toNatClampNeg) st (fun r271 st271 => (r271 = 0 ∨ r271 = 1) ∧ K r271 st271))))))))
def w_X9_passes_b42 (k1 : Nat) (n1 : Nat) (c2 : Int32 → St → Prop) (K : St → Prop) (v2 : Int32) (st : St) : Prop :=
  c2 (v2 + 1) (u2 st 0 22 ((st 0 22) + 1))
def w_X9_passes_L2q (k1 : Nat) (n1 : Nat)  (K : St → Prop) (c2 : Int32 → St → Prop) (v2 : Int32) (st : St) : Prop :=
  ((nI n1) ≤ v2 → K st) ∧ (¬ (nI n1) ≤ v2 → ((st 0 21) = 0 → vp_in (st 0 22) 825 ∧ (vp_in v2 n1 ∧ (w_X9_passes_b42 k1 n1 c2 K v2 (u2 st k1 (v2).toNatClampNeg (st 13 ((st 0 22)).toNatClampNeg))))) ∧ (¬ (st 0 21) = 0 → vp_in v2 n1 ∧ (vp_in (st 0 22) 825 ∧ (w_X9_passes_b42 k1 n1 c2 K v2 (u2 st 13 ((st 0 22)).toNatClampNeg (st k1 (v2).toNatClampNeg))))))
def w_X9_passes_L2 (k1 : Nat) (n1 : Nat)  (K : St → Prop) : Nat → Int32 → St → Prop
  | 0, _, _ => False
  | n + 1, v2, st => w_X9_passes_L2q k1 n1  K (fun v2 st => w_X9_passes_L2 k1 n1  K n v2 st) v2 st
def w_X9_passes (k1 : Nat) (n1 : Nat) (st : St) (K : St → Prop) : Prop :=
  ∃ n, w_X9_passes_L2 k1 n1  K n 0 st
def w_X9_passOne_b38 (x1 : Int32)  (K : Int32 → St → Prop) (v2 : Int32) (st : St) : Prop :=
  K v2 (u2 st 0 22 ((st 0 22) + 1))
def w_X9_passOne_b20 (x1 : Int32)  (K : Int32 → St → Prop) (s0 : Int32) (st : St) : Prop :=
  ((st 0 21) = 0 → w_X9_passOne_b38 x1  K s0 st) ∧ (¬ (st 0 21) = 0 → vp_in (st 0 22) 825 ∧ (w_X9_passOne_b38 x1  K s0 (u2 st 13 ((st 0 22)).toNatClampNeg x1)))
def w_X9_passOne (x1 : Int32) (st : St) (K : Int32 → St → Prop) : Prop :=
  ((st 0 21) = 0 → vp_in (st 0 22) 825 ∧ (w_X9_passOne_b20 x1  K (st 13 ((st 0 22)).toNatClampNeg) st)) ∧ (¬ (st 0 21) = 0 → w_X9_passOne_b20 x1  K x1 st)
def w_X9_passesAll (x1 : Int32) (x2 : Int32) (st : St) (K : St → Prop) : Prop :=
  (x2 = 0 ∨ x2 = 1) ∧ (w_X9_passes 2 6 (u2 (u2 st 0 22 (75 * x1)) 0 21 x2) (fun st18 => w_X9_passes 3 6 st18 (fun st26 => w_X9_passes 4 6 st26 (fun st34 => w_X9_passes 5 36 st34 (fun st42 => w_X9_passes 6 6 st42 (fun st50 => w_X9_passes 7 6 st50 (fun st58 => w_X9_passes 8 6 st58 (fun st66 => w_X9_passOne (st66 0 8) st66 (fun r75 st75 => w_X9_passOne ((u2 st75 0 8 r75) 0 9) (u2 st75 0 8 r75) (fun r87 st87 => w_X9_passOne ((u2 st87 0 9 r87) 0 10) (u2 st87 0 9 r87) (fun r99 st99 => K (u2 st99 0 10 r99))))))))))))
def w_X9_land_b53  (c12 : Int32 → St → Prop) (K : Int32 → St → Prop) (v1 : Int32) (s0 : Int32) (s1 : Int32) (st : St) : Prop :=
  c12 v1 (u2 st 0 18 (s1 + s0))
def w_X9_land_b34  (c12 : Int32 → St → Prop) (K : Int32 → St → Prop)  (st : St) : Prop :=
  w_X9_statement  st (fun r35 st35 => (r35 = 0 → w_X9_land_b53  c12 K r35 0 (st35 0 18) st35) ∧ (¬ r35 = 0 → w_X9_land_b53  c12 K r35 1 (st35 0 18) st35))
def w_X9_land_b105   (K : Int32 → St → Prop) (v2 : Int32) (st : St) : Prop :=
  w_X9_passesAll 1 0 st (fun st108 => vp_in v2 48 ∧ (K ((-2000) - (st108 11 (v2).toNatClampNeg)) st108))
def w_X9_land_b128   (K : Int32 → St → Prop)  (st : St) : Prop :=
  K ((u2 st 0 23 0) 0 18) (u2 st 0 23 0)
def w_X9_land_L86q   (K : Int32 → St → Prop) (c86 : Int32 → St → Prop) (v2 : Int32) (st : St) : Prop :=
  ((st 0 18) ≤ v2 → w_X9_land_b128   K st) ∧ (¬ (st 0 18) ≤ v2 → w_X9_comes v2 st (fun r96 st96 => (r96 = 0 → w_X9_land_b105   K v2 st96) ∧ (¬ r96 = 0 → c86 (v2 + 1) st96)))
def w_X9_land_L86   (K : Int32 → St → Prop) : Nat → Int32 → St → Prop
  | 0, _, _ => False
  | n + 1, v2, st => w_X9_land_L86q   K (fun v2 st => w_X9_land_L86   K n v2 st) v2 st
def w_X9_land_b60   (K : Int32 → St → Prop) (v1 : Int32) (st : St) : Prop :=
  (¬ v1 = 0 → w_X9_passesAll 1 1 (u2 st 0 16 0) (fun st81 => ∃ n, w_X9_land_L86   K n 0 st81)) ∧ (v1 = 0 → K ((-1000) - ((u2 st 0 16 0) 0 17)) (u2 st 0 16 0))
def w_X9_land_L12q   (K : Int32 → St → Prop) (c12 : Int32 → St → Prop) (v1 : Int32) (st : St) : Prop :=
  (v1 = 0 → w_X9_land_b60   K v1 st) ∧ (¬ v1 = 0 → ((st 0 17) < (st 0 16) → w_X9_land_b34  c12 K st) ∧ (¬ (st 0 17) < (st 0 16) → (¬ (st 0 18) = 0 → w_X9_land_b60   K v1 st) ∧ ((st 0 18) = 0 → w_X9_land_b34  c12 K st)))
def w_X9_land_L12   (K : Int32 → St → Prop) : Nat → Int32 → St → Prop
  | 0, _, _ => False
  | n + 1, v1, st => w_X9_land_L12q   K (fun v1 st => w_X9_land_L12   K n v1 st) v1 st
def w_X9_land  (st : St) (K : Int32 → St → Prop) : Prop :=
  ∃ n, w_X9_land_L12   K n 1 (u2 (u2 st 0 17 0) 0 18 0)
def w_X9_thinks  (st : St) (K : St → Prop) : Prop :=
  w_X9_passesAll 2 1 st (fun st3 => K st3)
def w_X9_forgets  (st : St) (K : St → Prop) : Prop :=
  w_X9_passesAll 2 0 st (fun st3 => K st3)
def w_X9_changes  (st : St) (K : St → Prop) : Prop :=
  w_X9_passesAll 1 1 st (fun st3 => K st3)
def w_X9_changesBack  (st : St) (K : St → Prop) : Prop :=
  w_X9_passesAll 1 0 st (fun st3 => K st3)
def w_X9_keepsBack_b51   (K : St → Prop)  (st : St) : Prop :=
  w_X9_passesAll (3 + (st 0 23)) 1 st (fun st59 => K (u2 st59 0 23 ((st59 0 23) + 1)))
def w_X9_keepsBack_b41   (K : St → Prop)  (st : St) : Prop :=
  w_X9_keepsBack_b51   K (u2 st 0 23 ((st 0 23) - 1))
def w_X9_keepsBack_L13q   (K : St → Prop) (c13 : Int32 → St → Prop) (v1 : Int32) (st : St) : Prop :=
  (750 ≤ v1 → w_X9_keepsBack_b41   K st) ∧ (¬ 750 ≤ v1 → vp_in (v1 + 75) 825 ∧ (vp_in v1 825 ∧ (c13 (v1 + 1) (u2 st 13 (v1).toNatClampNeg (st 13 ((v1 + 75)).toNatClampNeg)))))
def w_X9_keepsBack_L13   (K : St → Prop) : Nat → Int32 → St → Prop
  | 0, _, _ => False
  | n + 1, v1, st => w_X9_keepsBack_L13q   K (fun v1 st => w_X9_keepsBack_L13   K n v1 st) v1 st
def w_X9_keepsBack  (st : St) (K : St → Prop) : Prop :=
  (¬ (st 0 23) = 8 → w_X9_keepsBack_b51   K st) ∧ ((st 0 23) = 8 → ∃ n, w_X9_keepsBack_L13   K n 225 st)
def w_X9_back  (st : St) (K : Int32 → St → Prop) : Prop :=
  (¬ (st 0 23) = 0 → w_X9_passesAll (3 + ((u2 st 0 23 ((st 0 23) - 1)) 0 23)) 0 (u2 st 0 23 ((st 0 23) - 1)) (fun st32 => K (st32 0 23) st32)) ∧ ((st 0 23) = 0 → w_X9_no (-3) st (fun r10 st10 => K r10 st10))
def w_X9_image  (st : St) (K : Int32 → St → Prop) : Prop :=
  w_X9_passesAll 0 1 (u2 st 0 20 1) (fun st8 => K (st8 0 10) st8)
def w_X9_restore  (st : St) (K : Int32 → St → Prop) : Prop :=
  (¬ (st 0 20) = 0 → w_X9_passesAll 0 0 st (fun st17 => K ((u2 st17 0 23 0) 0 10) (u2 st17 0 23 0))) ∧ ((st 0 20) = 0 → w_X9_no (-3) st (fun r10 st10 => K r10 st10))
def w_X9_payOf (x1 : Int32) (st : St) (K : Int32 → St → Prop) : Prop :=
  vp_in x1 6 ∧ (((st 2 (x1).toNatClampNeg) = 1 → vp_in x1 6 ∧ (K ((2 * (st 3 (x1).toNatClampNeg)) + 2) st)) ∧ (¬ (st 2 (x1).toNatClampNeg) = 1 → ((st 2 (x1).toNatClampNeg) = 2 → K 5 st) ∧ (¬ (st 2 (x1).toNatClampNeg) = 2 → ((st 2 (x1).toNatClampNeg) = 3 → K 0 st) ∧ (¬ (st 2 (x1).toNatClampNeg) = 3 → ((st 2 (x1).toNatClampNeg) = 4 → vp_in x1 6 ∧ (K ((2 * (st 3 (x1).toNatClampNeg)) + 1) st)) ∧ (¬ (st 2 (x1).toNatClampNeg) = 4 → ((st 2 (x1).toNatClampNeg) = 5 → K 2 st) ∧ (¬ (st 2 (x1).toNatClampNeg) = 5 → vp_in x1 6 ∧ (K ((st 3 (x1).toNatClampNeg) + 1) st)))))))
def w_X9_openOnes_L4q   (K : Int32 → St → Prop) (c4 : Int32 → Int32 → St → Prop) (v1 : Int32) (v2 : Int32) (st : St) : Prop :=
  ((st 0 9) ≤ v2 → K v1 st) ∧ (¬ (st 0 9) ≤ v2 → vp_in v2 6 ∧ (c4 (v1 ||| ((st 8 (v2).toNatClampNeg) <<< (v2 &&& 31))) (v2 + 1) st))
def w_X9_openOnes_L4   (K : Int32 → St → Prop) : Nat → Int32 → Int32 → St → Prop
  | 0, _, _, _ => False
  | n + 1, v1, v2, st => w_X9_openOnes_L4q   K (fun v1 v2 st => w_X9_openOnes_L4   K n v1 v2 st) v1 v2 st
def w_X9_openOnes  (st : St) (K : Int32 → St → Prop) : Prop :=
  ∃ n, w_X9_openOnes_L4   K n 0 0 st
def w_X9_allHate_b39  (c4 : Int32 → Int32 → St → Prop) (K : Int32 → St → Prop) (v1 : Int32) (v2 : Int32) (st : St) : Prop :=
  c4 v1 (v2 + 1) st
def w_X9_allHate_L16q  (c4 : Int32 → Int32 → St → Prop) (K : Int32 → St → Prop) (c16 : Int32 → Int32 → Int32 → St → Prop) (v1 : Int32) (v2 : Int32) (v3 : Int32) (st : St) : Prop :=
  ((st 0 8) ≤ v3 → w_X9_allHate_b39  c4 K v1 v2 st) ∧ (¬ (st 0 8) ≤ v3 → w_X9_hateOf v2 v3 st (fun r28 st28 => c16 (v1 + r28) v2 (v3 + 1) st28))
def w_X9_allHate_L16  (c4 : Int32 → Int32 → St → Prop) (K : Int32 → St → Prop) : Nat → Int32 → Int32 → Int32 → St → Prop
  | 0, _, _, _, _ => False
  | n + 1, v1, v2, v3, st => w_X9_allHate_L16q  c4 K (fun v1 v2 v3 st => w_X9_allHate_L16  c4 K n v1 v2 v3 st) v1 v2 v3 st
def w_X9_allHate_L4q   (K : Int32 → St → Prop) (c4 : Int32 → Int32 → St → Prop) (v1 : Int32) (v2 : Int32) (st : St) : Prop :=
  ((st 0 8) ≤ v2 → K v1 st) ∧ (¬ (st 0 8) ≤ v2 → ∃ n, w_X9_allHate_L16  c4 K n v1 v2 (v2 + 1) st)
def w_X9_allHate_L4   (K : Int32 → St → Prop) : Nat → Int32 → Int32 → St → Prop
  | 0, _, _, _ => False
  | n + 1, v1, v2, st => w_X9_allHate_L4q   K (fun v1 v2 st => w_X9_allHate_L4   K n v1 v2 st) v1 v2 st
def w_X9_allHate  (st : St) (K : Int32 → St → Prop) : Prop :=
  ∃ n, w_X9_allHate_L4   K n 0 0 st
def w_X9_keeperOf (x1 : Int32) (x2 : Int32) (st : St) (K : Int32 → St → Prop) : Prop :=
  w_X9_isKeeper x1 st (fun r2 st2 => (¬ r2 = 0 → (x2 = 0 → vp_in x1 6 ∧ (K (st2 2 (x1).toNatClampNeg) st2)) ∧ (¬ x2 = 0 → (x2 = 1 → vp_in x1 6 ∧ (K (st2 3 (x1).toNatClampNeg) st2)) ∧ (¬ x2 = 1 → (x2 = 2 → vp_in x1 6 ∧ (K (st2 4 (x1).toNatClampNeg) st2)) ∧ (¬ x2 = 2 → (x2 = 3 → w_X9_fadesOf x1 st2 (fun r75 st75 => K r75 st75)) ∧ (¬ x2 = 3 → (x2 = 4 → w_X9_stirsOf x1 st2 (fun r81 st81 => K r81 st81)) ∧ (¬ x2 = 4 → (x2 = 5 → w_X9_payOf x1 st2 (fun r87 st87 => K r87 st87)) ∧ (¬ x2 = 5 → w_X9_no (-2) st2 (fun r94 st94 => K r94 st94)))))))) ∧ (r2 = 0 → w_X9_no (-1) st2 (fun r10 st10 => K r10 st10)))
def w_X9_letterOf (x1 : Int32) (x2 : Int32) (st : St) (K : Int32 → St → Prop) : Prop :=
  w_X9_isLetter x1 st (fun r2 st2 => (¬ r2 = 0 → (x2 = 0 → vp_in x1 6 ∧ (K (st2 6 (x1).toNatClampNeg) st2)) ∧ (¬ x2 = 0 → (x2 = 1 → vp_in x1 6 ∧ (K (st2 7 (x1).toNatClampNeg) st2)) ∧ (¬ x2 = 1 → (x2 = 2 → vp_in x1 6 ∧ (K (st2 8 (x1).toNatClampNeg) st2)) ∧ (¬ x2 = 2 → (x2 = 3 → vp_in x1 6 ∧ (vp_in x1 6 ∧ (w_X9_opensAt (st2 7 (x1).toNatClampNeg) (st2 6 (x1).toNatClampNeg) st2 (fun r78 st78 => K r78 st78)))) ∧ (¬ x2 = 3 → w_X9_no (-2) st2 (fun r85 st85 => K r85 st85)))))) ∧ (r2 = 0 → w_X9_no (-1) st2 (fun r10 st10 => K r10 st10)))
def w_X9_hate (x1 : Int32) (x2 : Int32) (st : St) (K : Int32 → St → Prop) : Prop :=
  w_X9_areTwo x1 x2 st (fun r3 st3 => (r3 = 0 → w_X9_no (-1) st3 (fun r20 st20 => K r20 st20)) ∧ (¬ r3 = 0 → w_X9_hateOf x1 x2 st3 (fun r12 st12 => K r12 st12)))
def w_X9_keeper_b56 (x1 : Int32) (x2 : Int32) (x3 : Int32)  (K : Int32 → St → Prop) (v4 : Int32) (st : St) : Prop :=
  (v4 = 0 → w_X9_addsKeeper x1 x2 x3 (u2 st 0 23 0) (fun st77 => K ((st77 0 8) - 1) st77)) ∧ (¬ v4 = 0 → w_X9_no v4 st (fun r64 st64 => K r64 st64))
def w_X9_keeper_b41 (x1 : Int32) (x2 : Int32) (x3 : Int32)  (K : Int32 → St → Prop) (v4 : Int32) (st : St) : Prop :=
  (¬ v4 = 0 → w_X9_keeper_b56 x1 x2 x3  K v4 st) ∧ (v4 = 0 → w_X9_isTown x3 st (fun r47 st47 => (¬ r47 = 0 → w_X9_keeper_b56 x1 x2 x3  K v4 st47) ∧ (r47 = 0 → w_X9_keeper_b56 x1 x2 x3  K (-1) st47)))
def w_X9_keeper_b21 (x1 : Int32) (x2 : Int32) (x3 : Int32)  (K : Int32 → St → Prop) (s0 : Int32) (st : St) : Prop :=
  (¬ s0 = 0 → w_X9_keeper_b41 x1 x2 x3  K s0 st) ∧ (s0 = 0 → (¬ (st 0 8) = 6 → w_X9_keeper_b41 x1 x2 x3  K s0 st) ∧ ((st 0 8) = 6 → w_X9_keeper_b41 x1 x2 x3  K (-6) st))
def w_X9_keeper (x1 : Int32) (x2 : Int32) (x3 : Int32) (st : St) (K : Int32 → St → Prop) : Prop :=
  w_X9_isIn x1 0 5 st (fun r3 st3 => (¬ r3 = 0 → w_X9_bound x2 0 9 st3 (fun r18 st18 => w_X9_keeper_b21 x1 x2 x3  K r18 st18)) ∧ (r3 = 0 → w_X9_keeper_b21 x1 x2 x3  K (-2) st3))
def w_X9_letter_b35 (x1 : Int32) (x2 : Int32)  (K : Int32 → St → Prop) (v3 : Int32) (st : St) : Prop :=
  (v3 = 0 → w_X9_addsLetter x1 x2 (u2 st 0 23 0) (fun st53 => K ((st53 0 9) - 1) st53)) ∧ (¬ v3 = 0 → w_X9_no v3 st (fun r41 st41 => K r41 st41))
def w_X9_letter_b18 (x1 : Int32) (x2 : Int32)  (K : Int32 → St → Prop) (s0 : Int32) (st : St) : Prop :=
  (¬ s0 = 0 → w_X9_letter_b35 x1 x2  K s0 st) ∧ (s0 = 0 → (¬ (st 0 9) = 6 → w_X9_letter_b35 x1 x2  K s0 st) ∧ ((st 0 9) = 6 → w_X9_letter_b35 x1 x2  K (-6) st))
def w_X9_letter (x1 : Int32) (x2 : Int32) (st : St) (K : Int32 → St → Prop) : Prop :=
  w_X9_isTown x1 st (fun r1 st1 => (¬ r1 = 0 → w_X9_bound x2 0 99 st1 (fun r15 st15 => w_X9_letter_b18 x1 x2  K r15 st15)) ∧ (r1 = 0 → w_X9_letter_b18 x1 x2  K (-1) st1))
def w_X9_hates_b20 (x1 : Int32) (x2 : Int32) (x3 : Int32)  (K : Int32 → St → Prop) (s0 : Int32) (st : St) : Prop :=
  (s0 = 0 → w_X9_keepsBack  st (fun st35 => w_X9_hateOf x1 x2 st35 (fun r41 st41 => w_X9_sets x1 x2 x3 st41 (fun st50 => K r41 st50)))) ∧ (¬ s0 = 0 → w_X9_no s0 st (fun r30 st30 => K r30 st30))
def w_X9_hates (x1 : Int32) (x2 : Int32) (x3 : Int32) (st : St) (K : Int32 → St → Prop) : Prop :=
  w_X9_areTwo x1 x2 st (fun r3 st3 => (¬ r3 = 0 → w_X9_bound x3 0 99 st3 (fun r17 st17 => w_X9_hates_b20 x1 x2 x3  K r17 st17)) ∧ (r3 = 0 → w_X9_hates_b20 x1 x2 x3  K (-1) st3))
def w_X9_goes_b15 (x1 : Int32) (x2 : Int32)  (K : Int32 → St → Prop)  (st : St) : Prop :=
  w_X9_no (-1) st (fun r17 st17 => K r17 st17)
def w_X9_goes (x1 : Int32) (x2 : Int32) (st : St) (K : Int32 → St → Prop) : Prop :=
  w_X9_isKeeper x1 st (fun r2 st2 => (r2 = 0 → w_X9_goes_b15 x1 x2  K st2) ∧ (¬ r2 = 0 → w_X9_isTown x2 st2 (fun r9 st9 => (¬ r9 = 0 → w_X9_keepsBack  st9 (fun st22 => vp_in x1 6 ∧ (vp_in x1 6 ∧ (K (st22 4 (x1).toNatClampNeg) (u2 st22 4 (x1).toNatClampNeg x2))))) ∧ (r9 = 0 → w_X9_goes_b15 x1 x2  K st9))))
def w_X9_seals (x1 : Int32) (st : St) (K : Int32 → St → Prop) : Prop :=
  w_X9_isLetter x1 st (fun r2 st2 => (¬ r2 = 0 → w_X9_keepsBack  st2 (fun st15 => vp_in x1 6 ∧ (vp_in x1 6 ∧ (vp_in x1 6 ∧ (K ((u2 st15 8 (x1).toNatClampNeg (1 - (st15 8 (x1).toNatClampNeg))) 8 (x1).toNatClampNeg) (u2 st15 8 (x1).toNatClampNeg (1 - (st15 8 (x1).toNatClampNeg)))))))) ∧ (r2 = 0 → w_X9_no (-1) st2 (fun r10 st10 => K r10 st10)))
def w_X9_weeks_b27 (x1 : Int32)  (K : Int32 → St → Prop) (v2 : Int32) (st : St) : Prop :=
  (v2 = 0 → w_X9_keepsBack  st (fun st38 => w_X9_goesOn x1 st38 (fun st43 => w_X9_openOnes  st43 (fun r47 st47 => w_X9_bits r47 st47 (fun r50 st50 => K r50 st50))))) ∧ (¬ v2 = 0 → w_X9_no v2 st (fun r33 st33 => K r33 st33))
def w_X9_weeks (x1 : Int32) (st : St) (K : Int32 → St → Prop) : Prop :=
  w_X9_bound x1 1 60 st (fun r4 st4 => (¬ r4 = 0 → w_X9_weeks_b27 x1  K r4 st4) ∧ (r4 = 0 → (((st4 0 10) + x1) ≤ 999 → w_X9_weeks_b27 x1  K r4 st4) ∧ (¬ ((st4 0 10) + x1) ≤ 999 → w_X9_weeks_b27 x1  K (-6) st4)))
def w_X9_notWeeks (x0 : Int32) (st : St) (K : Int32 → St → Prop) : Prop :=
  w_X9_bound x0 0 60 st (fun r4 st4 => K r4 st4)
def w_X9_hateIn (x1 : Int32) (x2 : Int32) (x3 : Int32) (st : St) (K : Int32 → St → Prop) : Prop :=
  w_X9_thinks  st (fun st1 => w_X9_goesOn x3 st1 (fun st6 => w_X9_hateOf x1 x2 st6 (fun r12 st12 => w_X9_forgets  st12 (fun st18 => K r12 st18))))
def w_X9_openIn (x1 : Int32) (st : St) (K : Int32 → St → Prop) : Prop :=
  w_X9_thinks  st (fun st1 => w_X9_goesOn x1 st1 (fun st6 => w_X9_openOnes  st6 (fun r10 st10 => w_X9_forgets  st10 (fun st15 => K r10 st15))))
def w_X9_behind_b17 (x1 : Int32) (x2 : Int32) (x3 : Int32)  (K : Int32 → St → Prop) (s0 : Int32) (st : St) : Prop :=
  (s0 = 0 → w_X9_hateIn x1 x2 x3 st (fun r37 st37 => K r37 st37)) ∧ (¬ s0 = 0 → w_X9_no s0 st (fun r27 st27 => K r27 st27))
def w_X9_behind (x1 : Int32) (x2 : Int32) (x3 : Int32) (st : St) (K : Int32 → St → Prop) : Prop :=
  w_X9_areTwo x1 x2 st (fun r3 st3 => (¬ r3 = 0 → w_X9_notWeeks x3 st3 (fun r14 st14 => w_X9_behind_b17 x1 x2 x3  K r14 st14)) ∧ (r3 = 0 → w_X9_behind_b17 x1 x2 x3  K (-1) st3))
def w_X9_then_b21 (x1 : Int32) (x2 : Int32)  (K : Int32 → St → Prop) (v3 : Int32) (st : St) : Prop :=
  (v3 = 0 → (¬ x2 = 0 → w_X9_thinks  st (fun st42 => w_X9_goesOn x1 st42 (fun st47 => w_X9_allHate  st47 (fun r51 st51 => w_X9_forgets  st51 (fun st57 => K r51 st57))))) ∧ (x2 = 0 → w_X9_openIn x1 st (fun r37 st37 => K r37 st37))) ∧ (¬ v3 = 0 → w_X9_no v3 st (fun r27 st27 => K r27 st27))
def w_X9_then (x1 : Int32) (x2 : Int32) (st : St) (K : Int32 → St → Prop) : Prop :=
  w_X9_notWeeks x1 st (fun r1 st1 => (¬ r1 = 0 → w_X9_then_b21 x1 x2  K r1 st1) ∧ (r1 = 0 → w_X9_isIn x2 0 1 st1 (fun r12 st12 => (¬ r12 = 0 → w_X9_then_b21 x1 x2  K r1 st12) ∧ (r12 = 0 → w_X9_then_b21 x1 x2  K (-2) st12))))
def w_X9_whenOf_b65 (x1 : Int32) (c27 : Int32 → Int32 → St → Prop) (K : Int32 → St → Prop) (v2 : Int32) (v3 : Int32) (st : St) : Prop :=
  c27 v2 (v3 + 1) st
def w_X9_whenOf_b71 (x1 : Int32)  (K : Int32 → St → Prop) (v2 : Int32) (st : St) : Prop :=
  w_X9_forgets  st (fun st72 => K v2 st72)
def w_X9_whenOf_L27q (x1 : Int32)  (K : Int32 → St → Prop) (c27 : Int32 → Int32 → St → Prop) (v2 : Int32) (v3 : Int32) (st : St) : Prop :=
  (60 < v3 → w_X9_whenOf_b71 x1  K v2 st) ∧ (¬ 60 < v3 → (0 ≤ v2 → w_X9_whenOf_b71 x1  K v2 st) ∧ (¬ 0 ≤ v2 → w_X9_goesWeek  st (fun st38 => vp_in x1 6 ∧ ((¬ (st38 8 (x1).toNatClampNeg) = 0 → vp_in x1 6 ∧ (w_X9_whenOf_b65 x1 c27 K v3 v3 (u2 st38 0 26 (st38 14 (x1).toNatClampNeg)))) ∧ ((st38 8 (x1).toNatClampNeg) = 0 → w_X9_whenOf_b65 x1 c27 K v2 v3 st38)))))
def w_X9_whenOf_L27 (x1 : Int32)  (K : Int32 → St → Prop) : Nat → Int32 → Int32 → St → Prop
  | 0, _, _, _ => False
  | n + 1, v2, v3, st => w_X9_whenOf_L27q x1  K (fun v2 v3 st => w_X9_whenOf_L27 x1  K n v2 v3 st) v2 v3 st
def w_X9_whenOf (x1 : Int32) (st : St) (K : Int32 → St → Prop) : Prop :=
  vp_in x1 6 ∧ ((¬ ((u2 st 0 26 (-9)) 8 (x1).toNatClampNeg) = 1 → w_X9_thinks  (u2 st 0 26 (-9)) (fun st19 => ∃ n, w_X9_whenOf_L27 x1  K n (-9) 1 st19)) ∧ (((u2 st 0 26 (-9)) 8 (x1).toNatClampNeg) = 1 → K 0 (u2 st 0 26 (-9))))
def w_X9_when_b27 (x1 : Int32) (x2 : Int32)  (K : Int32 → St → Prop) (s0 : Int32) (st : St) : Prop :=
  (s0 = 0 → w_X9_whenOf x1 st (fun r40 st40 => (¬ x2 = 0 → K (st40 0 26) st40) ∧ (x2 = 0 → K r40 st40))) ∧ (¬ s0 = 0 → w_X9_no s0 st (fun r34 st34 => K r34 st34))
def w_X9_when (x1 : Int32) (x2 : Int32) (st : St) (K : Int32 → St → Prop) : Prop :=
  w_X9_isLetter x1 st (fun r2 st2 => (¬ r2 = 0 → w_X9_isIn x2 0 1 st2 (fun r15 st15 => (¬ r15 = 0 → w_X9_when_b27 x1 x2  K 0 st15) ∧ (r15 = 0 → w_X9_when_b27 x1 x2  K (-2) st15))) ∧ (r2 = 0 → w_X9_when_b27 x1 x2  K (-1) st2))
def w_X9_lasts_b74 (x1 : Int32) (x2 : Int32) (x3 : Int32) (c45 : Int32 → Int32 → St → Prop) (K : Int32 → St → Prop) (v6 : Int32) (s0 : Int32) (st : St) : Prop :=
  w_X9_goesWeek  st (fun st77 => c45 s0 (v6 + 1) st77)
def w_X9_lasts_b86 (x1 : Int32) (x2 : Int32) (x3 : Int32)  (K : Int32 → St → Prop) (v5 : Int32) (st : St) : Prop :=
  w_X9_forgets  st (fun st87 => K v5 st87)
def w_X9_lasts_L45q (x1 : Int32) (x2 : Int32) (x3 : Int32)  (K : Int32 → St → Prop) (c45 : Int32 → Int32 → St → Prop) (v5 : Int32) (v6 : Int32) (st : St) : Prop :=
  (60 < v6 → w_X9_lasts_b86 x1 x2 x3  K v5 st) ∧ (¬ 60 < v6 → (0 ≤ v5 → w_X9_lasts_b86 x1 x2 x3  K v5 st) ∧ (¬ 0 ≤ v5 → w_X9_hateOf x1 x2 st (fun r60 st60 => (x3 ≤ r60 → w_X9_lasts_b74 x1 x2 x3 c45 K v6 (-9) st60) ∧ (¬ x3 ≤ r60 → w_X9_lasts_b74 x1 x2 x3 c45 K v6 v6 st60))))
def w_X9_lasts_L45 (x1 : Int32) (x2 : Int32) (x3 : Int32)  (K : Int32 → St → Prop) : Nat → Int32 → Int32 → St → Prop
  | 0, _, _, _ => False
  | n + 1, v5, v6, st => w_X9_lasts_L45q x1 x2 x3  K (fun v5 v6 st => w_X9_lasts_L45 x1 x2 x3  K n v5 v6 st) v5 v6 st
def w_X9_lasts_b20 (x1 : Int32) (x2 : Int32) (x3 : Int32)  (K : Int32 → St → Prop) (s0 : Int32) (st : St) : Prop :=
  (s0 = 0 → w_X9_thinks  st (fun st35 => ∃ n, w_X9_lasts_L45 x1 x2 x3  K n (-9) 0 st35)) ∧ (¬ s0 = 0 → w_X9_no s0 st (fun r30 st30 => K r30 st30))
def w_X9_lasts (x1 : Int32) (x2 : Int32) (x3 : Int32) (st : St) (K : Int32 → St → Prop) : Prop :=
  w_X9_areTwo x1 x2 st (fun r3 st3 => (¬ r3 = 0 → w_X9_bound x3 0 99 st3 (fun r17 st17 => w_X9_lasts_b20 x1 x2 x3  K r17 st17)) ∧ (r3 = 0 → w_X9_lasts_b20 x1 x2 x3  K (-1) st3))
def w_X9_firstOne_b42  (c8 : Int32 → Int32 → Int32 → St → Prop) (K : Int32 → St → Prop) (v1 : Int32) (v2 : Int32) (v3 : Int32) (st : St) : Prop :=
  c8 v1 v2 (v3 + 1) st
def w_X9_firstOne_L8q   (K : Int32 → St → Prop) (c8 : Int32 → Int32 → Int32 → St → Prop) (v1 : Int32) (v2 : Int32) (v3 : Int32) (st : St) : Prop :=
  ((st 0 9) ≤ v3 → K v1 st) ∧ (¬ (st 0 9) ≤ v3 → w_X9_whenOf v3 st (fun r18 st18 => (r18 ≤ 0 → w_X9_firstOne_b42  c8 K v1 v2 v3 st18) ∧ (¬ r18 ≤ 0 → (r18 < v2 → w_X9_firstOne_b42  c8 K v3 r18 v3 st18) ∧ (¬ r18 < v2 → w_X9_firstOne_b42  c8 K v1 v2 v3 st18))))
def w_X9_firstOne_L8   (K : Int32 → St → Prop) : Nat → Int32 → Int32 → Int32 → St → Prop
  | 0, _, _, _, _ => False
  | n + 1, v1, v2, v3, st => w_X9_firstOne_L8q   K (fun v1 v2 v3 st => w_X9_firstOne_L8   K n v1 v2 v3 st) v1 v2 v3 st
def w_X9_firstOne  (st : St) (K : Int32 → St → Prop) : Prop :=
  ∃ n, w_X9_firstOne_L8   K n (-9) 61 0 st
def w_X9_never (x1 : Int32) (st : St) (K : Int32 → St → Prop) : Prop :=
  w_X9_isIn x1 0 1 st (fun r3 st3 => (¬ r3 = 0 → (¬ x1 = 0 → w_X9_firstOne  st3 (fun r41 st41 => K r41 st41)) ∧ (x1 = 0 → w_X9_openIn 60 st3 (fun r31 st31 => K ((((1 : Int32) <<< ((st3 0 9) &&& 31)) - 1) &&& (r31 ^^^ (-1))) st31))) ∧ (r3 = 0 → w_X9_no (-2) st3 (fun r12 st12 => K r12 st12)))
def w_X9_isOpenedBy_b52 (x1 : Int32) (x2 : Int32) (x3 : Int32)  (K : Int32 → St → Prop) (s0 : Int32) (st : St) : Prop :=
  w_X9_forgets  st (fun st55 => (s0 = 0 ∨ s0 = 1) ∧ K s0 st55)
def w_X9_isOpenedBy_b51 (x1 : Int32) (x2 : Int32) (x3 : Int32)  (K : Int32 → St → Prop)  (st : St) : Prop :=
  w_X9_isOpenedBy_b52 x1 x2 x3  K 0 st
def w_X9_isOpenedBy_b44 (x1 : Int32) (x2 : Int32) (x3 : Int32)  (K : Int32 → St → Prop) (s0 : Int32) (s1 : Int32) (st : St) : Prop :=
  (¬ s1 = s0 → w_X9_isOpenedBy_b51 x1 x2 x3  K st) ∧ (s1 = s0 → w_X9_isOpenedBy_b52 x1 x2 x3  K 1 st)
def w_X9_isOpenedBy (x1 : Int32) (x2 : Int32) (x3 : Int32) (st : St) (K : Int32 → St → Prop) : Prop :=
  w_X9_thinks  st (fun st1 => w_X9_goesWeek  st1 (fun st5 => vp_in x3 6 ∧ ((¬ (st5 8 (x3).toNatClampNeg) = 1 → w_X9_isOpenedBy_b51 x1 x2 x3  K st5) ∧ ((st5 8 (x3).toNatClampNeg) = 1 → vp_in x3 6 ∧ ((x2 ≤ x1 → w_X9_isOpenedBy_b44 x1 x2 x3  K ((10 * x2) + x1) (st5 14 (x3).toNatClampNeg) st5) ∧ (¬ x2 ≤ x1 → w_X9_isOpenedBy_b44 x1 x2 x3  K ((10 * x1) + x2) (st5 14 (x3).toNatClampNeg) st5))))))
def w_X9_insult_b112 (x1 : Int32) (x2 : Int32) (x3 : Int32) (c66 : Int32 → Int32 → Int32 → St → Prop) (K : Int32 → St → Prop) (v5 : Int32) (v7 : Int32) (s0 : Int32) (st : St) : Prop :=
  c66 v5 s0 (v7 + 1) st
def w_X9_insult_b120 (x1 : Int32) (x2 : Int32) (x3 : Int32)  (K : Int32 → St → Prop) (v5 : Int32) (v6 : Int32) (st : St) : Prop :=
  w_X9_sets x1 x2 v5 st (fun st125 => K v6 st125)
def w_X9_insult_L66q (x1 : Int32) (x2 : Int32) (x3 : Int32)  (K : Int32 → St → Prop) (c66 : Int32 → Int32 → Int32 → St → Prop) (v5 : Int32) (v6 : Int32) (v7 : Int32) (st : St) : Prop :=
  (99 < v7 → w_X9_insult_b120 x1 x2 x3  K v5 v6 st) ∧ (¬ 99 < v7 → (0 ≤ v6 → w_X9_insult_b120 x1 x2 x3  K v5 v6 st) ∧ (¬ 0 ≤ v6 → w_X9_held (v5 + v7) 0 99 st (fun r89 st89 => w_X9_sets x1 x2 r89 st89 (fun st92 => w_X9_isOpenedBy x1 x2 x3 st92 (fun r99 st99 => (r99 = 0 → w_X9_insult_b112 x1 x2 x3 c66 K v5 v7 (-9) st99) ∧ (¬ r99 = 0 → w_X9_insult_b112 x1 x2 x3 c66 K v5 v7 v7 st99))))))
def w_X9_insult_L66 (x1 : Int32) (x2 : Int32) (x3 : Int32)  (K : Int32 → St → Prop) : Nat → Int32 → Int32 → Int32 → St → Prop
  | 0, _, _, _, _ => False
  | n + 1, v5, v6, v7, st => w_X9_insult_L66q x1 x2 x3  K (fun v5 v6 v7 st => w_X9_insult_L66 x1 x2 x3  K n v5 v6 v7 st) v5 v6 v7 st
def w_X9_insult_b37 (x1 : Int32) (x2 : Int32) (x3 : Int32)  (K : Int32 → St → Prop) (s0 : Int32) (st : St) : Prop :=
  (s0 = 0 → w_X9_hateOf x1 x2 st (fun r54 st54 => ∃ n, w_X9_insult_L66 x1 x2 x3  K n r54 (-9) 0 st54)) ∧ (¬ s0 = 0 → w_X9_no s0 st (fun r47 st47 => K r47 st47))
def w_X9_insult_b17 (x1 : Int32) (x2 : Int32) (x3 : Int32)  (K : Int32 → St → Prop)  (st : St) : Prop :=
  w_X9_insult_b37 x1 x2 x3  K (-1) st
def w_X9_insult (x1 : Int32) (x2 : Int32) (x3 : Int32) (st : St) (K : Int32 → St → Prop) : Prop :=
  w_X9_areTwo x1 x2 st (fun r3 st3 => (r3 = 0 → w_X9_insult_b17 x1 x2 x3  K st3) ∧ (¬ r3 = 0 → w_X9_isLetter x3 st3 (fun r11 st11 => (¬ r11 = 0 → vp_in x3 6 ∧ ((¬ (st11 8 (x3).toNatClampNeg) = 1 → w_X9_insult_b37 x1 x2 x3  K 0 st11) ∧ ((st11 8 (x3).toNatClampNeg) = 1 → w_X9_insult_b37 x1 x2 x3  K (-3) st11))) ∧ (r11 = 0 → w_X9_insult_b17 x1 x2 x3  K st11))))
def w_X9_manyAt (x1 : Int32) (x2 : Int32) (x3 : Int32) (st : St) (K : Int32 → St → Prop) : Prop :=
  vp_in x1 6 ∧ (vp_in x1 6 ∧ (w_X9_openIn x3 (u2 st 4 (x1).toNatClampNeg x2) (fun r17 st17 => w_X9_bits r17 st17 (fun r20 st20 => vp_in x1 6 ∧ (K r20 (u2 st20 4 (x1).toNatClampNeg (st 4 (x1).toNatClampNeg)))))))
def w_X9_send_b100 (x1 : Int32) (c31 : Int32 → Int32 → Int32 → St → Prop) (c43 : Int32 → Int32 → Int32 → Int32 → St → Prop) (K : Int32 → St → Prop) (v3 : Int32) (v4 : Int32) (v5 : Int32) (v6 : Int32) (st : St) : Prop :=
  c43 v3 v4 v5 (v6 + 1) st
def w_X9_send_b75 (x1 : Int32) (c31 : Int32 → Int32 → Int32 → St → Prop) (c43 : Int32 → Int32 → Int32 → Int32 → St → Prop) (K : Int32 → St → Prop) (v3 : Int32) (v4 : Int32) (v5 : Int32) (v6 : Int32) (s0 : Int32) (st : St) : Prop :=
  (v4 < s0 → w_X9_send_b100 x1 c31 c43 K ((10 * v5) + v6) s0 v5 v6 st) ∧ (¬ v4 < s0 → w_X9_send_b100 x1 c31 c43 K v3 v4 v5 v6 st)
def w_X9_send_b106 (x1 : Int32) (c31 : Int32 → Int32 → Int32 → St → Prop) (K : Int32 → St → Prop) (v3 : Int32) (v4 : Int32) (v5 : Int32) (st : St) : Prop :=
  c31 v3 v4 (v5 + 1) st
def w_X9_send_L43q (x1 : Int32) (c31 : Int32 → Int32 → Int32 → St → Prop) (K : Int32 → St → Prop) (c43 : Int32 → Int32 → Int32 → Int32 → St → Prop) (v3 : Int32) (v4 : Int32) (v5 : Int32) (v6 : Int32) (st : St) : Prop :=
  (4 ≤ v6 → w_X9_send_b106 x1 c31 K v3 v4 v5 st) ∧ (¬ 4 ≤ v6 → vp_in v5 6 ∧ ((¬ v6 = (st 4 (v5).toNatClampNeg) → w_X9_manyAt v5 v6 x1 st (fun r72 st72 => w_X9_send_b75 x1 c31 c43 K v3 v4 v5 v6 r72 st72)) ∧ (v6 = (st 4 (v5).toNatClampNeg) → w_X9_send_b75 x1 c31 c43 K v3 v4 v5 v6 (-9) st)))
def w_X9_send_L43 (x1 : Int32) (c31 : Int32 → Int32 → Int32 → St → Prop) (K : Int32 → St → Prop) : Nat → Int32 → Int32 → Int32 → Int32 → St → Prop
  | 0, _, _, _, _, _ => False
  | n + 1, v3, v4, v5, v6, st => w_X9_send_L43q x1 c31 K (fun v3 v4 v5 v6 st => w_X9_send_L43 x1 c31 K n v3 v4 v5 v6 st) v3 v4 v5 v6 st
def w_X9_send_L31q (x1 : Int32)  (K : Int32 → St → Prop) (c31 : Int32 → Int32 → Int32 → St → Prop) (v3 : Int32) (v4 : Int32) (v5 : Int32) (st : St) : Prop :=
  ((st 0 8) ≤ v5 → K v3 st) ∧ (¬ (st 0 8) ≤ v5 → ∃ n, w_X9_send_L43 x1 c31 K n v3 v4 v5 0 st)
def w_X9_send_L31 (x1 : Int32)  (K : Int32 → St → Prop) : Nat → Int32 → Int32 → Int32 → St → Prop
  | 0, _, _, _, _ => False
  | n + 1, v3, v4, v5, st => w_X9_send_L31q x1  K (fun v3 v4 v5 st => w_X9_send_L31 x1  K n v3 v4 v5 st) v3 v4 v5 st
def w_X9_send (x1 : Int32) (st : St) (K : Int32 → St → Prop) : Prop :=
  w_X9_notWeeks x1 st (fun r1 st1 => (r1 = 0 → w_X9_openIn x1 st1 (fun r20 st20 => w_X9_bits r20 st20 (fun r23 st23 => ∃ n, w_X9_send_L31 x1  K n (-9) r23 0 st23))) ∧ (¬ r1 = 0 → w_X9_no r1 st1 (fun r11 st11 => K r11 st11)))
def w_X9_places_b174 (x1 : Int32) (x2 : Int32) (x3 : Int32) (x4 : Int32) (x5 : Int32) (c84 : Int32 → Int32 → Int32 → St → Prop) (K : Int32 → St → Prop) (v7 : Int32) (v8 : Int32) (v9 : Int32) (st : St) : Prop :=
  c84 v7 v8 (v9 + 1) st
def w_X9_places_b180 (x1 : Int32) (x2 : Int32) (x3 : Int32) (x4 : Int32) (x5 : Int32)  (K : Int32 → St → Prop) (v7 : Int32) (v8 : Int32) (st : St) : Prop :=
  w_X9_changesBack  st (fun st181 => (¬ x5 = 0 → K v8 st181) ∧ (x5 = 0 → K v7 st181))
def w_X9_places_L84q (x1 : Int32) (x2 : Int32) (x3 : Int32) (x4 : Int32) (x5 : Int32)  (K : Int32 → St → Prop) (c84 : Int32 → Int32 → Int32 → St → Prop) (v7 : Int32) (v8 : Int32) (v9 : Int32) (st : St) : Prop :=
  (64 ≤ v9 → w_X9_places_b180 x1 x2 x3 x4 x5  K v7 v8 st) ∧ (¬ 64 ≤ v9 → vp_in x1 6 ∧ (vp_in x2 6 ∧ (vp_in x3 6 ∧ (w_X9_openIn x4 (u2 (u2 (u2 st 4 (x1).toNatClampNeg (v9 / 16)) 4 (x2).toNatClampNeg ((v9 / 4) - (v9 / 4) / 4 * 4)) 4 (x3).toNatClampNeg (v9 - v9 / 4 * 4)) (fun r127 st127 => w_X9_bits r127 st127 (fun r130 st130 => (v8 < r130 → w_X9_places_b174 x1 x2 x3 x4 x5 c84 K (((100 * (v9 / 16)) + (10 * ((v9 / 4) - (v9 / 4) / 4 * 4))) + (v9 - v9 / 4 * 4)) r130 v9 st130) ∧ (¬ v8 < r130 → w_X9_places_b174 x1 x2 x3 x4 x5 c84 K v7 v8 v9 st130)))))))
def w_X9_places_L84 (x1 : Int32) (x2 : Int32) (x3 : Int32) (x4 : Int32) (x5 : Int32)  (K : Int32 → St → Prop) : Nat → Int32 → Int32 → Int32 → St → Prop
  | 0, _, _, _, _ => False
  | n + 1, v7, v8, v9, st => w_X9_places_L84q x1 x2 x3 x4 x5  K (fun v7 v8 v9 st => w_X9_places_L84 x1 x2 x3 x4 x5  K n v7 v8 v9 st) v7 v8 v9 st
def w_X9_places_b57 (x1 : Int32) (x2 : Int32) (x3 : Int32) (x4 : Int32) (x5 : Int32)  (K : Int32 → St → Prop) (v6 : Int32) (st : St) : Prop :=
  (v6 = 0 → w_X9_changes  st (fun st78 => ∃ n, w_X9_places_L84 x1 x2 x3 x4 x5  K n (-9) (-9) 0 st78)) ∧ (¬ v6 = 0 → w_X9_no v6 st (fun r65 st65 => K r65 st65))
def w_X9_places_b36 (x1 : Int32) (x2 : Int32) (x3 : Int32) (x4 : Int32) (x5 : Int32)  (K : Int32 → St → Prop) (s0 : Int32) (st : St) : Prop :=
  (¬ s0 = 0 → w_X9_places_b57 x1 x2 x3 x4 x5  K s0 st) ∧ (s0 = 0 → w_X9_isIn x5 0 1 st (fun r47 st47 => (¬ r47 = 0 → w_X9_places_b57 x1 x2 x3 x4 x5  K s0 st47) ∧ (r47 = 0 → w_X9_places_b57 x1 x2 x3 x4 x5  K (-2) st47)))
def w_X9_places_b27 (x1 : Int32) (x2 : Int32) (x3 : Int32) (x4 : Int32) (x5 : Int32)  (K : Int32 → St → Prop)  (st : St) : Prop :=
  w_X9_places_b36 x1 x2 x3 x4 x5  K (-1) st
def w_X9_places (x1 : Int32) (x2 : Int32) (x3 : Int32) (x4 : Int32) (x5 : Int32) (st : St) (K : Int32 → St → Prop) : Prop :=
  w_X9_areTwo x1 x2 st (fun r3 st3 => (r3 = 0 → w_X9_places_b27 x1 x2 x3 x4 x5  K st3) ∧ (¬ r3 = 0 → w_X9_areTwo x1 x3 st3 (fun r12 st12 => (r12 = 0 → w_X9_places_b27 x1 x2 x3 x4 x5  K st12) ∧ (¬ r12 = 0 → w_X9_areTwo x2 x3 st12 (fun r21 st21 => (¬ r21 = 0 → w_X9_notWeeks x4 st21 (fun r33 st33 => w_X9_places_b36 x1 x2 x3 x4 x5  K r33 st33)) ∧ (r21 = 0 → w_X9_places_b27 x1 x2 x3 x4 x5  K st21))))))
def w_X9_manyBy (x1 : Int32) (x2 : Int32) (st : St) (K : Int32 → St → Prop) : Prop :=
  w_X9_openIn x2 (u2 st 0 11 (x1 ^^^ (-1))) (fun r9 st9 => w_X9_bits r9 st9 (fun r12 st12 => K r12 (u2 st12 0 11 0)))
def w_X9_payOfAll_b30 (x1 : Int32) (c4 : Int32 → Int32 → St → Prop) (K : Int32 → St → Prop) (v3 : Int32) (s0 : Int32) (s1 : Int32) (st : St) : Prop :=
  c4 (s1 + s0) (v3 + 1) st
def w_X9_payOfAll_L4q (x1 : Int32)  (K : Int32 → St → Prop) (c4 : Int32 → Int32 → St → Prop) (v2 : Int32) (v3 : Int32) (st : St) : Prop :=
  ((st 0 8) ≤ v3 → K v2 st) ∧ (¬ (st 0 8) ≤ v3 → w_X9_has x1 v3 st (fun r15 st15 => (r15 = 0 → w_X9_payOfAll_b30 x1 c4 K v3 0 v2 st15) ∧ (¬ r15 = 0 → w_X9_payOf v3 st15 (fun r23 st23 => w_X9_payOfAll_b30 x1 c4 K v3 r23 v2 st23))))
def w_X9_payOfAll_L4 (x1 : Int32)  (K : Int32 → St → Prop) : Nat → Int32 → Int32 → St → Prop
  | 0, _, _, _ => False
  | n + 1, v2, v3, st => w_X9_payOfAll_L4q x1  K (fun v2 v3 st => w_X9_payOfAll_L4 x1  K n v2 v3 st) v2 v3 st
def w_X9_payOfAll (x1 : Int32) (st : St) (K : Int32 → St → Prop) : Prop :=
  ∃ n, w_X9_payOfAll_L4 x1  K n 0 0 st
def w_X9_fewest_b89 (x1 : Int32) (x2 : Int32) (c55 : Int32 → Int32 → Int32 → St → Prop) (K : Int32 → St → Prop) (v4 : Int32) (v5 : Int32) (v6 : Int32) (st : St) : Prop :=
  c55 v4 v5 (v6 + (-1)) st
def w_X9_fewest_b95 (x1 : Int32) (x2 : Int32)  (K : Int32 → St → Prop) (v5 : Int32) (st : St) : Prop :=
  (¬ x2 = 0 → w_X9_payOfAll v5 st (fun r107 st107 => K r107 st107)) ∧ (x2 = 0 → K v5 st)
def w_X9_fewest_L55q (x1 : Int32) (x2 : Int32)  (K : Int32 → St → Prop) (c55 : Int32 → Int32 → Int32 → St → Prop) (v4 : Int32) (v5 : Int32) (v6 : Int32) (st : St) : Prop :=
  (v6 < 0 → w_X9_fewest_b95 x1 x2  K v5 st) ∧ (¬ v6 < 0 → w_X9_bits v6 st (fun r62 st62 => w_X9_bits v5 st62 (fun r67 st67 => (r67 < r62 → w_X9_fewest_b89 x1 x2 c55 K v4 v5 v6 st67) ∧ (¬ r67 < r62 → w_X9_manyBy v6 x1 st67 (fun r77 st77 => (r77 < v4 → w_X9_fewest_b89 x1 x2 c55 K v4 v5 v6 st77) ∧ (¬ r77 < v4 → w_X9_fewest_b89 x1 x2 c55 K v4 v6 v6 st77))))))
def w_X9_fewest_L55 (x1 : Int32) (x2 : Int32)  (K : Int32 → St → Prop) : Nat → Int32 → Int32 → Int32 → St → Prop
  | 0, _, _, _, _ => False
  | n + 1, v4, v5, v6, st => w_X9_fewest_L55q x1 x2  K (fun v4 v5 v6 st => w_X9_fewest_L55 x1 x2  K n v4 v5 v6 st) v4 v5 v6 st
def w_X9_fewest_b21 (x1 : Int32) (x2 : Int32)  (K : Int32 → St → Prop) (v3 : Int32) (st : St) : Prop :=
  (v3 = 0 → w_X9_openIn x1 st (fun r33 st33 => w_X9_bits r33 st33 (fun r36 st36 => ∃ n, w_X9_fewest_L55 x1 x2  K n r36 (((1 : Int32) <<< ((st36 0 8) &&& 31)) - 1) (((1 : Int32) <<< ((st36 0 8) &&& 31)) - 1) st36))) ∧ (¬ v3 = 0 → w_X9_no v3 st (fun r27 st27 => K r27 st27))
def w_X9_fewest (x1 : Int32) (x2 : Int32) (st : St) (K : Int32 → St → Prop) : Prop :=
  w_X9_notWeeks x1 st (fun r1 st1 => (¬ r1 = 0 → w_X9_fewest_b21 x1 x2  K r1 st1) ∧ (r1 = 0 → w_X9_isIn x2 0 1 st1 (fun r12 st12 => (¬ r12 = 0 → w_X9_fewest_b21 x1 x2  K r1 st12) ∧ (r12 = 0 → w_X9_fewest_b21 x1 x2  K (-2) st12))))
def w_X9_keepersIn_b30 (x1 : Int32) (c4 : Int32 → Int32 → St → Prop) (K : Int32 → St → Prop) (v3 : Int32) (s0 : Int32) (s1 : Int32) (st : St) : Prop :=
  c4 (s1 ||| s0) (v3 + 1) st
def w_X9_keepersIn_L4q (x1 : Int32)  (K : Int32 → St → Prop) (c4 : Int32 → Int32 → St → Prop) (v2 : Int32) (v3 : Int32) (st : St) : Prop :=
  ((st 0 8) ≤ v3 → K v2 st) ∧ (¬ (st 0 8) ≤ v3 → vp_in v3 6 ∧ ((¬ (st 4 (v3).toNatClampNeg) = x1 → w_X9_keepersIn_b30 x1 c4 K v3 0 v2 st) ∧ ((st 4 (v3).toNatClampNeg) = x1 → w_X9_keepersIn_b30 x1 c4 K v3 ((1 : Int32) <<< (v3 &&& 31)) v2 st)))
def w_X9_keepersIn_L4 (x1 : Int32)  (K : Int32 → St → Prop) : Nat → Int32 → Int32 → St → Prop
  | 0, _, _, _ => False
  | n + 1, v2, v3, st => w_X9_keepersIn_L4q x1  K (fun v2 v3 st => w_X9_keepersIn_L4 x1  K n v2 v3 st) v2 v3 st
def w_X9_keepersIn (x1 : Int32) (st : St) (K : Int32 → St → Prop) : Prop :=
  ∃ n, w_X9_keepersIn_L4 x1  K n 0 0 st
def w_X9_pay_b47 (x1 : Int32) (x2 : Int32)  (K : Int32 → St → Prop) (s0 : Int32) (s2 : Int32) (st : St) : Prop :=
  w_X9_payOfAll s0 st (fun r47 st47 => K (s2 * r47) st47)
def w_X9_pay_b20 (x1 : Int32) (x2 : Int32)  (K : Int32 → St → Prop) (s0 : Int32) (st : St) : Prop :=
  (s0 = 0 → (0 ≤ x1 → w_X9_keepersIn x1 st (fun r44 st44 => w_X9_pay_b47 x1 x2  K r44 x2 st44)) ∧ (¬ 0 ≤ x1 → w_X9_pay_b47 x1 x2  K 63 x2 st)) ∧ (¬ s0 = 0 → w_X9_no s0 st (fun r27 st27 => K r27 st27))
def w_X9_pay_b16 (x1 : Int32) (x2 : Int32)  (K : Int32 → St → Prop)  (st : St) : Prop :=
  w_X9_notWeeks x2 st (fun r17 st17 => w_X9_pay_b20 x1 x2  K r17 st17)
def w_X9_pay (x1 : Int32) (x2 : Int32) (st : St) (K : Int32 → St → Prop) : Prop :=
  (x1 = (-1) → w_X9_pay_b16 x1 x2  K st) ∧ (¬ x1 = (-1) → w_X9_isTown x1 st (fun r6 st6 => (¬ r6 = 0 → w_X9_pay_b16 x1 x2  K st6) ∧ (r6 = 0 → w_X9_pay_b20 x1 x2  K (-1) st6)))
def w_X9_deepest_b73 (x1 : Int32) (c18 : Int32 → Int32 → St → Prop) (c31 : Int32 → Int32 → Int32 → St → Prop) (K : Int32 → St → Prop) (v3 : Int32) (v4 : Int32) (s0 : Int32) (st : St) : Prop :=
  c31 s0 v3 (v4 + 1) st
def w_X9_deepest_b72 (x1 : Int32) (c18 : Int32 → Int32 → St → Prop) (c31 : Int32 → Int32 → Int32 → St → Prop) (K : Int32 → St → Prop) (v2 : Int32) (v3 : Int32) (v4 : Int32) (st : St) : Prop :=
  w_X9_deepest_b73 x1 c18 c31 K v3 v4 v2 st
def w_X9_deepest_b80 (x1 : Int32) (c18 : Int32 → Int32 → St → Prop) (K : Int32 → St → Prop) (v2 : Int32) (v3 : Int32) (st : St) : Prop :=
  c18 v2 (v3 + 1) st
def w_X9_deepest_L31q (x1 : Int32) (c18 : Int32 → Int32 → St → Prop) (K : Int32 → St → Prop) (c31 : Int32 → Int32 → Int32 → St → Prop) (v2 : Int32) (v3 : Int32) (v4 : Int32) (st : St) : Prop :=
  ((st 0 8) ≤ v4 → w_X9_deepest_b80 x1 c18 K v2 v3 st) ∧ (¬ (st 0 8) ≤ v4 → w_X9_areThere v3 v4 x1 st (fun r45 st45 => (r45 = 0 → w_X9_deepest_b72 x1 c18 c31 K v2 v3 v4 st45) ∧ (¬ r45 = 0 → w_X9_hateOf v3 v4 st45 (fun r55 st55 => (r55 ≤ v2 → w_X9_deepest_b72 x1 c18 c31 K v2 v3 v4 st55) ∧ (¬ r55 ≤ v2 → w_X9_hateOf v3 v4 st55 (fun r66 st66 => w_X9_deepest_b73 x1 c18 c31 K v3 v4 r66 st66))))))
def w_X9_deepest_L31 (x1 : Int32) (c18 : Int32 → Int32 → St → Prop) (K : Int32 → St → Prop) : Nat → Int32 → Int32 → Int32 → St → Prop
  | 0, _, _, _, _ => False
  | n + 1, v2, v3, v4, st => w_X9_deepest_L31q x1 c18 K (fun v2 v3 v4 st => w_X9_deepest_L31 x1 c18 K n v2 v3 v4 st) v2 v3 v4 st
def w_X9_deepest_L18q (x1 : Int32)  (K : Int32 → St → Prop) (c18 : Int32 → Int32 → St → Prop) (v2 : Int32) (v3 : Int32) (st : St) : Prop :=
  ((st 0 8) ≤ v3 → K v2 st) ∧ (¬ (st 0 8) ≤ v3 → ∃ n, w_X9_deepest_L31 x1 c18 K n v2 v3 (v3 + 1) st)
def w_X9_deepest_L18 (x1 : Int32)  (K : Int32 → St → Prop) : Nat → Int32 → Int32 → St → Prop
  | 0, _, _, _ => False
  | n + 1, v2, v3, st => w_X9_deepest_L18q x1  K (fun v2 v3 st => w_X9_deepest_L18 x1  K n v2 v3 st) v2 v3 st
def w_X9_deepest (x1 : Int32) (st : St) (K : Int32 → St → Prop) : Prop :=
  w_X9_isTown x1 st (fun r1 st1 => (¬ r1 = 0 → ∃ n, w_X9_deepest_L18 x1  K n (-9) 0 st1) ∧ (r1 = 0 → w_X9_no (-1) st1 (fun r9 st9 => K r9 st9)))
def w_X9_findTwos_b121 (x1 : Int32) (x2 : Int32) (c39 : Int32 → Int32 → Int32 → Int32 → St → Prop) (K : St → Prop) (v3 : Int32) (v4 : Int32) (v5 : Int32) (v6 : Int32) (st : St) : Prop :=
  c39 v3 v4 v5 (v6 + 1) st
def w_X9_findTwos_b119 (x1 : Int32) (x2 : Int32) (c39 : Int32 → Int32 → Int32 → Int32 → St → Prop) (K : St → Prop) (v3 : Int32) (v4 : Int32) (v6 : Int32) (s0 : Int32) (st : St) : Prop :=
  w_X9_findTwos_b121 x1 x2 c39 K v3 v4 s0 v6 st
def w_X9_findTwos_b127 (x1 : Int32) (x2 : Int32)  (K : St → Prop) (v5 : Int32) (st : St) : Prop :=
  vp_in x1 64 ∧ (K (u2 st 15 (x1).toNatClampNeg v5))
def w_X9_findTwos_L39q (x1 : Int32) (x2 : Int32)  (K : St → Prop) (c39 : Int32 → Int32 → Int32 → Int32 → St → Prop) (v3 : Int32) (v4 : Int32) (v5 : Int32) (v6 : Int32) (st : St) : Prop :=
  ((st 0 8) ≤ v6 → w_X9_findTwos_b127 x1 x2  K v5 st) ∧ (¬ (st 0 8) ≤ v6 → w_X9_has x1 v6 st (fun r51 st51 => (r51 = 0 → w_X9_findTwos_b121 x1 x2 c39 K v3 v4 v5 v6 st51) ∧ (¬ r51 = 0 → vp_in v3 6 ∧ (vp_in v6 6 ∧ ((¬ (st51 4 (v3).toNatClampNeg) = (st51 4 (v6).toNatClampNeg) → w_X9_findTwos_b121 x1 x2 c39 K v3 v4 v5 v6 st51) ∧ ((st51 4 (v3).toNatClampNeg) = (st51 4 (v6).toNatClampNeg) → w_X9_hateOf v3 v6 st51 (fun r77 st77 => (x2 ≤ r77 → vp_in (v4 &&& (((1 : Int32) <<< (v6 &&& 31)) ^^^ (-1))) 64 ∧ (((1 + (st77 15 ((v4 &&& (((1 : Int32) <<< (v6 &&& 31)) ^^^ (-1)))).toNatClampNeg)) ≤ v5 → w_X9_findTwos_b119 x1 x2 c39 K v3 v4 v6 v5 st77) ∧ (¬ (1 + (st77 15 ((v4 &&& (((1 : Int32) <<< (v6 &&& 31)) ^^^ (-1)))).toNatClampNeg)) ≤ v5 → w_X9_findTwos_b119 x1 x2 c39 K v3 v4 v6 (1 + (st77 15 ((v4 &&& (((1 : Int32) <<< (v6 &&& 31)) ^^^ (-1)))).toNatClampNeg)) st77))) ∧ (¬ x2 ≤ r77 → w_X9_findTwos_b121 x1 x2 c39 K v3 v4 v5 v6 st77))))))))
def w_X9_findTwos_L39 (x1 : Int32) (x2 : Int32)  (K : St → Prop) : Nat → Int32 → Int32 → Int32 → Int32 → St → Prop
  | 0, _, _, _, _, _ => False
  | n + 1, v3, v4, v5, v6, st => w_X9_findTwos_L39q x1 x2  K (fun v3 v4 v5 v6 st => w_X9_findTwos_L39 x1 x2  K n v3 v4 v5 v6 st) v3 v4 v5 v6 st
def w_X9_findTwos_b16 (x1 : Int32) (x2 : Int32)  (K : St → Prop) (v3 : Int32) (st : St) : Prop :=
  vp_in (x1 &&& (((1 : Int32) <<< (v3 &&& 31)) ^^^ (-1))) 64 ∧ (∃ n, w_X9_findTwos_L39 x1 x2  K n v3 (x1 &&& (((1 : Int32) <<< (v3 &&& 31)) ^^^ (-1))) (st 15 ((x1 &&& (((1 : Int32) <<< (v3 &&& 31)) ^^^ (-1)))).toNatClampNeg) (v3 + 1) st)
def w_X9_findTwos_L2q (x1 : Int32) (x2 : Int32)  (K : St → Prop) (c2 : Int32 → St → Prop) (v3 : Int32) (st : St) : Prop :=
  w_X9_has x1 v3 st (fun r4 st4 => (¬ r4 = 0 → w_X9_findTwos_b16 x1 x2  K v3 st4) ∧ (r4 = 0 → c2 (v3 + 1) st4))
def w_X9_findTwos_L2 (x1 : Int32) (x2 : Int32)  (K : St → Prop) : Nat → Int32 → St → Prop
  | 0, _, _ => False
  | n + 1, v3, st => w_X9_findTwos_L2q x1 x2  K (fun v3 st => w_X9_findTwos_L2 x1 x2  K n v3 st) v3 st
def w_X9_findTwos (x1 : Int32) (x2 : Int32) (st : St) (K : St → Prop) : Prop :=
  ∃ n, w_X9_findTwos_L2 x1 x2  K n 0 st
def w_X9_pairs_b49 (x1 : Int32)  (K : Int32 → St → Prop)  (st : St) : Prop :=
  vp_in (((1 : Int32) <<< ((st 0 8) &&& 31)) - 1) 64 ∧ (K (st 15 ((((1 : Int32) <<< ((st 0 8) &&& 31)) - 1)).toNatClampNeg) st)
def w_X9_pairs_L27q (x1 : Int32)  (K : Int32 → St → Prop) (c27 : Int32 → St → Prop) (v3 : Int32) (st : St) : Prop :=
  (((1 : Int32) <<< ((st 0 8) &&& 31)) ≤ v3 → w_X9_pairs_b49 x1  K st) ∧ (¬ ((1 : Int32) <<< ((st 0 8) &&& 31)) ≤ v3 → w_X9_findTwos v3 x1 st (fun st40 => c27 (v3 + 1) st40))
def w_X9_pairs_L27 (x1 : Int32)  (K : Int32 → St → Prop) : Nat → Int32 → St → Prop
  | 0, _, _ => False
  | n + 1, v3, st => w_X9_pairs_L27q x1  K (fun v3 st => w_X9_pairs_L27 x1  K n v3 st) v3 st
def w_X9_pairs (x1 : Int32) (st : St) (K : Int32 → St → Prop) : Prop :=
  w_X9_bound x1 0 99 st (fun r4 st4 => (r4 = 0 → vp_in 0 64 ∧ (∃ n, w_X9_pairs_L27 x1  K n 1 (u2 st4 15 (0 : Int32).toNatClampNeg 0))) ∧ (¬ r4 = 0 → w_X9_no r4 st4 (fun r14 st14 => K r14 st14)))
def w_X9_worst_b116 (x1 : Int32) (c28 : Int32 → Int32 → Int32 → Int32 → St → Prop) (K : Int32 → St → Prop) (v2 : Int32) (v3 : Int32) (v4 : Int32) (v5 : Int32) (st : St) : Prop :=
  c28 v2 v3 v4 (v5 + 1) st
def w_X9_worst_b86 (x1 : Int32) (c28 : Int32 → Int32 → Int32 → Int32 → St → Prop) (K : Int32 → St → Prop) (v2 : Int32) (v3 : Int32) (v5 : Int32) (v6 : Int32) (v7 : Int32) (s0 : Int32) (s1 : Int32) (st : St) : Prop :=
  w_X9_hateOf v6 v7 st (fun r94 st94 => (v3 < r94 → w_X9_hateOf v6 v7 st94 (fun r112 st112 => w_X9_worst_b116 x1 c28 K v5 r112 (s1 + s0) v5 st112)) ∧ (¬ v3 < r94 → w_X9_worst_b116 x1 c28 K v2 v3 (s1 + s0) v5 st94))
def w_X9_worst_b122 (x1 : Int32)  (K : Int32 → St → Prop) (v2 : Int32) (v3 : Int32) (v4 : Int32) (st : St) : Prop :=
  (¬ x1 = 0 → (¬ x1 = 1 → K v4 st) ∧ (x1 = 1 → K v3 st)) ∧ (x1 = 0 → K v2 st)
def w_X9_worst_L28q (x1 : Int32)  (K : Int32 → St → Prop) (c28 : Int32 → Int32 → Int32 → Int32 → St → Prop) (v2 : Int32) (v3 : Int32) (v4 : Int32) (v5 : Int32) (st : St) : Prop :=
  (60 ≤ v5 → w_X9_worst_b122 x1  K v2 v3 v4 st) ∧ (¬ 60 ≤ v5 → ((v5 - v5 / 10 * 10) ≤ (v5 / 10) → w_X9_worst_b116 x1 c28 K v2 v3 v4 v5 st) ∧ (¬ (v5 - v5 / 10 * 10) ≤ (v5 / 10) → ((v5 - v5 / 10 * 10) < (st 0 8) → w_X9_hateOf (v5 / 10) (v5 - v5 / 10 * 10) st (fun r75 st75 => (¬ r75 = 0 → w_X9_worst_b86 x1 c28 K v2 v3 v5 (v5 / 10) (v5 - v5 / 10 * 10) 0 v4 st75) ∧ (r75 = 0 → w_X9_worst_b86 x1 c28 K v2 v3 v5 (v5 / 10) (v5 - v5 / 10 * 10) 1 v4 st75))) ∧ (¬ (v5 - v5 / 10 * 10) < (st 0 8) → w_X9_worst_b116 x1 c28 K v2 v3 v4 v5 st)))
def w_X9_worst_L28 (x1 : Int32)  (K : Int32 → St → Prop) : Nat → Int32 → Int32 → Int32 → Int32 → St → Prop
  | 0, _, _, _, _, _ => False
  | n + 1, v2, v3, v4, v5, st => w_X9_worst_L28q x1  K (fun v2 v3 v4 v5 st => w_X9_worst_L28 x1  K n v2 v3 v4 v5 st) v2 v3 v4 v5 st
def w_X9_worst (x1 : Int32) (st : St) (K : Int32 → St → Prop) : Prop :=
  w_X9_isIn x1 0 2 st (fun r3 st3 => (¬ r3 = 0 → ∃ n, w_X9_worst_L28 x1  K n (-9) (-9) 0 0 st3) ∧ (r3 = 0 → w_X9_no (-2) st3 (fun r12 st12 => K r12 st12)))
def w_X9_opensSo_b41  (c8 : Int32 → Int32 → St → Prop) (K : Int32 → St → Prop) (v2 : Int32) (s0 : Int32) (st : St) : Prop :=
  w_X9_goesWeek  st (fun st43 => c8 s0 (v2 + 1) st43)
def w_X9_opensSo_b52   (K : Int32 → St → Prop) (v1 : Int32) (st : St) : Prop :=
  w_X9_forgets  st (fun st53 => (v1 = 0 ∨ v1 = 1) ∧ K v1 st53)
def w_X9_opensSo_L8q   (K : Int32 → St → Prop) (c8 : Int32 → Int32 → St → Prop) (v1 : Int32) (v2 : Int32) (st : St) : Prop :=
  ((st 0 29) ≤ v2 → w_X9_opensSo_b52   K v1 st) ∧ (¬ (st 0 29) ≤ v2 → (v1 = 0 → w_X9_opensSo_b52   K v1 st) ∧ (¬ v1 = 0 → w_X9_openOnes  st (fun r21 st21 => w_X9_bits r21 st21 (fun r24 st24 => vp_in v2 12 ∧ ((¬ r24 = (st24 16 (v2).toNatClampNeg) → w_X9_opensSo_b41  c8 K v2 0 st24) ∧ (r24 = (st24 16 (v2).toNatClampNeg) → w_X9_opensSo_b41  c8 K v2 1 st24))))))
def w_X9_opensSo_L8   (K : Int32 → St → Prop) : Nat → Int32 → Int32 → St → Prop
  | 0, _, _, _ => False
  | n + 1, v1, v2, st => w_X9_opensSo_L8q   K (fun v1 v2 st => w_X9_opensSo_L8   K n v1 v2 st) v1 v2 st
def w_X9_opensSo  (st : St) (K : Int32 → St → Prop) : Prop :=
  w_X9_thinks  st (fun st1 => ∃ n, w_X9_opensSo_L8   K n 1 0 st1)
def w_X9_whoHates_b110 (x1 : Int32) (x2 : Int32) (x3 : Int32) (c64 : Int32 → Int32 → Int32 → Int32 → Int32 → St → Prop) (K : Int32 → St → Prop) (v5 : Int32) (v6 : Int32) (v7 : Int32) (v8 : Int32) (v9 : Int32) (st : St) : Prop :=
  c64 v5 v6 v7 v8 (v9 + 1) st
def w_X9_whoHates_b104 (x1 : Int32) (x2 : Int32) (x3 : Int32) (c64 : Int32 → Int32 → Int32 → Int32 → Int32 → St → Prop) (K : Int32 → St → Prop) (v5 : Int32) (v6 : Int32) (v9 : Int32) (s0 : Int32) (st : St) : Prop :=
  w_X9_whoHates_b110 x1 x2 x3 c64 K v5 v6 s0 v9 v9 st
def w_X9_whoHates_b116 (x1 : Int32) (x2 : Int32) (x3 : Int32)  (K : Int32 → St → Prop) (v5 : Int32) (v6 : Int32) (v7 : Int32) (v8 : Int32) (st : St) : Prop :=
  w_X9_sets x1 x2 v5 st (fun st121 => (¬ x3 = 0 → (¬ x3 = 1 → K v8 st121) ∧ (x3 = 1 → K v7 st121)) ∧ (x3 = 0 → K v6 st121))
def w_X9_whoHates_L64q (x1 : Int32) (x2 : Int32) (x3 : Int32)  (K : Int32 → St → Prop) (c64 : Int32 → Int32 → Int32 → Int32 → Int32 → St → Prop) (v5 : Int32) (v6 : Int32) (v7 : Int32) (v8 : Int32) (v9 : Int32) (st : St) : Prop :=
  (99 < v9 → w_X9_whoHates_b116 x1 x2 x3  K v5 v6 v7 v8 st) ∧ (¬ 99 < v9 → w_X9_sets x1 x2 v9 st (fun st76 => w_X9_opensSo  st76 (fun r80 st80 => (¬ r80 = 0 → (0 ≤ v7 → w_X9_whoHates_b104 x1 x2 x3 c64 K v5 (v6 + 1) v9 v7 st80) ∧ (¬ 0 ≤ v7 → w_X9_whoHates_b104 x1 x2 x3 c64 K v5 (v6 + 1) v9 v9 st80)) ∧ (r80 = 0 → w_X9_whoHates_b110 x1 x2 x3 c64 K v5 v6 v7 v8 v9 st80))))
def w_X9_whoHates_L64 (x1 : Int32) (x2 : Int32) (x3 : Int32)  (K : Int32 → St → Prop) : Nat → Int32 → Int32 → Int32 → Int32 → Int32 → St → Prop
  | 0, _, _, _, _, _, _ => False
  | n + 1, v5, v6, v7, v8, v9, st => w_X9_whoHates_L64q x1 x2 x3  K (fun v5 v6 v7 v8 v9 st => w_X9_whoHates_L64 x1 x2 x3  K n v5 v6 v7 v8 v9 st) v5 v6 v7 v8 v9 st
def w_X9_whoHates_b28 (x1 : Int32) (x2 : Int32) (x3 : Int32)  (K : Int32 → St → Prop) (s0 : Int32) (st : St) : Prop :=
  (s0 = 0 → w_X9_hateOf x1 x2 st (fun r45 st45 => ∃ n, w_X9_whoHates_L64 x1 x2 x3  K n r45 0 (-9) (-9) 0 st45)) ∧ (¬ s0 = 0 → w_X9_no s0 st (fun r38 st38 => K r38 st38))
def w_X9_whoHates (x1 : Int32) (x2 : Int32) (x3 : Int32) (st : St) (K : Int32 → St → Prop) : Prop :=
  w_X9_areTwo x1 x2 st (fun r3 st3 => (¬ r3 = 0 → w_X9_isIn x3 0 2 st3 (fun r16 st16 => (¬ r16 = 0 → w_X9_whoHates_b28 x1 x2 x3  K 0 st16) ∧ (r16 = 0 → w_X9_whoHates_b28 x1 x2 x3  K (-2) st16))) ∧ (r3 = 0 → w_X9_whoHates_b28 x1 x2 x3  K (-1) st3))
def w_X9_hatesSo_b43 (x1 : Int32) (x2 : Int32) (c9 : Int32 → Int32 → St → Prop) (K : Int32 → St → Prop) (v4 : Int32) (s0 : Int32) (st : St) : Prop :=
  w_X9_goesWeek  st (fun st45 => c9 s0 (v4 + 1) st45)
def w_X9_hatesSo_b54 (x1 : Int32) (x2 : Int32)  (K : Int32 → St → Prop) (v3 : Int32) (st : St) : Prop :=
  w_X9_forgets  st (fun st55 => (v3 = 0 ∨ v3 = 1) ∧ K v3 st55)
def w_X9_hatesSo_L9q (x1 : Int32) (x2 : Int32)  (K : Int32 → St → Prop) (c9 : Int32 → Int32 → St → Prop) (v3 : Int32) (v4 : Int32) (st : St) : Prop :=
  ((st 0 29) ≤ v4 → w_X9_hatesSo_b54 x1 x2  K v3 st) ∧ (¬ (st 0 29) ≤ v4 → (v3 = 0 → w_X9_hatesSo_b54 x1 x2  K v3 st) ∧ (¬ v3 = 0 → w_X9_hateOf x1 x2 st (fun r25 st25 => vp_in v4 12 ∧ ((¬ r25 = (st25 16 (v4).toNatClampNeg) → w_X9_hatesSo_b43 x1 x2 c9 K v4 0 st25) ∧ (r25 = (st25 16 (v4).toNatClampNeg) → w_X9_hatesSo_b43 x1 x2 c9 K v4 1 st25)))))
def w_X9_hatesSo_L9 (x1 : Int32) (x2 : Int32)  (K : Int32 → St → Prop) : Nat → Int32 → Int32 → St → Prop
  | 0, _, _, _ => False
  | n + 1, v3, v4, st => w_X9_hatesSo_L9q x1 x2  K (fun v3 v4 st => w_X9_hatesSo_L9 x1 x2  K n v3 v4 st) v3 v4 st
def w_X9_hatesSo (x1 : Int32) (x2 : Int32) (st : St) (K : Int32 → St → Prop) : Prop :=
  w_X9_thinks  st (fun st1 => ∃ n, w_X9_hatesSo_L9 x1 x2  K n 1 0 st1)
def w_X9_bitsFor_b42 (k1 : Nat) (n1 : Nat) (x2 : Int32) (x3 : Int32) (x4 : Int32) (c11 : Int32 → Int32 → Int32 → St → Prop) (K : Int32 → St → Prop) (v5 : Int32) (v7 : Int32) (s0 : Int32) (s1 : Int32) (st : St) : Prop :=
  c11 v5 (s1 ||| s0) (v7 + 1) st
def w_X9_bitsFor_b51 (k1 : Nat) (n1 : Nat) (x2 : Int32) (x3 : Int32) (x4 : Int32)  (K : Int32 → St → Prop) (v5 : Int32) (v6 : Int32) (st : St) : Prop :=
  vp_in x2 n1 ∧ (K v6 (u2 st k1 (x2).toNatClampNeg v5))
def w_X9_bitsFor_L11q (k1 : Nat) (n1 : Nat) (x2 : Int32) (x3 : Int32) (x4 : Int32)  (K : Int32 → St → Prop) (c11 : Int32 → Int32 → Int32 → St → Prop) (v5 : Int32) (v6 : Int32) (v7 : Int32) (st : St) : Prop :=
  (x4 ≤ v7 → w_X9_bitsFor_b51 k1 n1 x2 x3 x4  K v5 v6 st) ∧ (¬ x4 ≤ v7 → vp_in x2 n1 ∧ (w_X9_hatesSo x2 x3 (u2 st k1 (x2).toNatClampNeg v7) (fun r28 st28 => (r28 = 0 → w_X9_bitsFor_b42 k1 n1 x2 x3 x4 c11 K v5 v7 0 v6 st28) ∧ (¬ r28 = 0 → w_X9_bitsFor_b42 k1 n1 x2 x3 x4 c11 K v5 v7 ((1 : Int32) <<< (v7 &&& 31)) v6 st28))))
def w_X9_bitsFor_L11 (k1 : Nat) (n1 : Nat) (x2 : Int32) (x3 : Int32) (x4 : Int32)  (K : Int32 → St → Prop) : Nat → Int32 → Int32 → Int32 → St → Prop
  | 0, _, _, _, _ => False
  | n + 1, v5, v6, v7, st => w_X9_bitsFor_L11q k1 n1 x2 x3 x4  K (fun v5 v6 v7 st => w_X9_bitsFor_L11 k1 n1 x2 x3 x4  K n v5 v6 v7 st) v5 v6 v7 st
def w_X9_bitsFor (k1 : Nat) (n1 : Nat) (x2 : Int32) (x3 : Int32) (x4 : Int32) (st : St) (K : Int32 → St → Prop) : Prop :=
  vp_in x2 n1 ∧ (∃ n, w_X9_bitsFor_L11 k1 n1 x2 x3 x4  K n (st k1 (x2).toNatClampNeg) 0 0 st)
def w_X9_whatKind_b28 (x1 : Int32) (x2 : Int32) (x3 : Int32)  (K : Int32 → St → Prop) (s0 : Int32) (st : St) : Prop :=
  (s0 = 0 → (¬ x3 = 0 → w_X9_bitsFor 3 6 x1 x2 10 st (fun r70 st70 => K r70 st70)) ∧ (x3 = 0 → w_X9_bitsFor 2 6 x1 x2 6 st (fun r55 st55 => K r55 st55))) ∧ (¬ s0 = 0 → w_X9_no s0 st (fun r38 st38 => K r38 st38))
def w_X9_whatKind (x1 : Int32) (x2 : Int32) (x3 : Int32) (st : St) (K : Int32 → St → Prop) : Prop :=
  w_X9_areTwo x1 x2 st (fun r3 st3 => (¬ r3 = 0 → w_X9_isIn x3 0 1 st3 (fun r16 st16 => (¬ r16 = 0 → w_X9_whatKind_b28 x1 x2 x3  K 0 st16) ∧ (r16 = 0 → w_X9_whatKind_b28 x1 x2 x3  K (-2) st16))) ∧ (r3 = 0 → w_X9_whatKind_b28 x1 x2 x3  K (-1) st3))
def w_X9_divisor_L6q (x0 : Int64) (x2 : Int64)  (K : Int64 → St → Prop) (c6 : Int64 → Int64 → St → Prop) (v4 : Int64) (v6 : Int64) (st : St) : Prop :=
  ((lg_cmp v6 0) = 0 → K v4 st) ∧ (¬ (lg_cmp v6 0) = 0 → ¬ v6 = 0 ∧ (c6 v6 (v4 - v4 / v6 * v6) st))
def w_X9_divisor_L6 (x0 : Int64) (x2 : Int64)  (K : Int64 → St → Prop) : Nat → Int64 → Int64 → St → Prop
  | 0, _, _, _ => False
  | n + 1, v4, v6, st => w_X9_divisor_L6q x0 x2  K (fun v4 v6 st => w_X9_divisor_L6 x0 x2  K n v4 v6 st) v4 v6 st
def w_X9_divisor (x0 : Int64) (x2 : Int64) (st : St) (K : Int64 → St → Prop) : Prop :=
  ∃ n, w_X9_divisor_L6 x0 x2  K n x0 x2 st
def w_X9_partOf_b10 (x0 : Int64) (x2 : Int64) (x4 : Int32)  (K : Int64 → St → Prop) (s0 : Int64) (st : St) : Prop :=
  w_X9_divisor x0 x2 st (fun r12 st12 => ¬ r12 = 0 ∧ (K (s0 / r12) st12))
def w_X9_partOf (x0 : Int64) (x2 : Int64) (x4 : Int32) (st : St) (K : Int64 → St → Prop) : Prop :=
  (¬ x4 = 0 → w_X9_partOf_b10 x0 x2 x4  K x2 st) ∧ (x4 = 0 → w_X9_partOf_b10 x0 x2 x4  K x0 st)
def w_X9_partsOf_b29 (x0 : Int32) (x1 : Int32) (x2 : Int32) (c5 : Int64 → Int32 → St → Prop) (K : Int64 → St → Prop) (v5 : Int32) (s0 : Int64) (s1 : Int64) (st : St) : Prop :=
  c5 (s1 * s0) (v5 + 1) st
def w_X9_partsOf_L5q (x0 : Int32) (x1 : Int32) (x2 : Int32)  (K : Int64 → St → Prop) (c5 : Int64 → Int32 → St → Prop) (v3 : Int64) (v5 : Int32) (st : St) : Prop :=
  (x1 ≤ v5 → K v3 st) ∧ (¬ x1 ≤ v5 → w_X9_has x0 v5 st (fun r15 st15 => (r15 = 0 → w_X9_partsOf_b29 x0 x1 x2 c5 K v5 (((x2 - 1)).toInt64) v3 st15) ∧ (¬ r15 = 0 → w_X9_partsOf_b29 x0 x1 x2 c5 K v5 1 v3 st15)))
def w_X9_partsOf_L5 (x0 : Int32) (x1 : Int32) (x2 : Int32)  (K : Int64 → St → Prop) : Nat → Int64 → Int32 → St → Prop
  | 0, _, _, _ => False
  | n + 1, v3, v5, st => w_X9_partsOf_L5q x0 x1 x2  K (fun v3 v5 st => w_X9_partsOf_L5 x0 x1 x2  K n v3 v5 st) v3 v5 st
def w_X9_partsOf (x0 : Int32) (x1 : Int32) (x2 : Int32) (st : St) (K : Int64 → St → Prop) : Prop :=
  ∃ n, w_X9_partsOf_L5 x0 x1 x2  K n 1 0 st
def w_X9_power_L5q (x0 : Int32) (x1 : Int32)  (K : Int64 → St → Prop) (c5 : Int64 → Int32 → St → Prop) (v2 : Int64) (v4 : Int32) (st : St) : Prop :=
  (x1 ≤ v4 → K v2 st) ∧ (¬ x1 ≤ v4 → c5 (v2 * ((x0).toInt64)) (v4 + 1) st)
def w_X9_power_L5 (x0 : Int32) (x1 : Int32)  (K : Int64 → St → Prop) : Nat → Int64 → Int32 → St → Prop
  | 0, _, _, _ => False
  | n + 1, v2, v4, st => w_X9_power_L5q x0 x1  K (fun v2 v4 st => w_X9_power_L5 x0 x1  K n v2 v4 st) v2 v4 st
def w_X9_power (x0 : Int32) (x1 : Int32) (st : St) (K : Int64 → St → Prop) : Prop :=
  ∃ n, w_X9_power_L5 x0 x1  K n 1 0 st
def w_X9_jug_b107 (x1 : Int32) (x2 : Int32) (x3 : Int32) (x4 : Int32) (c77 : Int64 → Int32 → St → Prop) (K : Int64 → St → Prop) (v8 : Int32) (s0 : Int64) (s1 : Int64) (st : St) : Prop :=
  c77 (s1 + s0) (v8 + 1) st
def w_X9_jug_b116 (x1 : Int32) (x2 : Int32) (x3 : Int32) (x4 : Int32)  (K : Int64 → St → Prop) (v6 : Int64) (st : St) : Prop :=
  w_X9_power x3 x1 st (fun r120 st120 => w_X9_partOf v6 r120 x4 st120 (fun r125 st125 => K r125 st125))
def w_X9_jug_L77q (x1 : Int32) (x2 : Int32) (x3 : Int32) (x4 : Int32)  (K : Int64 → St → Prop) (c77 : Int64 → Int32 → St → Prop) (v6 : Int64) (v8 : Int32) (st : St) : Prop :=
  (((1 : Int32) <<< (x1 &&& 31)) ≤ v8 → w_X9_jug_b116 x1 x2 x3 x4  K v6 st) ∧ (¬ ((1 : Int32) <<< (x1 &&& 31)) ≤ v8 → w_X9_bits v8 st (fun r89 st89 => (r89 < x2 → w_X9_jug_b107 x1 x2 x3 x4 c77 K v8 0 v6 st89) ∧ (¬ r89 < x2 → w_X9_partsOf v8 x1 x3 st89 (fun r100 st100 => w_X9_jug_b107 x1 x2 x3 x4 c77 K v8 r100 v6 st100))))
def w_X9_jug_L77 (x1 : Int32) (x2 : Int32) (x3 : Int32) (x4 : Int32)  (K : Int64 → St → Prop) : Nat → Int64 → Int32 → St → Prop
  | 0, _, _, _ => False
  | n + 1, v6, v8, st => w_X9_jug_L77q x1 x2 x3 x4  K (fun v6 v8 st => w_X9_jug_L77 x1 x2 x3 x4  K n v6 v8 st) v6 v8 st
def w_X9_jug_b57 (x1 : Int32) (x2 : Int32) (x3 : Int32) (x4 : Int32)  (K : Int64 → St → Prop) (s0 : Int32) (st : St) : Prop :=
  (s0 = 0 → ∃ n, w_X9_jug_L77 x1 x2 x3 x4  K n 0 0 st) ∧ (¬ s0 = 0 → w_X9_lowestOf s0 st (fun r67 st67 => K r67 st67))
def w_X9_jug_b13 (x1 : Int32) (x2 : Int32) (x3 : Int32) (x4 : Int32)  (K : Int64 → St → Prop)  (st : St) : Prop :=
  w_X9_jug_b57 x1 x2 x3 x4  K (-4) st
def w_X9_jug_b36 (x1 : Int32) (x2 : Int32) (x3 : Int32) (x4 : Int32)  (K : Int64 → St → Prop)  (st : St) : Prop :=
  w_X9_jug_b57 x1 x2 x3 x4  K (-6) st
def w_X9_jug (x1 : Int32) (x2 : Int32) (x3 : Int32) (x4 : Int32) (st : St) (K : Int64 → St → Prop) : Prop :=
  (x1 < 0 → w_X9_jug_b13 x1 x2 x3 x4  K st) ∧ (¬ x1 < 0 → (x2 < 0 → w_X9_jug_b13 x1 x2 x3 x4  K st) ∧ (¬ x2 < 0 → (2 ≤ x3 → (8 < x1 → w_X9_jug_b36 x1 x2 x3 x4  K st) ∧ (¬ 8 < x1 → (8 < x2 → w_X9_jug_b36 x1 x2 x3 x4  K st) ∧ (¬ 8 < x2 → (x3 ≤ 20 → w_X9_isIn x4 0 1 st (fun r45 st45 => (¬ r45 = 0 → w_X9_jug_b57 x1 x2 x3 x4  K 0 st45) ∧ (r45 = 0 → w_X9_jug_b57 x1 x2 x3 x4  K (-2) st45))) ∧ (¬ x3 ≤ 20 → w_X9_jug_b36 x1 x2 x3 x4  K st)))) ∧ (¬ 2 ≤ x3 → w_X9_jug_b13 x1 x2 x3 x4  K st)))
def w_X9_getsOf_b66 (x1 : Int32) (x2 : Int32) (x3 : Int32) (x4 : Int32)  (K : Int32 → St → Prop) (v5 : Int32) (s0 : Int32) (s1 : Int32) (st : St) : Prop :=
  w_X9_sets x1 x2 v5 st (fun st74 => K (s1 - s0) st74)
def w_X9_getsOf_b65 (x1 : Int32) (x2 : Int32) (x3 : Int32) (x4 : Int32)  (K : Int32 → St → Prop) (v5 : Int32) (s0 : Int32) (st : St) : Prop :=
  w_X9_getsOf_b66 x1 x2 x3 x4  K v5 0 s0 st
def w_X9_getsOf_b31 (x1 : Int32) (x2 : Int32) (x3 : Int32) (x4 : Int32)  (K : Int32 → St → Prop) (v5 : Int32) (s0 : Int32) (s1 : Int32) (s2 : Int32) (st : St) : Prop :=
  w_X9_sets s2 s1 s0 st (fun st31 => w_X9_payOf x1 st31 (fun r37 st37 => w_X9_hateIn x1 x2 4 st37 (fun r45 st45 => (¬ x3 = 1 → w_X9_getsOf_b65 x1 x2 x3 x4  K v5 ((4 * r37) - (r45 / 2)) st45) ∧ (x3 = 1 → (¬ x4 = 0 → w_X9_getsOf_b65 x1 x2 x3 x4  K v5 ((4 * r37) - (r45 / 2)) st45) ∧ (x4 = 0 → w_X9_getsOf_b66 x1 x2 x3 x4  K v5 3 ((4 * r37) - (r45 / 2)) st45)))))
def w_X9_getsOf_b29 (x1 : Int32) (x2 : Int32) (x3 : Int32) (x4 : Int32)  (K : Int32 → St → Prop) (v5 : Int32) (s0 : Int32) (s1 : Int32) (st : St) : Prop :=
  w_X9_getsOf_b31 x1 x2 x3 x4  K v5 v5 s0 s1 st
def w_X9_getsOf (x1 : Int32) (x2 : Int32) (x3 : Int32) (x4 : Int32) (st : St) (K : Int32 → St → Prop) : Prop :=
  w_X9_hateOf x1 x2 st (fun r3 st3 => (¬ x3 = 1 → w_X9_getsOf_b29 x1 x2 x3 x4  K r3 x2 x1 st3) ∧ (x3 = 1 → (¬ x4 = 1 → w_X9_getsOf_b29 x1 x2 x3 x4  K r3 x2 x1 st3) ∧ (x4 = 1 → w_X9_getsOf_b31 x1 x2 x3 x4  K r3 (r3 / 2) x2 x1 st3)))
def w_X9_two_b82 (x1 : Int32) (x2 : Int32)  (K : Int32 → St → Prop) (v4 : Int32) (v5 : Int32) (st : St) : Prop :=
  K ((10 * v4) + v5) st
def w_X9_two_b91 (x1 : Int32) (x2 : Int32) (c17 : Int32 → St → Prop) (K : Int32 → St → Prop) (v3 : Int32) (st : St) : Prop :=
  c17 (v3 + 1) st
def w_X9_two_L17q (x1 : Int32) (x2 : Int32)  (K : Int32 → St → Prop) (c17 : Int32 → St → Prop) (v3 : Int32) (st : St) : Prop :=
  (4 ≤ v3 → K (-9) st) ∧ (¬ 4 ≤ v3 → w_X9_getsOf x1 x2 (1 - (v3 / 2)) (v3 - v3 / 2 * 2) st (fun r41 st41 => w_X9_getsOf x1 x2 (v3 / 2) (v3 - v3 / 2 * 2) st41 (fun r51 st51 => (r51 < r41 → w_X9_two_b91 x1 x2 c17 K v3 st51) ∧ (¬ r51 < r41 → w_X9_getsOf x2 x1 (1 - (v3 - v3 / 2 * 2)) (v3 / 2) st51 (fun r66 st66 => w_X9_getsOf x2 x1 (v3 - v3 / 2 * 2) (v3 / 2) st66 (fun r76 st76 => (r76 < r66 → w_X9_two_b91 x1 x2 c17 K v3 st76) ∧ (¬ r76 < r66 → w_X9_two_b82 x1 x2  K (v3 / 2) (v3 - v3 / 2 * 2) st76)))))))
def w_X9_two_L17 (x1 : Int32) (x2 : Int32)  (K : Int32 → St → Prop) : Nat → Int32 → St → Prop
  | 0, _, _ => False
  | n + 1, v3, st => w_X9_two_L17q x1 x2  K (fun v3 st => w_X9_two_L17 x1 x2  K n v3 st) v3 st
def w_X9_two (x1 : Int32) (x2 : Int32) (st : St) (K : Int32 → St → Prop) : Prop :=
  w_X9_areTwo x1 x2 st (fun r3 st3 => (¬ r3 = 0 → ∃ n, w_X9_two_L17 x1 x2  K n 0 st3) ∧ (r3 = 0 → w_X9_no (-1) st3 (fun r11 st11 => K r11 st11)))
def w_X9_isOpenMeeting_b45 (x1 : Int32) (x2 : Int32) (x3 : Int32) (x4 : Int32) (x5 : Int32) (c7 : Int32 → St → Prop) (K : Int32 → St → Prop) (v6 : Int32) (st : St) : Prop :=
  w_X9_goesWeek  st (fun st46 => c7 (v6 + 1) st46)
def w_X9_isOpenMeeting_b70 (x1 : Int32) (x2 : Int32) (x3 : Int32) (x4 : Int32) (x5 : Int32)  (K : Int32 → St → Prop) (s0 : Int32) (st : St) : Prop :=
  w_X9_forgets  st (fun st73 => (s0 = 0 ∨ s0 = 1) ∧ K s0 st73)
def w_X9_isOpenMeeting_b55 (x1 : Int32) (x2 : Int32) (x3 : Int32) (x4 : Int32) (x5 : Int32)  (K : Int32 → St → Prop)  (st : St) : Prop :=
  vp_in x3 6 ∧ ((¬ (st 8 (x3).toNatClampNeg) = 1 → w_X9_isOpenMeeting_b70 x1 x2 x3 x4 x5  K 0 st) ∧ ((st 8 (x3).toNatClampNeg) = 1 → w_X9_isOpenMeeting_b70 x1 x2 x3 x4 x5  K 1 st))
def w_X9_isOpenMeeting_L7q (x1 : Int32) (x2 : Int32) (x3 : Int32) (x4 : Int32) (x5 : Int32)  (K : Int32 → St → Prop) (c7 : Int32 → St → Prop) (v6 : Int32) (st : St) : Prop :=
  (x4 ≤ v6 → w_X9_isOpenMeeting_b55 x1 x2 x3 x4 x5  K st) ∧ (¬ x4 ≤ v6 → w_X9_has x5 v6 st (fun r18 st18 => (r18 = 0 → w_X9_isOpenMeeting_b45 x1 x2 x3 x4 x5 c7 K v6 st18) ∧ (¬ r18 = 0 → w_X9_hateOf x1 x2 st18 (fun r30 st30 => w_X9_held (r30 - 10) 0 99 st30 (fun r39 st39 => w_X9_sets x1 x2 r39 st39 (fun st42 => w_X9_isOpenMeeting_b45 x1 x2 x3 x4 x5 c7 K v6 st42))))))
def w_X9_isOpenMeeting_L7 (x1 : Int32) (x2 : Int32) (x3 : Int32) (x4 : Int32) (x5 : Int32)  (K : Int32 → St → Prop) : Nat → Int32 → St → Prop
  | 0, _, _ => False
  | n + 1, v6, st => w_X9_isOpenMeeting_L7q x1 x2 x3 x4 x5  K (fun v6 st => w_X9_isOpenMeeting_L7 x1 x2 x3 x4 x5  K n v6 st) v6 st
def w_X9_isOpenMeeting (x1 : Int32) (x2 : Int32) (x3 : Int32) (x4 : Int32) (x5 : Int32) (st : St) (K : Int32 → St → Prop) : Prop :=
  w_X9_thinks  st (fun st1 => ∃ n, w_X9_isOpenMeeting_L7 x1 x2 x3 x4 x5  K n 0 st1)
def w_X9_meetings_b130 (x1 : Int32) (x2 : Int32) (x3 : Int32) (x4 : Int32) (x5 : Int32) (x6 : Int32) (c92 : Int64 → Int32 → St → Prop) (K : Int64 → St → Prop) (v10 : Int32) (s0 : Int64) (s1 : Int64) (st : St) : Prop :=
  c92 (s1 + s0) (v10 + 1) st
def w_X9_meetings_b139 (x1 : Int32) (x2 : Int32) (x3 : Int32) (x4 : Int32) (x5 : Int32) (x6 : Int32)  (K : Int64 → St → Prop) (v8 : Int64) (st : St) : Prop :=
  w_X9_power x5 x4 st (fun r145 st145 => w_X9_partOf v8 r145 x6 st145 (fun r150 st150 => K r150 st150))
def w_X9_meetings_L92q (x1 : Int32) (x2 : Int32) (x3 : Int32) (x4 : Int32) (x5 : Int32) (x6 : Int32)  (K : Int64 → St → Prop) (c92 : Int64 → Int32 → St → Prop) (v8 : Int64) (v10 : Int32) (st : St) : Prop :=
  (((1 : Int32) <<< (x4 &&& 31)) ≤ v10 → w_X9_meetings_b139 x1 x2 x3 x4 x5 x6  K v8 st) ∧ (¬ ((1 : Int32) <<< (x4 &&& 31)) ≤ v10 → w_X9_isOpenMeeting x1 x2 x3 x4 v10 st (fun r111 st111 => (r111 = 0 → w_X9_meetings_b130 x1 x2 x3 x4 x5 x6 c92 K v10 0 v8 st111) ∧ (¬ r111 = 0 → w_X9_partsOf v10 x4 x5 st111 (fun r123 st123 => w_X9_meetings_b130 x1 x2 x3 x4 x5 x6 c92 K v10 r123 v8 st123))))
def w_X9_meetings_L92 (x1 : Int32) (x2 : Int32) (x3 : Int32) (x4 : Int32) (x5 : Int32) (x6 : Int32)  (K : Int64 → St → Prop) : Nat → Int64 → Int32 → St → Prop
  | 0, _, _, _ => False
  | n + 1, v8, v10, st => w_X9_meetings_L92q x1 x2 x3 x4 x5 x6  K (fun v8 v10 st => w_X9_meetings_L92 x1 x2 x3 x4 x5 x6  K n v8 v10 st) v8 v10 st
def w_X9_meetings_b72 (x1 : Int32) (x2 : Int32) (x3 : Int32) (x4 : Int32) (x5 : Int32) (x6 : Int32)  (K : Int64 → St → Prop) (s0 : Int32) (st : St) : Prop :=
  (s0 = 0 → ∃ n, w_X9_meetings_L92 x1 x2 x3 x4 x5 x6  K n 0 0 st) ∧ (¬ s0 = 0 → w_X9_lowestOf s0 st (fun r82 st82 => K r82 st82))
def w_X9_meetings_b17 (x1 : Int32) (x2 : Int32) (x3 : Int32) (x4 : Int32) (x5 : Int32) (x6 : Int32)  (K : Int64 → St → Prop)  (st : St) : Prop :=
  w_X9_meetings_b72 x1 x2 x3 x4 x5 x6  K (-1) st
def w_X9_meetings_b32 (x1 : Int32) (x2 : Int32) (x3 : Int32) (x4 : Int32) (x5 : Int32) (x6 : Int32)  (K : Int64 → St → Prop)  (st : St) : Prop :=
  w_X9_meetings_b72 x1 x2 x3 x4 x5 x6  K (-4) st
def w_X9_meetings_b51 (x1 : Int32) (x2 : Int32) (x3 : Int32) (x4 : Int32) (x5 : Int32) (x6 : Int32)  (K : Int64 → St → Prop)  (st : St) : Prop :=
  w_X9_meetings_b72 x1 x2 x3 x4 x5 x6  K (-6) st
def w_X9_meetings (x1 : Int32) (x2 : Int32) (x3 : Int32) (x4 : Int32) (x5 : Int32) (x6 : Int32) (st : St) (K : Int64 → St → Prop) : Prop :=
  w_X9_areTwo x1 x2 st (fun r3 st3 => (r3 = 0 → w_X9_meetings_b17 x1 x2 x3 x4 x5 x6  K st3) ∧ (¬ r3 = 0 → w_X9_isLetter x3 st3 (fun r11 st11 => (¬ r11 = 0 → (x4 < 0 → w_X9_meetings_b32 x1 x2 x3 x4 x5 x6  K st11) ∧ (¬ x4 < 0 → (2 ≤ x5 → (7 < x4 → w_X9_meetings_b51 x1 x2 x3 x4 x5 x6  K st11) ∧ (¬ 7 < x4 → (x5 ≤ 20 → w_X9_isIn x6 0 1 st11 (fun r60 st60 => (¬ r60 = 0 → w_X9_meetings_b72 x1 x2 x3 x4 x5 x6  K 0 st60) ∧ (r60 = 0 → w_X9_meetings_b72 x1 x2 x3 x4 x5 x6  K (-2) st60))) ∧ (¬ x5 ≤ 20 → w_X9_meetings_b51 x1 x2 x3 x4 x5 x6  K st11))) ∧ (¬ 2 ≤ x5 → w_X9_meetings_b32 x1 x2 x3 x4 x5 x6  K st11))) ∧ (r11 = 0 → w_X9_meetings_b17 x1 x2 x3 x4 x5 x6  K st11))))
def w_X9_fullest_b49 (x1 : Int32) (c20 : Int32 → Int32 → St → Prop) (K : Int32 → St → Prop) (v3 : Int32) (s0 : Int32) (st : St) : Prop :=
  c20 s0 (v3 + 1) st
def w_X9_fullest_b56 (x1 : Int32)  (K : Int32 → St → Prop) (v2 : Int32) (st : St) : Prop :=
  (¬ x1 = 0 → w_X9_keepersIn v2 st (fun r66 st66 => w_X9_bits r66 st66 (fun r69 st69 => K r69 st69))) ∧ (x1 = 0 → K v2 st)
def w_X9_fullest_L20q (x1 : Int32)  (K : Int32 → St → Prop) (c20 : Int32 → Int32 → St → Prop) (v2 : Int32) (v3 : Int32) (st : St) : Prop :=
  (4 ≤ v3 → w_X9_fullest_b56 x1  K v2 st) ∧ (¬ 4 ≤ v3 → w_X9_keepersIn v3 st (fun r27 st27 => w_X9_bits r27 st27 (fun r30 st30 => w_X9_keepersIn v2 st30 (fun r35 st35 => w_X9_bits r35 st35 (fun r38 st38 => (r30 ≤ r38 → w_X9_fullest_b49 x1 c20 K v3 v2 st38) ∧ (¬ r30 ≤ r38 → w_X9_fullest_b49 x1 c20 K v3 v3 st38))))))
def w_X9_fullest_L20 (x1 : Int32)  (K : Int32 → St → Prop) : Nat → Int32 → Int32 → St → Prop
  | 0, _, _, _ => False
  | n + 1, v2, v3, st => w_X9_fullest_L20q x1  K (fun v2 v3 st => w_X9_fullest_L20 x1  K n v2 v3 st) v2 v3 st
def w_X9_fullest (x1 : Int32) (st : St) (K : Int32 → St → Prop) : Prop :=
  w_X9_isIn x1 0 1 st (fun r3 st3 => (¬ r3 = 0 → ∃ n, w_X9_fullest_L20 x1  K n 0 1 st3) ∧ (r3 = 0 → w_X9_no (-2) st3 (fun r12 st12 => K r12 st12)))
def w_X9_thickest_b43  (c5 : Int32 → Int32 → St → Prop) (K : Int32 → St → Prop) (v1 : Int32) (v2 : Int32) (st : St) : Prop :=
  c5 v1 (v2 + 1) st
def w_X9_thickest_b41  (c5 : Int32 → Int32 → St → Prop) (K : Int32 → St → Prop) (v2 : Int32) (st : St) : Prop :=
  w_X9_thickest_b43  c5 K v2 v2 st
def w_X9_thickest_L5q   (K : Int32 → St → Prop) (c5 : Int32 → Int32 → St → Prop) (v1 : Int32) (v2 : Int32) (st : St) : Prop :=
  ((st 0 9) ≤ v2 → K v1 st) ∧ (¬ (st 0 9) ≤ v2 → vp_in v2 6 ∧ ((¬ (st 8 (v2).toNatClampNeg) = 0 → w_X9_thickest_b43  c5 K v1 v2 st) ∧ ((st 8 (v2).toNatClampNeg) = 0 → (v1 < 0 → w_X9_thickest_b41  c5 K v2 st) ∧ (¬ v1 < 0 → vp_in v2 6 ∧ (vp_in v1 6 ∧ (((st 6 (v2).toNatClampNeg) ≤ (st 6 (v1).toNatClampNeg) → w_X9_thickest_b43  c5 K v1 v2 st) ∧ (¬ (st 6 (v2).toNatClampNeg) ≤ (st 6 (v1).toNatClampNeg) → w_X9_thickest_b41  c5 K v2 st)))))))
def w_X9_thickest_L5   (K : Int32 → St → Prop) : Nat → Int32 → Int32 → St → Prop
  | 0, _, _, _ => False
  | n + 1, v1, v2, st => w_X9_thickest_L5q   K (fun v1 v2 st => w_X9_thickest_L5   K n v1 v2 st) v1 v2 st
def w_X9_thickest  (st : St) (K : Int32 → St → Prop) : Prop :=
  ∃ n, w_X9_thickest_L5   K n (-9) 0 st
def w_X9_hatesOf_b28 (x1 : Int32) (c4 : Int32 → Int32 → St → Prop) (K : Int32 → St → Prop) (v3 : Int32) (s0 : Int32) (s1 : Int32) (st : St) : Prop :=
  c4 (s1 + s0) (v3 + 1) st
def w_X9_hatesOf_L4q (x1 : Int32)  (K : Int32 → St → Prop) (c4 : Int32 → Int32 → St → Prop) (v2 : Int32) (v3 : Int32) (st : St) : Prop :=
  ((st 0 8) ≤ v3 → K v2 st) ∧ (¬ (st 0 8) ≤ v3 → (¬ v3 = x1 → w_X9_hateOf x1 v3 st (fun r25 st25 => w_X9_hatesOf_b28 x1 c4 K v3 r25 v2 st25)) ∧ (v3 = x1 → w_X9_hatesOf_b28 x1 c4 K v3 0 v2 st))
def w_X9_hatesOf_L4 (x1 : Int32)  (K : Int32 → St → Prop) : Nat → Int32 → Int32 → St → Prop
  | 0, _, _, _ => False
  | n + 1, v2, v3, st => w_X9_hatesOf_L4q x1  K (fun v2 v3 st => w_X9_hatesOf_L4 x1  K n v2 v3 st) v2 v3 st
def w_X9_hatesOf (x1 : Int32) (st : St) (K : Int32 → St → Prop) : Prop :=
  ∃ n, w_X9_hatesOf_L4 x1  K n 0 0 st
def w_X9_mildest_b35  (c5 : Int32 → Int32 → St → Prop) (K : Int32 → St → Prop) (v2 : Int32) (s0 : Int32) (st : St) : Prop :=
  c5 s0 (v2 + 1) st
def w_X9_mildest_b30  (c5 : Int32 → Int32 → St → Prop) (K : Int32 → St → Prop) (v2 : Int32) (st : St) : Prop :=
  w_X9_mildest_b35  c5 K v2 v2 st
def w_X9_mildest_L5q   (K : Int32 → St → Prop) (c5 : Int32 → Int32 → St → Prop) (v1 : Int32) (v2 : Int32) (st : St) : Prop :=
  ((st 0 8) ≤ v2 → K v1 st) ∧ (¬ (st 0 8) ≤ v2 → (v1 < 0 → w_X9_mildest_b30  c5 K v2 st) ∧ (¬ v1 < 0 → w_X9_hatesOf v2 st (fun r19 st19 => w_X9_hatesOf v1 st19 (fun r24 st24 => (r24 ≤ r19 → w_X9_mildest_b35  c5 K v2 v1 st24) ∧ (¬ r24 ≤ r19 → w_X9_mildest_b30  c5 K v2 st24)))))
def w_X9_mildest_L5   (K : Int32 → St → Prop) : Nat → Int32 → Int32 → St → Prop
  | 0, _, _, _ => False
  | n + 1, v1, v2, st => w_X9_mildest_L5q   K (fun v1 v2 st => w_X9_mildest_L5   K n v1 v2 st) v1 v2 st
def w_X9_mildest  (st : St) (K : Int32 → St → Prop) : Prop :=
  ∃ n, w_X9_mildest_L5   K n (-9) 0 st
def w_X9_bare_b51  (c4 : Int32 → Int32 → St → Prop) (K : Int32 → St → Prop) (v2 : Int32) (s0 : Int32) (s1 : Int32) (st : St) : Prop :=
  c4 (s1 ||| s0) (v2 + 1) st
def w_X9_bare_b50  (c4 : Int32 → Int32 → St → Prop) (K : Int32 → St → Prop) (v2 : Int32) (s0 : Int32) (st : St) : Prop :=
  w_X9_bare_b51  c4 K v2 0 s0 st
def w_X9_bare_L4q   (K : Int32 → St → Prop) (c4 : Int32 → Int32 → St → Prop) (v1 : Int32) (v2 : Int32) (st : St) : Prop :=
  ((st 0 9) ≤ v2 → K v1 st) ∧ (¬ (st 0 9) ≤ v2 → vp_in v2 6 ∧ ((¬ (st 8 (v2).toNatClampNeg) = 0 → w_X9_bare_b50  c4 K v2 v1 st) ∧ ((st 8 (v2).toNatClampNeg) = 0 → vp_in v2 6 ∧ (w_X9_keepersIn (st 7 (v2).toNatClampNeg) st (fun r29 st29 => w_X9_bits r29 st29 (fun r32 st32 => (2 ≤ r32 → w_X9_bare_b50  c4 K v2 v1 st32) ∧ (¬ 2 ≤ r32 → vp_in v2 6 ∧ (w_X9_bare_b51  c4 K v2 ((1 : Int32) <<< ((st32 7 (v2).toNatClampNeg) &&& 31)) v1 st32))))))))
def w_X9_bare_L4   (K : Int32 → St → Prop) : Nat → Int32 → Int32 → St → Prop
  | 0, _, _, _ => False
  | n + 1, v1, v2, st => w_X9_bare_L4q   K (fun v1 v2 st => w_X9_bare_L4   K n v1 v2 st) v1 v2 st
def w_X9_bare  (st : St) (K : Int32 → St → Prop) : Prop :=
  ∃ n, w_X9_bare_L4   K n 0 0 st
def w_X9_mean (x1 : Int32) (st : St) (K : Int64 → St → Prop) : Prop :=
  w_X9_isIn x1 0 1 st (fun r3 st3 => (¬ r3 = 0 → (2 ≤ (st3 0 8) → w_X9_allHate  st3 (fun r30 st30 => w_X9_partOf ((r30).toInt64) (((((st30 0 8) * ((st30 0 8) - 1)) / 2)).toInt64) x1 st30 (fun r49 st49 => K r49 st49))) ∧ (¬ 2 ≤ (st3 0 8) → K ((x1).toInt64) st3)) ∧ (r3 = 0 → w_X9_lowestOf (-2) st3 (fun r12 st12 => K r12 st12)))
def w_X9_used_b17 (x1 : Int32) (x2 : Int32) (x3 : Int32)  (K : Int32 → St → Prop) (s0 : Int32) (st : St) : Prop :=
  (s0 = 0 → w_X9_hateOf x1 x2 st (fun r36 st36 => w_X9_hateIn x1 x2 x3 st36 (fun r43 st43 => K (r36 - r43) st43))) ∧ (¬ s0 = 0 → w_X9_lower s0 st (fun r27 st27 => K r27 st27))
def w_X9_used (x1 : Int32) (x2 : Int32) (x3 : Int32) (st : St) (K : Int32 → St → Prop) : Prop :=
  w_X9_areTwo x1 x2 st (fun r3 st3 => (¬ r3 = 0 → w_X9_notWeeks x3 st3 (fun r14 st14 => w_X9_used_b17 x1 x2 x3  K r14 st14)) ∧ (r3 = 0 → w_X9_used_b17 x1 x2 x3  K (-1) st3))
def w_X9_manySwapped (x1 : Int32) (x2 : Int32) (x3 : Int32) (st : St) (K : Int32 → St → Prop) : Prop :=
  vp_in x1 6 ∧ (vp_in x2 6 ∧ (vp_in x1 6 ∧ (vp_in x2 6 ∧ (w_X9_openIn x3 (u2 (u2 st 4 (x1).toNatClampNeg (st 4 (x2).toNatClampNeg)) 4 (x2).toNatClampNeg (st 4 (x1).toNatClampNeg)) (fun r30 st30 => w_X9_bits r30 st30 (fun r33 st33 => vp_in x1 6 ∧ (vp_in x2 6 ∧ (vp_in x1 6 ∧ (K r33 (u2 (u2 st33 4 (x2).toNatClampNeg (st33 4 (x1).toNatClampNeg)) 4 (x1).toNatClampNeg (st 4 (x1).toNatClampNeg)))))))))))
def w_X9_swap_b111 (x1 : Int32) (c31 : Int32 → Int32 → Int32 → St → Prop) (c46 : Int32 → Int32 → Int32 → Int32 → St → Prop) (K : Int32 → St → Prop) (v3 : Int32) (v4 : Int32) (v5 : Int32) (v6 : Int32) (st : St) : Prop :=
  c46 v3 v4 v5 (v6 + 1) st
def w_X9_swap_b86 (x1 : Int32) (c31 : Int32 → Int32 → Int32 → St → Prop) (c46 : Int32 → Int32 → Int32 → Int32 → St → Prop) (K : Int32 → St → Prop) (v3 : Int32) (v4 : Int32) (v5 : Int32) (v6 : Int32) (s0 : Int32) (st : St) : Prop :=
  (v4 < s0 → w_X9_swap_b111 x1 c31 c46 K ((10 * v5) + v6) s0 v5 v6 st) ∧ (¬ v4 < s0 → w_X9_swap_b111 x1 c31 c46 K v3 v4 v5 v6 st)
def w_X9_swap_b117 (x1 : Int32) (c31 : Int32 → Int32 → Int32 → St → Prop) (K : Int32 → St → Prop) (v3 : Int32) (v4 : Int32) (v5 : Int32) (st : St) : Prop :=
  c31 v3 v4 (v5 + 1) st
def w_X9_swap_L46q (x1 : Int32) (c31 : Int32 → Int32 → Int32 → St → Prop) (K : Int32 → St → Prop) (c46 : Int32 → Int32 → Int32 → Int32 → St → Prop) (v3 : Int32) (v4 : Int32) (v5 : Int32) (v6 : Int32) (st : St) : Prop :=
  ((st 0 8) ≤ v6 → w_X9_swap_b117 x1 c31 K v3 v4 v5 st) ∧ (¬ (st 0 8) ≤ v6 → vp_in v5 6 ∧ (vp_in v6 6 ∧ ((¬ (st 4 (v5).toNatClampNeg) = (st 4 (v6).toNatClampNeg) → w_X9_manySwapped v5 v6 x1 st (fun r83 st83 => w_X9_swap_b86 x1 c31 c46 K v3 v4 v5 v6 r83 st83)) ∧ ((st 4 (v5).toNatClampNeg) = (st 4 (v6).toNatClampNeg) → w_X9_swap_b86 x1 c31 c46 K v3 v4 v5 v6 (-9) st))))
def w_X9_swap_L46 (x1 : Int32) (c31 : Int32 → Int32 → Int32 → St → Prop) (K : Int32 → St → Prop) : Nat → Int32 → Int32 → Int32 → Int32 → St → Prop
  | 0, _, _, _, _, _ => False
  | n + 1, v3, v4, v5, v6, st => w_X9_swap_L46q x1 c31 K (fun v3 v4 v5 v6 st => w_X9_swap_L46 x1 c31 K n v3 v4 v5 v6 st) v3 v4 v5 v6 st
def w_X9_swap_L31q (x1 : Int32)  (K : Int32 → St → Prop) (c31 : Int32 → Int32 → Int32 → St → Prop) (v3 : Int32) (v4 : Int32) (v5 : Int32) (st : St) : Prop :=
  ((st 0 8) ≤ v5 → K v3 st) ∧ (¬ (st 0 8) ≤ v5 → ∃ n, w_X9_swap_L46 x1 c31 K n v3 v4 v5 (v5 + 1) st)
def w_X9_swap_L31 (x1 : Int32)  (K : Int32 → St → Prop) : Nat → Int32 → Int32 → Int32 → St → Prop
  | 0, _, _, _, _ => False
  | n + 1, v3, v4, v5, st => w_X9_swap_L31q x1  K (fun v3 v4 v5 st => w_X9_swap_L31 x1  K n v3 v4 v5 st) v3 v4 v5 st
def w_X9_swap (x1 : Int32) (st : St) (K : Int32 → St → Prop) : Prop :=
  w_X9_notWeeks x1 st (fun r1 st1 => (r1 = 0 → w_X9_openIn x1 st1 (fun r20 st20 => w_X9_bits r20 st20 (fun r23 st23 => ∃ n, w_X9_swap_L31 x1  K n (-9) r23 0 st23))) ∧ (¬ r1 = 0 → w_X9_no r1 st1 (fun r11 st11 => K r11 st11)))
def w_X9_apart_b47 (x1 : Int32) (c24 : Int32 → Int32 → St → Prop) (K : Int32 → St → Prop) (v4 : Int32) (s0 : Int32) (s1 : Int32) (st : St) : Prop :=
  c24 (s1 + s0) (v4 + 1) st
def w_X9_apart_b55 (x1 : Int32)  (K : Int32 → St → Prop) (v3 : Int32) (st : St) : Prop :=
  w_X9_forgets  st (fun st56 => K v3 st56)
def w_X9_apart_L24q (x1 : Int32)  (K : Int32 → St → Prop) (c24 : Int32 → Int32 → St → Prop) (v3 : Int32) (v4 : Int32) (st : St) : Prop :=
  (x1 ≤ v4 → w_X9_apart_b55 x1  K v3 st) ∧ (¬ x1 ≤ v4 → w_X9_goesWeek  st (fun st31 => (¬ (st31 0 25) = 0 → w_X9_apart_b47 x1 c24 K v4 0 v3 st31) ∧ ((st31 0 25) = 0 → w_X9_apart_b47 x1 c24 K v4 1 v3 st31)))
def w_X9_apart_L24 (x1 : Int32)  (K : Int32 → St → Prop) : Nat → Int32 → Int32 → St → Prop
  | 0, _, _, _ => False
  | n + 1, v3, v4, st => w_X9_apart_L24q x1  K (fun v3 v4 st => w_X9_apart_L24 x1  K n v3 v4 st) v3 v4 st
def w_X9_apart (x1 : Int32) (st : St) (K : Int32 → St → Prop) : Prop :=
  w_X9_notWeeks x1 st (fun r1 st1 => (r1 = 0 → w_X9_thinks  st1 (fun st16 => ∃ n, w_X9_apart_L24 x1  K n 0 0 st16)) ∧ (¬ r1 = 0 → w_X9_no r1 st1 (fun r11 st11 => K r11 st11)))
def w_X9_enemy_b53 (x1 : Int32) (c19 : Int32 → Int32 → St → Prop) (K : Int32 → St → Prop) (v2 : Int32) (v3 : Int32) (st : St) : Prop :=
  c19 v2 (v3 + 1) st
def w_X9_enemy_b51 (x1 : Int32) (c19 : Int32 → Int32 → St → Prop) (K : Int32 → St → Prop) (v3 : Int32) (st : St) : Prop :=
  w_X9_enemy_b53 x1 c19 K v3 v3 st
def w_X9_enemy_L19q (x1 : Int32)  (K : Int32 → St → Prop) (c19 : Int32 → Int32 → St → Prop) (v2 : Int32) (v3 : Int32) (st : St) : Prop :=
  ((st 0 8) ≤ v3 → K v2 st) ∧ (¬ (st 0 8) ≤ v3 → (v3 = x1 → w_X9_enemy_b53 x1 c19 K v2 v3 st) ∧ (¬ v3 = x1 → (v2 < 0 → w_X9_enemy_b51 x1 c19 K v3 st) ∧ (¬ v2 < 0 → w_X9_hateOf x1 v3 st (fun r39 st39 => w_X9_hateOf x1 v2 st39 (fun r45 st45 => (r39 ≤ r45 → w_X9_enemy_b53 x1 c19 K v2 v3 st45) ∧ (¬ r39 ≤ r45 → w_X9_enemy_b51 x1 c19 K v3 st45))))))
def w_X9_enemy_L19 (x1 : Int32)  (K : Int32 → St → Prop) : Nat → Int32 → Int32 → St → Prop
  | 0, _, _, _ => False
  | n + 1, v2, v3, st => w_X9_enemy_L19q x1  K (fun v2 v3 st => w_X9_enemy_L19 x1  K n v2 v3 st) v2 v3 st
def w_X9_enemy (x1 : Int32) (st : St) (K : Int32 → St → Prop) : Prop :=
  w_X9_isKeeper x1 st (fun r2 st2 => (¬ r2 = 0 → ∃ n, w_X9_enemy_L19 x1  K n (-9) 0 st2) ∧ (r2 = 0 → w_X9_no (-1) st2 (fun r10 st10 => K r10 st10)))
def w_X9_can_b48 (x1 : Int32) (c23 : Int32 → Int32 → St → Prop) (K : Int32 → St → Prop) (v4 : Int32) (s0 : Int32) (s1 : Int32) (st : St) : Prop :=
  c23 (s1 ||| s0) (v4 + 1) st
def w_X9_can_L23q (x1 : Int32)  (K : Int32 → St → Prop) (c23 : Int32 → Int32 → St → Prop) (v3 : Int32) (v4 : Int32) (st : St) : Prop :=
  (4 ≤ v4 → K v3 st) ∧ (¬ 4 ≤ v4 → w_X9_opensAt v4 x1 st (fun r34 st34 => (r34 < 0 → w_X9_can_b48 x1 c23 K v4 0 v3 st34) ∧ (¬ r34 < 0 → w_X9_can_b48 x1 c23 K v4 ((1 : Int32) <<< (v4 &&& 31)) v3 st34)))
def w_X9_can_L23 (x1 : Int32)  (K : Int32 → St → Prop) : Nat → Int32 → Int32 → St → Prop
  | 0, _, _, _ => False
  | n + 1, v3, v4, st => w_X9_can_L23q x1  K (fun v3 v4 st => w_X9_can_L23 x1  K n v3 v4 st) v3 v4 st
def w_X9_can (x1 : Int32) (st : St) (K : Int32 → St → Prop) : Prop :=
  w_X9_bound x1 0 99 st (fun r4 st4 => (r4 = 0 → ∃ n, w_X9_can_L23 x1  K n 0 0 st4) ∧ (¬ r4 = 0 → w_X9_no r4 st4 (fun r14 st14 => K r14 st14)))
def w_X9_row_b24 (x1 : Int32)  (K : Int32 → St → Prop) (v2 : Int32) (st : St) : Prop :=
  (v2 = 0 → vp_in (st 0 29) 12 ∧ (K ((u2 (u2 st 16 ((st 0 29)).toNatClampNeg x1) 0 29 (((u2 st 16 ((st 0 29)).toNatClampNeg x1) 0 29) + 1)) 0 29) (u2 (u2 st 16 ((st 0 29)).toNatClampNeg x1) 0 29 (((u2 st 16 ((st 0 29)).toNatClampNeg x1) 0 29) + 1)))) ∧ (¬ v2 = 0 → w_X9_no v2 st (fun r30 st30 => K r30 st30))
def w_X9_row (x1 : Int32) (st : St) (K : Int32 → St → Prop) : Prop :=
  w_X9_bound x1 0 99 st (fun r4 st4 => (¬ r4 = 0 → w_X9_row_b24 x1  K r4 st4) ∧ (r4 = 0 → (¬ (st4 0 29) = 12 → w_X9_row_b24 x1  K r4 st4) ∧ ((st4 0 29) = 12 → w_X9_row_b24 x1  K (-6) st4)))
def w_X9_judge_b54 (x1 : Int32) (c26 : Int32 → Int32 → St → Prop) (K : Int32 → St → Prop) (v2 : Int32) (v3 : Int32) (s0 : Int32) (st : St) : Prop :=
  vp_in v3 12 ∧ ((s0 = (st 16 (v3).toNatClampNeg) → c26 v2 (v3 + 1) st) ∧ (¬ s0 = (st 16 (v3).toNatClampNeg) → K v3 st))
def w_X9_judge_L26q (x1 : Int32)  (K : Int32 → St → Prop) (c26 : Int32 → Int32 → St → Prop) (v2 : Int32) (v3 : Int32) (st : St) : Prop :=
  (v2 ≤ v3 → K (-9) st) ∧ (¬ v2 ≤ v3 → ((st 0 8) ≤ v3 → K v3 st) ∧ (¬ (st 0 8) ≤ v3 → (¬ v3 = x1 → w_X9_hateOf x1 v3 st (fun r51 st51 => w_X9_judge_b54 x1 c26 K v2 v3 r51 st51)) ∧ (v3 = x1 → w_X9_judge_b54 x1 c26 K v2 v3 0 st)))
def w_X9_judge_L26 (x1 : Int32)  (K : Int32 → St → Prop) : Nat → Int32 → Int32 → St → Prop
  | 0, _, _, _ => False
  | n + 1, v2, v3, st => w_X9_judge_L26q x1  K (fun v2 v3 st => w_X9_judge_L26 x1  K n v2 v3 st) v2 v3 st
def w_X9_judge (x1 : Int32) (st : St) (K : Int32 → St → Prop) : Prop :=
  w_X9_isKeeper x1 st (fun r2 st2 => (¬ r2 = 0 → ∃ n, w_X9_judge_L26 x1  K n (st2 0 29) 0 (u2 st2 0 29 0)) ∧ (r2 = 0 → w_X9_no (-1) st2 (fun r10 st10 => K r10 st10)))
def w_X9_clear  (st : St) (K : Int32 → St → Prop) : Prop :=
  K (st 0 29) (u2 st 0 29 0)
def w_X9_draw (x1 : Int32) (st : St) (K : Int32 → St → Prop) : Prop :=
  ¬ x1 = 0 ∧ (K (((((u2 st 0 30 (((st 0 30) * 1103515245) + 12345)) 0 30) &&& 2147483647) / 65536) - ((((u2 st 0 30 (((st 0 30) * 1103515245) + 12345)) 0 30) &&& 2147483647) / 65536) / x1 * x1) (u2 st 0 30 (((st 0 30) * 1103515245) + 12345)))
def w_X9_lots_b116 (x1 : Int32) (x2 : Int32) (x3 : Int32) (c59 : Int32 → Int32 → Int32 → St → Prop) (c72 : Int32 → Int32 → Int32 → Int32 → St → Prop) (K : Int32 → St → Prop) (v5 : Int32) (v6 : Int32) (v7 : Int32) (v8 : Int32) (st : St) : Prop :=
  c72 v5 v6 v7 (v8 + 1) st
def w_X9_lots_L87q (x1 : Int32) (x2 : Int32) (x3 : Int32) (c59 : Int32 → Int32 → Int32 → St → Prop) (c72 : Int32 → Int32 → Int32 → Int32 → St → Prop) (K : Int32 → St → Prop) (c87 : Int32 → Int32 → Int32 → Int32 → Int32 → St → Prop) (v5 : Int32) (v6 : Int32) (v7 : Int32) (v8 : Int32) (v9 : Int32) (st : St) : Prop :=
  ((st 0 8) ≤ v9 → w_X9_lots_b116 x1 x2 x3 c59 c72 K v5 v6 v7 v8 st) ∧ (¬ (st 0 8) ≤ v9 → w_X9_draw 60 st (fun r104 st104 => w_X9_sets v8 v9 r104 st104 (fun st107 => c87 v5 v6 v7 v8 (v9 + 1) st107)))
def w_X9_lots_L87 (x1 : Int32) (x2 : Int32) (x3 : Int32) (c59 : Int32 → Int32 → Int32 → St → Prop) (c72 : Int32 → Int32 → Int32 → Int32 → St → Prop) (K : Int32 → St → Prop) : Nat → Int32 → Int32 → Int32 → Int32 → Int32 → St → Prop
  | 0, _, _, _, _, _, _ => False
  | n + 1, v5, v6, v7, v8, v9, st => w_X9_lots_L87q x1 x2 x3 c59 c72 K (fun v5 v6 v7 v8 v9 st => w_X9_lots_L87 x1 x2 x3 c59 c72 K n v5 v6 v7 v8 v9 st) v5 v6 v7 v8 v9 st
def w_X9_lots_b151 (x1 : Int32) (x2 : Int32) (x3 : Int32) (c59 : Int32 → Int32 → Int32 → St → Prop) (K : Int32 → St → Prop) (v6 : Int32) (v7 : Int32) (s0 : Int32) (s1 : Int32) (st : St) : Prop :=
  w_X9_forgets  st (fun st155 => c59 (s1 + s0) v6 (v7 + 1) st155)
def w_X9_lots_b122 (x1 : Int32) (x2 : Int32) (x3 : Int32) (c59 : Int32 → Int32 → Int32 → St → Prop) (K : Int32 → St → Prop) (v5 : Int32) (v6 : Int32) (v7 : Int32) (st : St) : Prop :=
  w_X9_goesOn 10 st (fun st125 => (¬ x3 = 0 → w_X9_allHate  st125 (fun r148 st148 => w_X9_lots_b151 x1 x2 x3 c59 K v6 v7 r148 v5 st148)) ∧ (x3 = 0 → w_X9_openOnes  st125 (fun r135 st135 => w_X9_bits r135 st135 (fun r138 st138 => w_X9_lots_b151 x1 x2 x3 c59 K v6 v7 (r138 - v6) v5 st138))))
def w_X9_lots_L72q (x1 : Int32) (x2 : Int32) (x3 : Int32) (c59 : Int32 → Int32 → Int32 → St → Prop) (K : Int32 → St → Prop) (c72 : Int32 → Int32 → Int32 → Int32 → St → Prop) (v5 : Int32) (v6 : Int32) (v7 : Int32) (v8 : Int32) (st : St) : Prop :=
  ((st 0 8) ≤ v8 → w_X9_lots_b122 x1 x2 x3 c59 K v5 v6 v7 st) ∧ (¬ (st 0 8) ≤ v8 → ∃ n, w_X9_lots_L87 x1 x2 x3 c59 c72 K n v5 v6 v7 v8 (v8 + 1) st)
def w_X9_lots_L72 (x1 : Int32) (x2 : Int32) (x3 : Int32) (c59 : Int32 → Int32 → Int32 → St → Prop) (K : Int32 → St → Prop) : Nat → Int32 → Int32 → Int32 → Int32 → St → Prop
  | 0, _, _, _, _, _ => False
  | n + 1, v5, v6, v7, v8, st => w_X9_lots_L72q x1 x2 x3 c59 K (fun v5 v6 v7 v8 st => w_X9_lots_L72 x1 x2 x3 c59 K n v5 v6 v7 v8 st) v5 v6 v7 v8 st
def w_X9_lots_L59q (x1 : Int32) (x2 : Int32) (x3 : Int32)  (K : Int32 → St → Prop) (c59 : Int32 → Int32 → Int32 → St → Prop) (v5 : Int32) (v6 : Int32) (v7 : Int32) (st : St) : Prop :=
  (x1 ≤ v7 → K v5 st) ∧ (¬ x1 ≤ v7 → w_X9_thinks  st (fun st66 => ∃ n, w_X9_lots_L72 x1 x2 x3 c59 K n v5 v6 v7 0 st66))
def w_X9_lots_L59 (x1 : Int32) (x2 : Int32) (x3 : Int32)  (K : Int32 → St → Prop) : Nat → Int32 → Int32 → Int32 → St → Prop
  | 0, _, _, _, _ => False
  | n + 1, v5, v6, v7, st => w_X9_lots_L59q x1 x2 x3  K (fun v5 v6 v7 st => w_X9_lots_L59 x1 x2 x3  K n v5 v6 v7 st) v5 v6 v7 st
def w_X9_lots_b27 (x1 : Int32) (x2 : Int32) (x3 : Int32)  (K : Int32 → St → Prop) (v4 : Int32) (st : St) : Prop :=
  (v4 = 0 → w_X9_openOnes  (u2 st 0 30 x2) (fun r48 st48 => w_X9_bits r48 st48 (fun r51 st51 => ∃ n, w_X9_lots_L59 x1 x2 x3  K n 0 r51 0 st51))) ∧ (¬ v4 = 0 → w_X9_no v4 st (fun r35 st35 => K r35 st35))
def w_X9_lots (x1 : Int32) (x2 : Int32) (x3 : Int32) (st : St) (K : Int32 → St → Prop) : Prop :=
  w_X9_bound x1 1 20 st (fun r4 st4 => (¬ r4 = 0 → w_X9_lots_b27 x1 x2 x3  K r4 st4) ∧ (r4 = 0 → w_X9_isIn x3 0 1 st4 (fun r17 st17 => (¬ r17 = 0 → w_X9_lots_b27 x1 x2 x3  K r4 st17) ∧ (r17 = 0 → w_X9_lots_b27 x1 x2 x3  K (-2) st17))))
def w_X9_count (x1 : Int32) (st : St) (K : Int32 → St → Prop) : Prop :=
  w_X9_isIn x1 11 16 st (fun r5 st5 => (r5 = 0 → (x1 = 0 → K (st5 0 8) st5) ∧ (¬ x1 = 0 → (x1 = 1 → K (st5 0 9) st5) ∧ (¬ x1 = 1 → (x1 = 2 → K (st5 0 10) st5) ∧ (¬ x1 = 2 → (x1 = 3 → w_X9_openOnes  st5 (fun r84 st84 => K r84 st84)) ∧ (¬ x1 = 3 → (x1 = 4 → w_X9_allHate  st5 (fun r89 st89 => K r89 st89)) ∧ (¬ x1 = 4 → (x1 = 5 → K (st5 0 16) st5) ∧ (¬ x1 = 5 → (x1 = 6 → K (st5 0 29) st5) ∧ (¬ x1 = 6 → (x1 = 7 → K (st5 0 23) st5) ∧ (¬ x1 = 7 → K (-9) st5))))))))) ∧ (¬ r5 = 0 → vp_in (x1 - 10) 7 ∧ (K (st5 1 ((x1 - 10)).toNatClampNeg) st5)))
end
section
/-! pure part: folds, numbers, the leaves -/
def fo {σ : Type} : Nat → (Nat → σ → σ) → σ → σ
  | 0, _, s => s
  | n + 1, f, s => f n (fo n f s)
def fr {σ : Type} (a n : Nat) (f : Nat → σ → σ) (s : σ) : σ := fo (n - a) (fun i => f (a + i)) s
theorem fr_self {σ : Type} (a : Nat) (f : Nat → σ → σ) (s : σ) : fr a a f s = s := by simp [fr, fo]
theorem fr_succ {σ : Type} {a i : Nat} (h : a ≤ i) (f : Nat → σ → σ) (s : σ) : fr a (i + 1) f s = f i (fr a i f s) := by
  have e : i + 1 - a = (i - a) + 1 := by omega
  simp only [fr, e, fo]
  rw [Nat.add_sub_cancel' h]
/-- a loop that counts: its state goes by f -/
theorem lo_fr {σ : Type} (W : Nat → Nat → σ → Prop) (f : Nat → σ → σ) (I : Nat → σ → Prop) {e i0 : Nat} (s0 : σ) (hi : i0 ≤ e) (h0 : I i0 s0) (hI : ∀ i s, i0 ≤ i → i < e → I i s → I (i + 1) (f i s))
    (hx : I e (fr i0 e f s0) → ∀ n, W (n + 1) e (fr i0 e f s0)) (hs : ∀ n i s, i0 ≤ i → i < e → I i s → W n (i + 1) (f i s) → W (n + 1) i s) : ∃ n, W n i0 s0 := by
  have key : ∀ d i, i0 ≤ i → i + d = e → I i (fr i0 i f s0) → W (d + 1) i (fr i0 i f s0) := by
    intro d
    induction d with
    | zero =>
      intro i h1 h2 h3
      have : i = e := by omega
      subst this
      exact hx h3 0
    | succ d ih =>
      intro i h1 h2 h3
      have h4 := ih (i + 1) (by omega) (by omega) (by rw [fr_succ h1]; exact hI i _ h1 (by omega) h3)
      rw [fr_succ h1] at h4
      exact hs (d + 1) i _ h1 (by omega) h3 h4
  have h := key (e - i0) i0 (Nat.le_refl _) (by omega) (by rw [fr_self]; exact h0)
  rw [fr_self] at h
  exact ⟨_, h⟩
theorem fr_inv {σ : Type} (I : Nat → σ → Prop) (f : Nat → σ → σ) {e i0 : Nat} {s0 : σ} (hi : i0 ≤ e) (h0 : I i0 s0) (hI : ∀ i s, i0 ≤ i → i < e → I i s → I (i + 1) (f i s)) : I e (fr i0 e f s0) := by
  have key : ∀ d i, i0 ≤ i → i = i0 + d → i ≤ e → I i (fr i0 i f s0) := by
    intro d
    induction d with
    | zero => intro i h1 h2 h3; have : i = i0 := by omega
              subst this; rw [fr_self]; exact h0
    | succ d ih =>
      intro i h1 h2 h3
      obtain ⟨j, rfl⟩ : ∃ j, i = j + 1 := ⟨i - 1, by omega⟩
      rw [fr_succ (by omega)]
      exact hI j _ (by omega) (by omega) (ih j (by omega) (by omega) (by omega))
  exact key (e - i0) e hi (by omega) (Nat.le_refl _)
theorem n_lt0 {n : Nat} (h : n < 2147483648) : ¬ nI n < 0 := nI_pos h
theorem n_le0 {n : Nat} (h : n < 2147483648) : 0 ≤ nI n := nI_pos' h
theorem i_nlt {x y : Int32} : ¬ x < y ↔ y ≤ x := Int32.not_lt
theorem i_nle {x y : Int32} : ¬ x ≤ y ↔ y < x := Int32.not_le
def atF (n : Nat) (f : Nat → Int32) (x : Int32) : Int32 := if x < 0 then 0 else if nI n ≤ x then 0 else f x.toNatClampNeg
theorem vp_in_of2 {n : Nat} (hn : n < 2147483648) {x : Int32} (h1 : ¬ x < 0) (h2 : ¬ nI n ≤ x) : vp_in x n := by
  obtain ⟨j, hj, rfl⟩ := nI_of h1
  have : j < n := Nat.not_le.mp fun q => h2 (nI_le q hj)
  exact vp_in_nI this hn
theorem s_atX {k n : Nat} {x : Int32} {st : St} {K : Int32 → St → Prop} (hn : n < 2147483648) (h : K (atF n (st k) x) st) : w_X8_at k n x st K := by
  unfold w_X8_at
  refine ⟨fun h1 => ?_, fun h1 => ⟨fun h2 => ?_, fun h2 => ⟨vp_in_of2 hn h1 h2, ?_⟩⟩⟩
  · simpa [atF, h1] using h
  · simpa [atF, h1, h2] using h
  · simpa [atF, h1, h2] using h
theorem atF_in {n i : Nat} (hi : i < n) (hn : n < 2147483648) (f : Nat → Int32) : atF n f (nI i) = f i := by
  simp only [atF, if_neg (n_lt0 (show i < 2147483648 by omega)), if_neg (nI_ge hi hn)]
  rw [nI_clamp (show i < 2 ^ 31 by omega)]
theorem s_at {k n i : Nat} {st : St} {K : Int32 → St → Prop} (hi : i < n) (hn : n < 2147483648) (h : K (st k i) st) : w_X8_at k n (nI i) st K :=
  s_atX hn (by rw [atF_in hi hn]; exact h)
theorem s_put {k n i : Nat} {v : Int32} {st : St} {K : St → Prop} (hi : i < n) (hn : n < 2147483648) (h : K (u2 st k i v)) : w_X8_put k n (nI i) v st K := by
  unfold w_X8_put
  refine ⟨fun h1 => absurd h1 (n_lt0 (by omega)), fun _ => ⟨fun h2 => absurd h2 (nI_ge hi hn), fun _ => ⟨vp_in_nI hi hn, ?_⟩⟩⟩
  rw [nI_clamp (show i < 2 ^ 31 by omega)]
  exact h
def rangeF (v a b : Int32) : Int32 := if v < a then -4 else if b < v then -6 else 0
theorem s_range {v a b : Int32} {st : St} {K : Int32 → St → Prop} (h : K (rangeF v a b) st) : w_X8_range v a b st K := by
  unfold w_X8_range
  simp only [rangeF, i_nle] at *
  refine ⟨fun h1 => ⟨fun h2 => ?_, fun h2 => ?_⟩, fun h1 => ?_⟩
  · rw [if_neg (i_nlt.mpr h1), if_neg (i_nlt.mpr h2)] at h; exact h
  · rw [if_neg (i_nlt.mpr h1), if_pos h2] at h; exact h
  · rw [if_pos h1] at h; exact h
def choiceF (v g : Int32) : Int32 := if v < 0 then -2 else if g < v then -2 else 0
theorem s_choice {v g : Int32} {st : St} {K : Int32 → St → Prop} (h : K (choiceF v g) st) : w_X8_choice v g st K := by
  unfold w_X8_choice
  refine ⟨fun h1 => ?_, fun h1 => ⟨fun h2 => ?_, fun h2 => ?_⟩⟩ <;> simpa [choiceF, h1, *] using h
def firstF (a b c : Int32) : Int32 := if a = 0 then (if b = 0 then c else b) else a
theorem s_firstOf {a b c : Int32} {st : St} {K : Int32 → St → Prop} (h : K (firstF a b c) st) : w_X8_firstOf a b c st K := by
  unfold w_X8_firstOf
  refine ⟨fun h1 => ⟨fun h2 => ?_, fun h2 => ?_⟩, fun h1 => ?_⟩ <;> simpa [firstF, h1, *] using h
def bitF (b x : Int32) : Int32 := if x < 0 then 0 else if 31 ≤ x then 0 else (b >>> (x &&& 31)) &&& 1
theorem s_bit {b x : Int32} {st : St} {K : Int32 → St → Prop} (h : K (bitF b x) st) : w_X8_bit b x st K := by
  unfold w_X8_bit
  refine ⟨fun h1 => ?_, fun h1 => ⟨fun h2 => ?_, fun h2 => ?_⟩⟩ <;> simpa [bitF, h1, *] using h
def townF (x : Int32) : Int32 := if x < 0 then 0 else if 4 ≤ x then 0 else 1
theorem s_isTown {x : Int32} {st : St} {K : Int32 → St → Prop} (h : K (townF x) st) : w_X8_isTown x st K := by
  unfold w_X8_isTown
  refine ⟨fun h1 => ?_, fun h1 => ⟨fun h2 => ?_, fun h2 => ?_⟩⟩ <;> simpa [townF, h1, *] using h
theorem s_twoName {p q : Nat} {st : St} {K : Int32 → St → Prop} (hp : p < 6) (hq : q < 6) (h : K (nI (10 * min p q + max p q)) st) : w_X8_twoName (nI p) (nI q) st K := by
  unfold w_X8_twoName
  have e : ∀ p, p < 6 → ∀ q, q < 6 → (10 * (if nI q < nI p then nI q else nI p)) + (if nI p < nI q then nI q else nI p) = nI (10 * min p q + max p q) := by decide +kernel
  rw [e p hp q hq]; exact h
theorem s_copy {k n k' : Nat} {st : St} {K : St → Prop} (hn : n < 2147483648) (h : K (u1 st k' (va_cpy (st k) (st k') 0 0 n))) : w_X8_copy k n k' n st K := by
  unfold w_X8_copy
  have e : (if nI n < nI n then nI n else nI n) = nI n := by split <;> rfl
  rw [e, nI_clamp (show n < 2 ^ 31 from hn)]
  exact ⟨⟨n_lt0 hn, Nat.le_refl _, Nat.le_refl _⟩, h⟩
def pc (n : Nat) : Nat := (List.range 10).foldl (fun s i => s + (n / 2 ^ i) % 2) 0
def ushF (x : Int32) (s : Int32) : Int32 := (x.toUInt32 >>> (s.toUInt32 &&& Int32.toUInt32 31)).toInt32
def bc1 (x : Int32) : Int32 := x - (ushF x 1 &&& 1431655765)
def bc2 (a : Int32) : Int32 := (a &&& 858993459) + (ushF a 2 &&& 858993459)
def bc3 (b : Int32) : Int32 := (b + ushF b 4) &&& 252645135
def bc4 (d : Int32) : Int32 := d + ushF d 8
def bc5 (e : Int32) : Int32 := e + ushF e 16
def bcF (x : Int32) : Int32 := bc5 (bc4 (bc3 (bc2 (bc1 x)))) &&& 63
theorem bcF_pc : ∀ n, n < 256 → bcF (nI n) = nI (pc n) := by decide +kernel
theorem s_bitCount {n : Nat} {st : St} {K : Int32 → St → Prop} (hn : n < 256) (h : K (nI (pc n)) st) : w_J6_bitCount_0f7a4 (nI n) st K := by
  rw [← bcF_pc n hn] at h
  exact h
end
section
/-! pure part: a country by itself, and where it lies -/
abbrev Ct : Type := Nat → Nat → Int32
def cv (st : St) (k : Nat) : Ct := fun j => if j < 8 then st (k + j) else fun _ => 0
def sv (st : St) (k : Nat) (c : Ct) : St := fun i => if k ≤ i ∧ i < k + 8 then c (i - k) else st i
def nC (c : Ct) : Prop := ∀ j, 8 ≤ j → c j = fun _ => 0
theorem sv_at {st : St} {k : Nat} {c : Ct} {j : Nat} (hj : j < 8) : sv st k c (k + j) = c j := by
  unfold sv
  rw [if_pos ⟨by omega, by omega⟩, Nat.add_sub_cancel_left]
theorem sv_0 {st : St} {k : Nat} {c : Ct} : sv st k c k = c 0 := sv_at (j := 0) (by decide)
theorem sv_off {st : St} {k : Nat} {c : Ct} {i : Nat} (h : i < k ∨ k + 8 ≤ i) : sv st k c i = st i := by
  unfold sv
  rw [if_neg (by omega)]
theorem cv_sv {st : St} {k : Nat} {c : Ct} (h : nC c) : cv (sv st k c) k = c := by
  funext j
  unfold cv
  by_cases hj : j < 8
  · rw [if_pos hj, sv_at hj]
  · rw [if_neg hj, h j (by omega)]
theorem cv_off {st : St} {k k' : Nat} {c : Ct} (h : k' + 8 ≤ k ∨ k + 8 ≤ k') : cv (sv st k c) k' = cv st k' := by
  funext j
  unfold cv
  by_cases hj : j < 8
  · rw [if_pos hj, if_pos hj, sv_off (by omega)]
  · rw [if_neg hj, if_neg hj]
theorem sv_cv {st : St} {k : Nat} : sv st k (cv st k) = st := by
  funext i
  unfold sv cv
  split
  next h =>
    rw [if_pos (by omega)]
    congr 1
    omega
  next => rfl
theorem sv_sv {st : St} {k : Nat} {c c' : Ct} : sv (sv st k c) k c' = sv st k c' := by
  funext i
  unfold sv
  split <;> rfl
theorem nC_cv {st : St} {k : Nat} : nC (cv st k) := fun j h => by simp [cv, Nat.not_lt.mpr h]
theorem sv_u1 {st : St} {k : Nat} {c : Ct} {j : Nat} (hj : j < 8) (f : Nat → Int32) : u1 (sv st k c) (k + j) f = sv st k (u1 c j f) := by
  funext a
  unfold u1 sv
  by_cases ha : a = k + j
  · subst ha
    rw [if_pos rfl, if_pos ⟨by omega, by omega⟩, Nat.add_sub_cancel_left]
    exact (if_pos rfl).symm
  · rw [if_neg ha]
    by_cases h : k ≤ a ∧ a < k + 8
    · rw [if_pos h, if_pos h]
      exact (if_neg (by omega)).symm
    · rw [if_neg h, if_neg h]
theorem sv_u2 {st : St} {k : Nat} {c : Ct} {j : Nat} (hj : j < 8) (i : Nat) (v : Int32) : u2 (sv st k c) (k + j) i v = sv st k (u2 c j i v) := by
  unfold u2
  rw [sv_at hj, sv_u1 hj]
theorem sv_u20 {st : St} {k : Nat} {c : Ct} (i : Nat) (v : Int32) : u2 (sv st k c) k i v = sv st k (u2 c 0 i v) := sv_u2 (j := 0) (by decide) i v
theorem nC_u1 {c : Ct} (h : nC c) {j : Nat} (hj : j < 8) (f : Nat → Int32) : nC (u1 c j f) := fun i hi => by
  unfold u1
  rw [if_neg (by omega)]
  exact h i hi
theorem nC_u2 {c : Ct} (h : nC c) {j : Nat} (hj : j < 8) (i : Nat) (v : Int32) : nC (u2 c j i v) := nC_u1 h hj _
theorem u2_same {st : St} {k i : Nat} {v : Int32} : u2 st k i v k i = v := by simp [u2, u1, upd]
theorem u2_ne {st : St} {k i k' i' : Nat} {v : Int32} (h : k' ≠ k ∨ i' ≠ i) : u2 st k i v k' i' = st k' i' := by
  unfold u2 u1 upd
  by_cases h1 : k' = k
  · subst h1
    have h2 : i' ≠ i := h.resolve_left (fun z => z rfl)
    simp [h2]
  · simp [h1]
theorem u2_off {st : St} {k i k' : Nat} {v : Int32} (h : k' ≠ k) : u2 st k i v k' = st k' := by
  unfold u2 u1
  rw [if_neg h]
def hI (p q : Nat) : Nat := 6 * min p q + max p q
theorem hI_lt {p q : Nat} (hp : p < 6) (hq : q < 6) : hI p q < 36 := by unfold hI; omega
theorem hI_e : ∀ p, p < 6 → ∀ q, q < 6 → (((if nI q < nI p then nI q else nI p) * 6) + (if nI p < nI q then nI q else nI p)) = nI (hI p q) := by decide +kernel
theorem s_hateOf {st : St} {k : Nat} {c : Ct} {p q : Nat} {K : Int32 → St → Prop} (hp : p < 6) (hq : q < 6) (h : K (c 4 (hI p q)) (sv st k c)) : w_X1_hateOf k (nI p) (nI q) (sv st k c) K := by
  unfold w_X1_hateOf
  rw [hI_e p hp q hq]
  refine s_at (hI_lt hp hq) (by decide) ?_
  rw [sv_at (by decide)]
  exact h
def heldF (v : Int32) : Int32 := if 0 < (if v < 99 then v else 99) then (if v < 99 then v else 99) else 0
theorem s_setHate {st : St} {k : Nat} {c : Ct} {p q : Nat} {v : Int32} {K : St → Prop} (hp : p < 6) (hq : q < 6) (h : K (sv st k (u2 c 4 (hI p q) (heldF v)))) : w_X1_setHate k (nI p) (nI q) v (sv st k c) K := by
  unfold w_X1_setHate
  rw [hI_e p hp q hq]
  refine s_put (hI_lt hp hq) (by decide) ?_
  rw [sv_u2 (by decide)]
  exact h
end
section
/-! pure part: a week of a country (the class's side) -/
theorem sv_1 {st : St} {k : Nat} {c : Ct} : sv st k c (k + 1) = c 1 := sv_at (by decide)
theorem sv_2 {st : St} {k : Nat} {c : Ct} : sv st k c (k + 2) = c 2 := sv_at (by decide)
theorem sv_3 {st : St} {k : Nat} {c : Ct} : sv st k c (k + 3) = c 3 := sv_at (by decide)
theorem sv_4 {st : St} {k : Nat} {c : Ct} : sv st k c (k + 4) = c 4 := sv_at (by decide)
theorem sv_5 {st : St} {k : Nat} {c : Ct} : sv st k c (k + 5) = c 5 := sv_at (by decide)
theorem sv_6 {st : St} {k : Nat} {c : Ct} : sv st k c (k + 6) = c 6 := sv_at (by decide)
theorem sv_7 {st : St} {k : Nat} {c : Ct} : sv st k c (k + 7) = c 7 := sv_at (by decide)
def fadingF (k f : Int32) : Int32 := if k = 1 then 0 else if k = 2 then 2 else if k = 3 then f / 2 + 1 else if k = 4 then 0 else if k = 5 then 3 else 1
theorem s_fading {k f : Int32} {st : St} {K : Int32 → St → Prop} (h : K (fadingF k f) st) : w_X2_fading k f st K := by
  unfold w_X2_fading
  refine ⟨fun h1 => ?_, fun h1 => ⟨fun h2 => ?_, fun h2 => ⟨fun h3 => ?_, fun h3 => ⟨fun h4 => ?_, fun h4 => ⟨fun h5 => ?_, fun h5 => ?_⟩⟩⟩⟩⟩ <;> simpa [fadingF, *] using h
def stirringF (k f : Int32) : Int32 := if k = 1 then 1 else if k = 4 then 1 + f / 4 else 0
theorem s_stirring {k f : Int32} {st : St} {K : Int32 → St → Prop} (h : K (stirringF k f) st) : w_X2_stirring k f st K := by
  unfold w_X2_stirring
  refine ⟨fun h1 => ?_, fun h1 => ⟨fun h2 => ?_, fun h2 => ?_⟩⟩ <;> simpa [stirringF, *] using h
def wagingF (k f : Int32) : Int32 := if k = 1 then 2 * (f + 1) else if k = 2 then 5 else if k = 3 then 0 else if k = 4 then 2 * (f + 1) - 1 else if k = 5 then 2 else f + 1
theorem s_wage {k f : Int32} {st : St} {K : Int32 → St → Prop} (h : K (wagingF k f) st) : w_X2_wage k f st K := by
  unfold w_X2_wage
  refine ⟨fun h1 => ?_, fun h1 => ⟨fun h2 => ?_, fun h2 => ⟨fun h3 => ?_, fun h3 => ⟨fun h4 => ?_, fun h4 => ⟨fun h5 => ?_, fun h5 => ?_⟩⟩⟩⟩⟩ <;> simpa [wagingF, *] using h
def fadeF (c : Ct) (p : Nat) : Int32 := fadingF (c 1 p) (c 2 p)
def stirF (c : Ct) (p : Nat) : Int32 := stirringF (c 1 p) (c 2 p)
def wageF (c : Ct) (p : Nat) : Int32 := wagingF (c 1 p) (c 2 p)
theorem s_fadeOf {st : St} {k : Nat} {c : Ct} {p : Nat} {K : Int32 → St → Prop} (hp : p < 6) (h : K (fadeF c p) (sv st k c)) : w_X1_fadeOf k (nI p) (sv st k c) K := by
  unfold w_X1_fadeOf
  refine s_at hp (by decide) (s_at hp (by decide) (s_fading ?_))
  rw [sv_1, sv_2]
  exact h
theorem s_stirOf {st : St} {k : Nat} {c : Ct} {p : Nat} {K : Int32 → St → Prop} (hp : p < 6) (h : K (stirF c p) (sv st k c)) : w_X1_stirOf k (nI p) (sv st k c) K := by
  unfold w_X1_stirOf
  refine s_at hp (by decide) (s_at hp (by decide) (s_stirring ?_))
  rw [sv_1, sv_2]
  exact h
theorem s_wageOf {st : St} {k : Nat} {c : Ct} {p : Nat} {K : Int32 → St → Prop} (hp : p < 6) (h : K (wageF c p) (sv st k c)) : w_X1_wageOf k (nI p) (sv st k c) K := by
  unfold w_X1_wageOf
  refine s_at hp (by decide) (s_at hp (by decide) (s_wage ?_))
  rw [sv_1, sv_2]
  exact h
def chgF (c : Ct) (p q : Nat) : Int32 := if c 3 p = -1 then 0 else if c 3 q = -1 then 0 else if c 3 p = c 3 q then (-fadeF c p) - fadeF c q else stirF c p + stirF c q
theorem s_change {st : St} {k : Nat} {c : Ct} {p q : Nat} {K : Int32 → St → Prop} (hp : p < 6) (hq : q < 6) (h : K (chgF c p q) (sv st k c)) : w_X1_change k (nI p) (nI q) (sv st k c) K := by
  unfold w_X1_change
  refine s_at hp (by decide) (s_at hq (by decide) ?_)
  rw [sv_3]
  unfold chgF at h
  refine ⟨fun h1 => ?_, fun h1 => ⟨fun h2 => ⟨fun h3 => ?_, fun h3 => ?_⟩, fun h2 => ?_⟩⟩
  · rw [if_pos h1] at h; exact h
  · rw [if_neg h1, if_neg h2, if_neg h3] at h; exact s_stirOf hp (s_stirOf hq h)
  · rw [if_neg h1, if_neg h2, if_pos h3] at h; exact s_fadeOf hp (s_fadeOf hq h)
  · rw [if_neg h1, if_pos h2] at h; exact h
def stepH (p q : Nat) (c : Ct) : Ct := u2 c 4 (hI p q) (heldF (c 4 (hI p q) + chgF c p q))
theorem stepH_off {p q : Nat} {c : Ct} {j : Nat} (h : j ≠ 4) : stepH p q c j = c j := u2_off h
def hatesF (n : Nat) (c : Ct) : Ct := fr 0 n (fun p c => fr (p + 1) n (fun q c => stepH p q c) c) c
theorem nI_inc (p : Nat) : nI p + 1 = nI (p + 1) := nI_1 p
theorem s_pw24 {st : St} {k p n : Nat} {c : Ct} {c12 : Int32 → St → Prop} {K : Int32 → St → Prop} (hp : p < n) (hn : n ≤ 6) (h7 : c 0 7 = nI n) (h : c12 (nI (p + 1)) (sv st k (fr (p + 1) n (fun q c => stepH p q c) c))) :
    ∃ m, w_X1_passWeek_L24 k c12 K m (nI p) (nI (p + 1)) (sv st k c) := by
  refine lo_fr (fun m q c => w_X1_passWeek_L24 k c12 K m (nI p) (nI q) (sv st k c)) (fun q c => stepH p q c) (fun _ c => c 0 7 = nI n) c (show p + 1 ≤ n by omega) h7 (fun i s _ _ h => by rw [stepH_off (by decide)]; exact h) (fun h7 m => ?_) (fun m q s h1 h2 h7 hw => ?_)
  · rw [w_X1_passWeek_L24, w_X1_passWeek_L24q, sv_0, h7]
    refine ⟨fun _ => ?_, fun h9 => absurd (nI_le (Nat.le_refl n) (by omega)) h9⟩
    rw [w_X1_passWeek_b57, nI_inc]
    exact h
  · rw [w_X1_passWeek_L24, w_X1_passWeek_L24q, sv_0, h7]
    refine ⟨fun h9 => absurd h9 (nI_ge h2 (by omega)), fun _ => ?_⟩
    refine s_hateOf (by omega) (by omega) (s_change (by omega) (by omega) (s_setHate (by omega) (by omega) ?_))
    rw [nI_inc]
    exact hw
theorem fr_comp {n a : Nat} {c : Ct} {f : Nat → Ct → Ct} {j : Nat} (hf : ∀ i c, f i c j = c j) (h : a ≤ n) : fr a n f c j = c j :=
  fr_inv (fun _ (x : Ct) => x j = c j) f h rfl (fun i s _ _ e => by rw [hf]; exact e)
theorem rowH_off {n p : Nat} {c : Ct} {j : Nat} (hp : p < n) (h : j ≠ 4) : fr (p + 1) n (fun q c => stepH p q c) c j = c j := fr_comp (fun i c => stepH_off h) (by omega)
theorem s_pw12 {st : St} {k n : Nat} {c : Ct} {K : Int32 → St → Prop} (hn : n ≤ 6) (h7 : c 0 7 = nI n) (h : w_X1_passWeek_b63 k K (sv st k (hatesF n c))) :
    ∃ m, w_X1_passWeek_L12 k K m 0 (sv st k c) := by
  have e := lo_fr (fun m p c => w_X1_passWeek_L12 k K m (nI p) (sv st k c)) (fun p c => fr (p + 1) n (fun q c => stepH p q c) c) (fun _ c => c 0 7 = nI n) c (Nat.zero_le n) h7 (fun i s _ h2 h => by rw [rowH_off h2 (by decide)]; exact h) (fun h7 m => ?_) (fun m p s h1 h2 h7 hw => ?_)
  · exact e
  · rw [w_X1_passWeek_L12, w_X1_passWeek_L12q, sv_0, h7]
    refine ⟨fun _ => h, fun h9 => absurd (nI_le (Nat.le_refl n) (by omega)) h9⟩
  · rw [w_X1_passWeek_L12, w_X1_passWeek_L12q, sv_0, h7]
    refine ⟨fun h9 => absurd h9 (nI_ge h2 (by omega)), fun _ => ?_⟩
    rw [nI_inc]
    exact s_pw24 h2 hn h7 hw
end
section
/-! pure part: who opens what, and the letters of a week -/
def oI : Option (Nat × Nat) → Int32
  | none => -9
  | some (p, q) => nI (10 * p + q)
theorem s_bothIn {st : St} {k : Nat} {c : Ct} {t : Int32} {p q : Nat} {K : Int32 → St → Prop} (hp : p < 6) (hq : q < 6) (h : K (if c 3 p = t ∧ c 3 q = t then 1 else 0) (sv st k c)) : w_X1_areBothIn k t (nI p) (nI q) (sv st k c) K := by
  unfold w_X1_areBothIn
  refine s_at hp (by decide) ?_
  rw [sv_3]
  refine ⟨fun h1 => ?_, fun h1 => s_at hq (by decide) ?_⟩
  · rw [if_neg (fun z => h1 z.1)] at h; exact h
  · rw [sv_3]
    refine ⟨fun h2 => ?_, fun h2 => ?_⟩
    · rw [if_neg (fun z => h2 z.2)] at h; exact h
    · rw [if_pos ⟨h1, h2⟩] at h; exact h
def oS (c : Ct) (t d : Int32) (p q : Nat) (s : Option (Nat × Nat) × Int32) : Option (Nat × Nat) × Int32 :=
  if c 3 p = t ∧ c 3 q = t then (if c 4 (hI p q) < d then s else if s.2 ≤ c 4 (hI p q) then s else (some (p, q), c 4 (hI p q))) else s
def opS (c : Ct) (n : Nat) (t d : Int32) : Option (Nat × Nat) × Int32 := fr 0 n (fun p s => fr (p + 1) n (fun q s => oS c t d p q s) s) (none, 100)
theorem m10 {p q : Nat} (h : p < q) : 10 * min p q + max p q = 10 * p + q := by omega
theorem s_op44 {st : St} {k n p : Nat} {c : Ct} {t d x1 : Int32} {s : Option (Nat × Nat) × Int32} {c29 : Int32 → Int32 → Int32 → Int32 → Int32 → St → Prop} {K : Int32 → St → Prop} (hp : p < n) (hn : n ≤ 6) (h7 : c 0 7 = nI n) (hd : (-9) < d)
    (h : c29 t d (oI (fr (p + 1) n (fun q s => oS c t d p q s) s).1) (fr (p + 1) n (fun q s => oS c t d p q s) s).2 (nI (p + 1)) (sv st k c)) : ∃ m, w_X1_opener_L44 k x1 c29 K m t d (oI s.1) s.2 (nI p) (nI (p + 1)) (sv st k c) := by
  refine lo_fr (fun m q s => w_X1_opener_L44 k x1 c29 K m t d (oI s.1) s.2 (nI p) (nI q) (sv st k c)) (fun q s => oS c t d p q s) (fun _ _ => True) s (show p + 1 ≤ n by omega) trivial (fun _ _ _ _ _ => trivial) (fun _ m => ?_) (fun m q s h1 h2 _ hw => ?_)
  · rw [w_X1_opener_L44, w_X1_opener_L44q, sv_0, h7]
    refine ⟨fun _ => ?_, fun h9 => absurd (nI_le (Nat.le_refl n) (by omega)) h9⟩
    rw [w_X1_opener_b112, nI_inc]
    exact h
  · rw [w_X1_opener_L44, w_X1_opener_L44q, sv_0, h7]
    refine ⟨fun h9 => absurd h9 (nI_ge h2 (by omega)), fun _ => ?_⟩
    refine s_bothIn (by omega) (by omega) ?_
    by_cases hb : c 3 p = t ∧ c 3 q = t
    · rw [if_pos hb]
      refine ⟨fun h9 => absurd h9 (by decide), fun _ => s_hateOf (by omega) (by omega) ?_⟩
      simp only [oS, if_pos hb] at hw
      rw [w_X1_opener_b78, w_X1_opener_b106, nI_inc]
      refine ⟨fun h3 => ?_, fun h3 => ⟨fun h4 => ?_, fun h4 => s_twoName (by omega) (by omega) ?_⟩⟩
      · rw [if_pos h3] at hw; exact hw
      · rw [if_neg h3, if_pos h4] at hw; exact hw
      · rw [if_neg h3, if_neg h4] at hw
        rw [w_X1_opener_b106, nI_inc, m10 (by omega)]
        exact hw
    · rw [if_neg hb]
      refine ⟨fun _ => ?_, fun h9 => absurd rfl h9⟩
      simp only [oS, if_neg hb] at hw
      rw [w_X1_opener_b78, w_X1_opener_b106, nI_inc]
      exact ⟨fun _ => hw, fun h3 => absurd hd h3⟩
theorem s_op29 {st : St} {k n : Nat} {c : Ct} {t d x1 : Int32} {K : Int32 → St → Prop} (hn : n ≤ 6) (h7 : c 0 7 = nI n) (hd : (-9) < d) (h : K (oI (opS c n t d).1) (sv st k c)) :
    ∃ m, w_X1_opener_L29 k x1 K m t d (-9) 100 0 (sv st k c) := by
  refine lo_fr (fun m p s => w_X1_opener_L29 k x1 K m t d (oI s.1) s.2 (nI p) (sv st k c)) (fun p s => fr (p + 1) n (fun q s => oS c t d p q s) s) (fun _ _ => True) (none, 100) (Nat.zero_le n) trivial (fun _ _ _ _ _ => trivial) (fun _ m => ?_) (fun m p s h1 h2 _ hw => ?_)
  · rw [w_X1_opener_L29, w_X1_opener_L29q, sv_0, h7]
    exact ⟨fun _ => h, fun h9 => absurd (nI_le (Nat.le_refl n) (by omega)) h9⟩
  · rw [w_X1_opener_L29, w_X1_opener_L29q, sv_0, h7]
    refine ⟨fun h9 => absurd h9 (nI_ge h2 (by omega)), fun _ => ?_⟩
    rw [nI_inc]
    exact s_op44 h2 hn h7 hd hw
def openerF (c : Ct) (n l : Nat) : Option (Nat × Nat) := (opS c n (c 6 l) (c 5 l)).1
theorem s_opener {st : St} {k n l : Nat} {c : Ct} {K : Int32 → St → Prop} (hl : l < 6) (hn : n ≤ 6) (h7 : c 0 7 = nI n) (hd : (-9) < c 5 l) (h : K (oI (openerF c n l)) (sv st k c)) : w_X1_opener k (nI l) (sv st k c) K := by
  unfold w_X1_opener
  refine s_at hl (by decide) (s_at hl (by decide) ?_)
  rw [sv_6, sv_5]
  exact s_op29 hn h7 hd h
theorem opS_in {c : Ct} {n : Nat} {t d : Int32} : ∀ a b, (opS c n t d).1 = some (a, b) → a < b ∧ b < n ∧ c 3 a = t ∧ c 3 b = t ∧ d ≤ c 4 (hI a b) := by
  refine fr_inv (fun _ (s : Option (Nat × Nat) × Int32) => ∀ a b, s.1 = some (a, b) → a < b ∧ b < n ∧ c 3 a = t ∧ c 3 b = t ∧ d ≤ c 4 (hI a b)) _ (Nat.zero_le n) (fun a b h => by cases h) (fun p s _ hp hs => ?_)
  refine fr_inv (fun _ (s : Option (Nat × Nat) × Int32) => ∀ a b, s.1 = some (a, b) → a < b ∧ b < n ∧ c 3 a = t ∧ c 3 b = t ∧ d ≤ c 4 (hI a b)) _ (show p + 1 ≤ n by omega) hs (fun q s h1 h2 hs => ?_)
  unfold oS
  split
  next hb =>
    split
    next => exact hs
    next h3 =>
      split
      next => exact hs
      next =>
        intro a b e
        cases e
        exact ⟨by omega, h2, hb.1, hb.2, i_nlt.mp h3⟩
  next => exact hs
theorem s_isOpen {st : St} {k : Nat} {c : Ct} {x : Int32} {K : Int32 → St → Prop} (h : K (if bitF (c 0 9) x = 1 then 1 else 0) (sv st k c)) : w_X1_isOpen k x (sv st k c) K := by
  unfold w_X1_isOpen
  refine s_bit ?_
  rw [sv_0]
  refine ⟨fun h1 => ?_, fun h1 => ?_⟩
  · rw [if_neg h1] at h; exact h
  · rw [if_pos h1] at h; exact h
theorem o10 : ∀ p, p < 6 → ∀ q, q < 6 → nI (10 * p + q) / 10 = nI p ∧ nI (10 * p + q) - nI (10 * p + q) / 10 * 10 = nI q ∧ ¬ nI (10 * p + q) = -9 := by decide +kernel
def lbit (l : Nat) : Int32 := (1 : Int32) <<< (nI l &&& 31)
def opens (c : Ct) (l p q : Nat) : Ct := u2 (u2 (u2 c 0 9 (c 0 9 ||| lbit l)) 7 l (nI (10 * p + q))) 4 (hI p q) (heldF (c 4 (hI p q) - 5))
def stepL (n l : Nat) (s : Int32 × Ct) : Int32 × Ct := if bitF (s.2 0 9) (nI l) = 1 then s else match openerF s.2 n l with
  | none => s
  | some (p, q) => (s.1 ||| lbit l, opens s.2 l p q)
theorem opens_off {c : Ct} {l p q j : Nat} (h0 : j ≠ 0) (h4 : j ≠ 4) (h7 : j ≠ 7) : opens c l p q j = c j := by
  unfold opens
  rw [u2_off h4, u2_off h7, u2_off h0]
theorem opens_0 {c : Ct} {l p q i : Nat} (h : i ≠ 9) : opens c l p q 0 i = c 0 i := by
  unfold opens
  rw [u2_off (by decide), u2_off (by decide), u2_ne (Or.inr h)]
theorem stepL_off {n l : Nat} {s : Int32 × Ct} {j : Nat} (h0 : j ≠ 0) (h4 : j ≠ 4) (h7 : j ≠ 7) : (stepL n l s).2 j = s.2 j := by
  unfold stepL
  split
  · rfl
  · split
    · rfl
    · exact opens_off h0 h4 h7
theorem stepL_0 {n l : Nat} {s : Int32 × Ct} {i : Nat} (h : i ≠ 9) : (stepL n l s).2 0 i = s.2 0 i := by
  unfold stepL
  split
  · rfl
  · split
    · rfl
    next p q _ =>
      show opens s.2 l p q 0 i = s.2 0 i
      exact opens_0 h
def dOk (nL : Nat) (c : Ct) : Prop := ∀ l, l < nL → (-9) < c 5 l
theorem s_pw67 {st : St} {k n nL : Nat} {c : Ct} {K : Int32 → St → Prop} (hn : n ≤ 6) (hL : nL ≤ 6) (h7 : c 0 7 = nI n) (h8 : c 0 8 = nI nL) (hd : dOk nL c) (h : K (fr 0 nL (stepL n) (0, c)).1 (sv st k (fr 0 nL (stepL n) (0, c)).2)) :
    ∃ m, w_X1_passWeek_L67 k K m 0 0 (sv st k c) := by
  refine lo_fr (fun m l (s : Int32 × Ct) => w_X1_passWeek_L67 k K m s.1 (nI l) (sv st k s.2)) (stepL n) (fun _ s => s.2 0 7 = nI n ∧ s.2 0 8 = nI nL ∧ dOk nL s.2) (0, c) (Nat.zero_le nL) ⟨h7, h8, hd⟩
    (fun l s _ _ hI => ⟨by rw [stepL_0 (by decide)]; exact hI.1, by rw [stepL_0 (by decide)]; exact hI.2.1, fun j hj => by rw [stepL_off (by decide) (by decide) (by decide)]; exact hI.2.2 j hj⟩) (fun hI m => ?_) (fun m l s _ h2 hI hw => ?_)
  · rw [w_X1_passWeek_L67, w_X1_passWeek_L67q, sv_0, hI.2.1]
    exact ⟨fun _ => h, fun h9 => absurd (nI_le (Nat.le_refl nL) (by omega)) h9⟩
  · rw [w_X1_passWeek_L67, w_X1_passWeek_L67q, sv_0, hI.2.1]
    refine ⟨fun h9 => absurd h9 (nI_ge h2 (by omega)), fun _ => s_isOpen ?_⟩
    by_cases hb : bitF (s.2 0 9) (nI l) = 1
    · rw [if_pos hb]
      refine ⟨fun h9 => absurd h9 (by decide), fun _ => ?_⟩
      simp only [stepL, if_pos hb] at hw
      rw [w_X1_passWeek_b93, w_X1_passWeek_b153, nI_inc]
      exact ⟨fun _ => hw, fun h9 => absurd rfl h9⟩
    · rw [if_neg hb]
      refine ⟨fun _ => s_opener (by omega) hn hI.1 (hI.2.2 l h2) ?_, fun h9 => absurd rfl h9⟩
      simp only [stepL, if_neg hb] at hw
      rw [w_X1_passWeek_b93, w_X1_passWeek_b153, nI_inc]
      cases ho : openerF s.2 n l with
      | none =>
        rw [ho] at hw
        exact ⟨fun _ => hw, fun h9 => absurd rfl h9⟩
      | some pq =>
        obtain ⟨p, q⟩ := pq
        rw [ho] at hw
        have hpq := opS_in p q ho
        have h10 := o10 p (by omega) q (by omega)
        refine ⟨fun h9 => absurd h9 h10.2.2, fun _ => ?_⟩
        show w_X8_put (k + 7) 6 (nI l) (nI (10 * p + q)) _ _
        rw [sv_u20, sv_0]
        refine s_put (by omega) (by decide) ?_
        rw [sv_u2 (by decide)]
        show w_X1_hateOf k (nI (10 * p + q) / 10) (nI (10 * p + q) - nI (10 * p + q) / 10 * 10) _ _
        rw [h10.2.1, h10.1]
        refine s_hateOf (by omega) (by omega) ?_
        show w_X1_setHate k (nI (10 * p + q) / 10) (nI (10 * p + q) - nI (10 * p + q) / 10 * 10) _ _ _
        rw [h10.2.1, h10.1]
        refine s_setHate (by omega) (by omega) ?_
        rw [u2_off (by decide), u2_off (by decide), w_X1_passWeek_b153, nI_inc]
        exact hw
def weekF (n nL : Nat) (c : Ct) : Int32 × Ct := fr 0 nL (stepL n) (0, hatesF n (u2 c 0 10 (c 0 10 + 1)))
theorem hatesF_off {n : Nat} {c : Ct} {j : Nat} (h : j ≠ 4) : hatesF n c j = c j :=
  fr_inv (fun _ (x : Ct) => x j = c j) _ (Nat.zero_le n) rfl (fun p s _ h2 e => by rw [rowH_off h2 h]; exact e)
theorem s_passWeek {st : St} {k n nL : Nat} {c : Ct} {K : Int32 → St → Prop} (hn : n ≤ 6) (hL : nL ≤ 6) (h7 : c 0 7 = nI n) (h8 : c 0 8 = nI nL) (hd : dOk nL c) (h : K (weekF n nL c).1 (sv st k (weekF n nL c).2)) : w_X1_passWeek k (sv st k c) K := by
  unfold w_X1_passWeek
  rw [sv_0, sv_u20]
  refine s_pw12 hn (by rw [u2_ne (Or.inr (by decide))]; exact h7) ?_
  rw [w_X1_passWeek_b63]
  refine s_pw67 hn hL (by rw [hatesF_off (by decide), u2_ne (Or.inr (by decide))]; exact h7) (by rw [hatesF_off (by decide), u2_ne (Or.inr (by decide))]; exact h8) (fun l hl => by rw [hatesF_off (by decide), u2_off (by decide)]; exact hd l hl) h
end
section
/-! pure part: weeks, a country that becomes as another is -/
def ob (c : Ct) : Nat := (c 0 9).toNatClampNeg
def vC (n nL : Nat) (c : Ct) : Prop := n ≤ 6 ∧ nL ≤ 6 ∧ c 0 7 = nI n ∧ c 0 8 = nI nL ∧ dOk nL c ∧ c 0 9 = nI (ob c) ∧ ob c < 2 ^ nL
theorem p64 {nL : Nat} (h : nL ≤ 6) {b : Nat} (hb : b < 2 ^ nL) : b < 64 := Nat.lt_of_lt_of_le hb (Nat.pow_le_pow_right (by decide) h)
theorem or_bit : ∀ b, b < 64 → ∀ l, l < 6 → nI b ||| lbit l = nI (b ||| 2 ^ l) := by decide +kernel
theorem bit_is : ∀ b, b < 64 → ∀ l, l < 6 → bitF (nI b) (nI l) = if b.testBit l then 1 else 0 := by decide +kernel
theorem ob_of {c : Ct} {b : Nat} (h : c 0 9 = nI b) (hb : b < 64) : ob c = b := by
  unfold ob
  rw [h, nI_clamp (show b < 2 ^ 31 by omega)]
theorem opens_ob {c : Ct} {l p q b : Nat} (h : c 0 9 = nI b) (hb : b < 64) (hl : l < 6) : opens c l p q 0 9 = nI (b ||| 2 ^ l) := by
  unfold opens
  rw [u2_off (by decide), u2_off (by decide), u2_same, h, or_bit b hb l hl]
theorem stepL_ob {n nL l : Nat} {s : Int32 × Ct} (hL : nL ≤ 6) (hl : l < nL) (h : ∃ b, b < 2 ^ nL ∧ s.2 0 9 = nI b) : ∃ b, b < 2 ^ nL ∧ (stepL n l s).2 0 9 = nI b := by
  obtain ⟨b, h1, h2⟩ := h
  unfold stepL
  split
  · exact ⟨b, h1, h2⟩
  · split
    · exact ⟨b, h1, h2⟩
    next p q _ => exact ⟨b ||| 2 ^ l, Nat.or_lt_two_pow h1 (Nat.pow_lt_pow_right (by decide) hl), opens_ob (p := p) (q := q) h2 (p64 hL h1) (by omega)⟩
theorem vC_of {n nL : Nat} {c : Ct} (h1 : n ≤ 6) (h2 : nL ≤ 6) (h3 : c 0 7 = nI n) (h4 : c 0 8 = nI nL) (h5 : dOk nL c) (h6 : ∃ b, b < 2 ^ nL ∧ c 0 9 = nI b) : vC n nL c := by
  obtain ⟨b, g1, g2⟩ := h6
  have e := ob_of g2 (p64 h2 g1)
  exact ⟨h1, h2, h3, h4, h5, by rw [e]; exact g2, by rw [e]; exact g1⟩
theorem vC_week {n nL : Nat} {c : Ct} (h : vC n nL c) : vC n nL (weekF n nL c).2 := by
  obtain ⟨h1, h2, h3, h4, h5, h6, h7⟩ := h
  have b0 : ∀ i, i ≠ 10 → hatesF n (u2 c 0 10 (c 0 10 + 1)) 0 i = c 0 i := fun i hi => by rw [hatesF_off (by decide), u2_ne (Or.inr hi)]
  have b5 : hatesF n (u2 c 0 10 (c 0 10 + 1)) 5 = c 5 := by rw [hatesF_off (by decide), u2_off (by decide)]
  have key := fr_inv (fun _ (s : Int32 × Ct) => s.2 0 7 = nI n ∧ s.2 0 8 = nI nL ∧ dOk nL s.2 ∧ ∃ b, b < 2 ^ nL ∧ s.2 0 9 = nI b) (stepL n) (Nat.zero_le nL)
    (s0 := (0, hatesF n (u2 c 0 10 (c 0 10 + 1)))) ⟨(b0 7 (by decide)).trans h3, (b0 8 (by decide)).trans h4, fun l hl => by
      show (-9) < hatesF n (u2 c 0 10 (c 0 10 + 1)) 5 l
      rw [b5]
      exact h5 l hl, ob c, h7, (b0 9 (by decide)).trans h6⟩
    (fun l s _ h2' hI => ⟨by rw [stepL_0 (by decide)]; exact hI.1, by rw [stepL_0 (by decide)]; exact hI.2.1, fun j hj => by rw [stepL_off (by decide) (by decide) (by decide)]; exact hI.2.2.1 j hj, stepL_ob h2 h2' hI.2.2.2⟩)
  exact vC_of h1 h2 key.1 key.2.1 key.2.2.1 key.2.2.2
def weeksF (n nL w : Nat) (c : Ct) : Ct := fr 0 w (fun _ c => (weekF n nL c).2) c
theorem vC_weeks {n nL w : Nat} {c : Ct} (h : vC n nL c) : vC n nL (weeksF n nL w c) := fr_inv (fun _ c => vC n nL c) _ (Nat.zero_le w) h (fun _ _ _ _ h => vC_week h)
theorem s_openCount {st : St} {k n nL : Nat} {c : Ct} {K : Int32 → St → Prop} (hc : vC n nL c) (h : K (nI (pc (ob c))) (sv st k c)) : w_X1_openCount k (sv st k c) K := by
  obtain ⟨-, h2, -, -, -, h6, h7⟩ := hc
  unfold w_X1_openCount
  rw [sv_0, h6]
  exact s_bitCount (Nat.lt_of_lt_of_le (p64 h2 h7) (by decide)) h
theorem s_week1 {st : St} {k n nL : Nat} {c : Ct} {K : Int32 → St → Prop} (hc : vC n nL c) (h : K (weekF n nL c).1 (sv st k (weekF n nL c).2)) : w_X1_passWeek k (sv st k c) K :=
  s_passWeek hc.1 hc.2.1 hc.2.2.1 hc.2.2.2.1 hc.2.2.2.2.1 h
theorem s_passWeeks {st : St} {k n nL w : Nat} {c : Ct} {K : Int32 → St → Prop} (hw : w < 2147483648) (hc : vC n nL c) (h : K (nI (pc (ob (weeksF n nL w c)))) (sv st k (weeksF n nL w c))) : w_X1_passWeeks k (nI w) (sv st k c) K := by
  unfold w_X1_passWeeks
  refine lo_fr (fun m i c => w_X1_passWeeks_L2 k (nI w) K m (nI i) (sv st k c)) (fun _ c => (weekF n nL c).2) (fun _ c => vC n nL c) c (Nat.zero_le w) hc (fun _ _ _ _ h => vC_week h) (fun hv m => ?_) (fun m i c _ h2 hv hk => ?_)
  · rw [w_X1_passWeeks_L2, w_X1_passWeeks_L2q]
    refine ⟨fun _ => ?_, fun h9 => absurd (nI_le (Nat.le_refl w) hw) h9⟩
    rw [w_X1_passWeeks_b18]
    exact s_openCount hv h
  · rw [w_X1_passWeeks_L2, w_X1_passWeeks_L2q]
    refine ⟨fun h9 => absurd h9 (nI_ge h2 hw), fun _ => s_week1 hv ?_⟩
    rw [nI_inc]
    exact hk
def lenC (j : Nat) : Nat := if j = 0 then 11 else if j = 4 then 36 else 6
def zC (c : Ct) : Prop := (∀ j i, lenC j ≤ i → c j i = 0) ∧ ∀ i, i < 7 → c 0 i = 0
theorem cpy_z {f g : Nat → Int32} {n : Nat} (hf : ∀ i, n ≤ i → f i = 0) (hg : ∀ i, n ≤ i → g i = 0) : va_cpy f g 0 0 n = f := by
  funext i
  unfold va_cpy
  by_cases h : i < n
  · rw [if_pos ⟨Nat.zero_le _, by omega⟩]; congr 1; omega
  · rw [if_neg (by omega), hf i (by omega), hg i (by omega)]
theorem s_fill {k n : Nat} {v : Int32} {st : St} {K : St → Prop} (hn : n < 2147483648) (h : K (u1 st k (fun i => if i < n then v else st k i))) : w_J7_fill_53178 k n v st K := by
  have e : fr 0 n (fun i st => u2 st k i v) st = u1 st k (fun i => if i < n then v else st k i) := by
    have key := fr_inv (fun i (s : St) => s = u1 st k (fun j => if j < i then v else st k j)) (fun i st => u2 st k i v) (Nat.zero_le n) (s0 := st) (by
      funext a b
      unfold u1
      split
      next h => subst h; simp
      next => rfl) (fun i s _ _ e => by
      subst e
      funext a b
      unfold u2 u1 upd
      by_cases ha : a = k
      · subst ha
        simp only [if_true]
        by_cases hb : b = i
        · subst hb; simp
        · rw [if_neg hb]
          by_cases h3 : b < i
          · rw [if_pos h3, if_pos (by omega)]
          · rw [if_neg h3, if_neg (by omega)]
      · simp only [if_neg ha])
    exact key
  unfold w_J7_fill_53178
  refine lo_fr (fun m i (s : St) => w_J7_fill_53178_L5 k n v K m (nI i) (nI n) s) (fun i st => u2 st k i v) (fun _ _ => True) st (Nat.zero_le n) trivial (fun _ _ _ _ _ => trivial) (fun _ m => ?_) (fun m i s _ h2 _ hk => ?_)
  · rw [w_J7_fill_53178_L5, w_J7_fill_53178_L5q, e]
    exact ⟨fun _ => h, fun h9 => absurd (nI_le (Nat.le_refl n) hn) h9⟩
  · rw [w_J7_fill_53178_L5, w_J7_fill_53178_L5q]
    refine ⟨fun h9 => absurd h9 (nI_ge h2 hn), fun _ => ⟨vp_in_nI h2 hn, ?_⟩⟩
    rw [nI_inc, nI_clamp (show i < 2 ^ 31 by omega)]
    exact hk
def opN : Nat → Int32 := fun i => if i < 6 then -9 else 0
/-- what a country is that becomes as another is -/
def bec (c : Ct) : Ct := fun j => if j = 7 then opN else c j
theorem st_of_cv {st : St} {k j : Nat} (hj : j < 8) : st (k + j) = cv st k j := by unfold cv; rw [if_pos hj]
theorem s_become {st : St} {k k' : Nat} {K : St → Prop} (hkk : k' + 8 ≤ k ∨ k + 8 ≤ k') (hz : zC (cv st k)) (hz' : zC (cv st k')) (h : K (sv st k (bec (cv st k')))) : w_X1_become k k' st K := by
  have step : ∀ (c : Ct) (j n : Nat), j < 8 → lenC j = n → c j = cv st k j → u1 (sv st k c) (k + j) (va_cpy (sv st k c (k' + j)) (sv st k c (k + j)) 0 0 n) = sv st k (u1 c j (cv st k' j)) := by
    intro c j n hj hl hc
    rw [sv_u1 hj, sv_at hj, sv_off (by omega), hc, st_of_cv (st := st) (k := k') hj, cpy_z (fun i hi => hz'.1 j i (by omega)) (fun i hi => hz.1 j i (by omega))]
  unfold w_X1_become
  rw [← sv_cv (st := st) (k := k)]
  refine s_copy (by decide) ?_
  rw [step (cv st k) 1 6 (by decide) rfl rfl]
  refine s_copy (by decide) ?_
  rw [step (u1 (cv st k) 1 (cv st k' 1)) 2 6 (by decide) rfl rfl]
  refine s_copy (by decide) ?_
  rw [step (u1 (u1 (cv st k) 1 (cv st k' 1)) 2 (cv st k' 2)) 3 6 (by decide) rfl rfl]
  refine s_copy (by decide) ?_
  rw [step (u1 (u1 (u1 (cv st k) 1 (cv st k' 1)) 2 (cv st k' 2)) 3 (cv st k' 3)) 4 36 (by decide) rfl rfl]
  refine s_copy (by decide) ?_
  rw [step (u1 (u1 (u1 (u1 (cv st k) 1 (cv st k' 1)) 2 (cv st k' 2)) 3 (cv st k' 3)) 4 (cv st k' 4)) 5 6 (by decide) rfl rfl]
  refine s_copy (by decide) ?_
  rw [step (u1 (u1 (u1 (u1 (u1 (cv st k) 1 (cv st k' 1)) 2 (cv st k' 2)) 3 (cv st k' 3)) 4 (cv st k' 4)) 5 (cv st k' 5)) 6 6 (by decide) rfl rfl]
  refine s_fill (by decide) ?_
  rw [sv_u1 (by decide)]
  have r0 : ∀ (c : Ct) (i : Nat), sv st k c k' i = cv st k' 0 i := fun c i => by rw [sv_off (by omega)]; exact congrFun (st_of_cv (st := st) (k := k') (j := 0) (by decide)) i
  simp only [sv_u20, r0]
  refine Eq.mp (congrArg (fun c => K (sv st k c)) ?_) h
  funext j i
  by_cases h0 : j = 0
  · subst h0
    simp only [bec, u2, u1, upd, sv_7]
    by_cases e10 : i = 10
    · subst e10; simp [upd]
    · by_cases e9 : i = 9
      · subst e9; simp [upd]
      · by_cases e8 : i = 8
        · subst e8; simp [upd]
        · by_cases e7 : i = 7
          · subst e7; simp [upd]
          · have z : cv st k' 0 i = cv st k 0 i := by
              by_cases hi : i < 7
              · rw [hz'.2 i hi, hz.2 i hi]
              · have l0 : lenC 0 = 11 := rfl
                rw [hz'.1 0 i (by omega), hz.1 0 i (by omega)]
            simp [upd, e10, e9, e8, e7, z]
  · by_cases h7 : j = 7
    · subst h7
      simp only [bec, u2, u1, upd, sv_7, opN]
      have l7 : lenC 7 = 6 := rfl
      have z : ¬ i < 6 → cv st k 7 i = 0 := fun h => hz.1 7 i (by omega)
      by_cases hi : i < 6
      · simp [upd, hi, opN]
      · simp [upd, hi, z hi, opN]
    · by_cases h8 : 8 ≤ j
      · rw [show bec (cv st k') j = cv st k' j from by simp [bec, h7], nC_cv j h8]
        simp only [u2, u1]
        rw [if_neg h0, if_neg h0, if_neg h0, if_neg h0, if_neg h7, if_neg (by omega), if_neg (by omega), if_neg (by omega), if_neg (by omega), if_neg (by omega), if_neg (by omega), nC_cv j h8]
      · rw [show bec (cv st k') j = cv st k' j from by simp [bec, h7]]
        simp only [u2, u1]
        rw [if_neg h0, if_neg h0, if_neg h0, if_neg h0, if_neg h7]
        have : j = 1 ∨ j = 2 ∨ j = 3 ∨ j = 4 ∨ j = 5 ∨ j = 6 := by omega
        rcases this with rfl | rfl | rfl | rfl | rfl | rfl <;> rfl
end
section
/-! pure part: the check's country against the class's -/
theorem m_hI : ∀ p, p < 6 → ∀ q, q < 6 → (6 * nI p) + nI q = nI (6 * p + q) := by decide +kernel
theorem clI {i n : Nat} (h : i < n) (hn : n < 2147483648) : (nI i).toNatClampNeg = i := nI_clamp (show i < 2 ^ 31 by omega)
theorem t_hateOf {mt : St} {p q : Nat} {K : Int32 → St → Prop} (hp : p < 6) (hq : q < 6) (h : K (mt 5 (6 * p + q)) mt) : w_X9_hateOf (nI p) (nI q) mt K := by
  unfold w_X9_hateOf
  rw [m_hI p hp q hq, clI (show 6 * p + q < 36 by omega) (by decide)]
  exact ⟨vp_in_nI (by omega) (by decide), h⟩
def setsF (mt : St) (p q : Nat) (v : Int32) : St := u2 (u2 mt 5 (6 * p + q) v) 5 (6 * q + p) v
theorem t_sets {mt : St} {p q : Nat} {v : Int32} {K : St → Prop} (hp : p < 6) (hq : q < 6) (h : K (setsF mt p q v)) : w_X9_sets (nI p) (nI q) v mt K := by
  unfold w_X9_sets
  rw [m_hI p hp q hq, m_hI q hq p hp, clI (show 6 * p + q < 36 by omega) (by decide), clI (show 6 * q + p < 36 by omega) (by decide)]
  exact ⟨vp_in_nI (by omega) (by decide), vp_in_nI (by omega) (by decide), h⟩
def hlF (v a b : Int32) : Int32 := if v < a then a else if b < v then b else v
theorem t_held {v a b : Int32} {mt : St} {K : Int32 → St → Prop} (h : K (hlF v a b) mt) : w_X9_held v a b mt K := by
  unfold w_X9_held
  unfold hlF at h
  refine ⟨fun h1 => ⟨fun h2 => ?_, fun h2 => ?_⟩, fun h1 => ?_⟩
  · rw [if_neg (i_nlt.mpr h1), if_neg (i_nlt.mpr h2)] at h; exact h
  · rw [if_neg (i_nlt.mpr h1), if_pos (i_nle.mp h2)] at h; exact h
  · rw [if_pos (i_nle.mp h1)] at h; exact h
theorem hlF_held (v : Int32) : hlF v 0 99 = heldF v := by
  unfold hlF heldF
  have a0 : (0 : Int32).toInt = 0 := by decide
  have a9 : (99 : Int32).toInt = 99 := by decide
  simp only [Int32.lt_iff_toInt_lt]
  by_cases h1 : v.toInt < 99
  · rw [if_pos (by omega : v.toInt < (99 : Int32).toInt)]
    by_cases h2 : v.toInt < 0
    · rw [if_pos (by omega), if_neg (by omega)]
    · by_cases h3 : v.toInt = 0
      · rw [if_neg (by omega), if_neg (by omega), if_neg (by omega)]
        exact Int32.toInt_inj.mp (by omega)
      · rw [if_neg (by omega), if_neg (by omega), if_pos (by omega)]
  · rw [if_neg (by omega : ¬ v.toInt < (99 : Int32).toInt), if_pos (show (0 : Int32).toInt < (99 : Int32).toInt by omega), if_neg (by omega)]
    by_cases h2 : 99 < v.toInt
    · rw [if_pos (by omega)]
    · rw [if_neg (by omega)]
      exact Int32.toInt_inj.mp (by omega)
def hasB (x : Int32) (p : Nat) : Prop := ((x >>> (nI p &&& 31)) &&& 1) = 1
theorem t_has {x : Int32} {p : Nat} {mt : St} {K : Int32 → St → Prop} (h1 : hasB x p → K 1 mt) (h0 : ¬ hasB x p → K 0 mt) : w_X9_has x (nI p) mt K := ⟨h0, h1⟩
theorem t_fadesOf {mt : St} {p : Nat} {K : Int32 → St → Prop} (hp : p < 6) (h : K (fadingF (mt 2 p) (mt 3 p)) mt) : w_X9_fadesOf (nI p) mt K := by
  unfold w_X9_fadesOf
  have hi : vp_in (nI p) 6 := vp_in_nI hp (by decide)
  rw [clI hp (by decide)]
  refine ⟨hi, ⟨fun h1 => ?_, fun h1 => ⟨fun h2 => ?_, fun h2 => ⟨fun h3 => ⟨hi, ?_⟩, fun h3 => ⟨fun h4 => ?_, fun h4 => ⟨fun h5 => ?_, fun h5 => ?_⟩⟩⟩⟩⟩⟩ <;> simpa [fadingF, *] using h
theorem i_comm (x y : Int32) : x + y = y + x := Int32.add_comm x y
theorem t_stirsOf {mt : St} {p : Nat} {K : Int32 → St → Prop} (hp : p < 6) (h : K (stirringF (mt 2 p) (mt 3 p)) mt) : w_X9_stirsOf (nI p) mt K := by
  unfold w_X9_stirsOf
  have hi : vp_in (nI p) 6 := vp_in_nI hp (by decide)
  rw [clI hp (by decide)]
  unfold stirringF at h
  refine ⟨hi, ⟨fun h1 => ⟨hi, ⟨fun h2 => ?_, fun h2 => ⟨hi, ?_⟩⟩⟩, fun h1 => ?_⟩⟩
  · rw [if_neg h1, if_neg h2] at h; exact h
  · rw [if_neg h1, if_pos h2, i_comm] at h; exact h
  · rw [if_pos h1] at h; exact h
theorem pay2 (x : Int32) : 2 * (x + 1) = 2 * x + 2 := by rw [Int32.mul_add]; rfl
theorem pay4 (x : Int32) : 2 * (x + 1) - 1 = 2 * x + 1 := by rw [pay2, Int32.sub_eq_add_neg, Int32.add_assoc]; rfl
theorem t_payOf {mt : St} {p : Nat} {K : Int32 → St → Prop} (hp : p < 6) (h : K (wagingF (mt 2 p) (mt 3 p)) mt) : w_X9_payOf (nI p) mt K := by
  unfold w_X9_payOf
  have hi : vp_in (nI p) 6 := vp_in_nI hp (by decide)
  rw [clI hp (by decide)]
  unfold wagingF at h
  rw [pay4, pay2] at h
  refine ⟨hi, ⟨fun h1 => ⟨hi, ?_⟩, fun h1 => ⟨fun h2 => ?_, fun h2 => ⟨fun h3 => ?_, fun h3 => ⟨fun h4 => ⟨hi, ?_⟩, fun h4 => ⟨fun h5 => ?_, fun h5 => ⟨hi, ?_⟩⟩⟩⟩⟩⟩⟩ <;> simpa [*] using h
/-- hates lie in their bounds -/
def hOk (n : Nat) (c : Ct) : Prop := ∀ p q, p < q → q < n → 0 ≤ c 4 (hI p q) ∧ c 4 (hI p q) ≤ 99
/-- the check's live rows are the class's country c; who is out stands nowhere in c -/
def RM (n nL : Nat) (mt : St) (c : Ct) : Prop :=
  vC n nL c ∧ hOk n c ∧ mt 0 8 = nI n ∧ mt 0 9 = nI nL ∧ mt 0 10 = c 0 10 ∧ (∀ p, p < n → mt 2 p = c 1 p ∧ mt 3 p = c 2 p ∧ (hasB (mt 0 11) p ↔ c 3 p = -1) ∧ (c 3 p ≠ -1 → mt 4 p = c 3 p)) ∧
  (∀ p q, p < q → q < n → mt 5 (6 * p + q) = c 4 (hI p q) ∧ mt 5 (6 * q + p) = c 4 (hI p q)) ∧ (∀ l, l < nL → mt 6 l = c 5 l ∧ mt 7 l = c 6 l ∧ c 6 l ≠ -1 ∧ mt 8 l = if (ob c).testBit l then 1 else 0)
theorem hI_lt' {p q : Nat} (h : p < q) : hI p q = 6 * p + q := by unfold hI; omega
theorem hI_inj {p q p' q' : Nat} (h : p < q) (hq : q < 6) (h' : p' < q') (hq' : q' < 6) (e : hI p q = hI p' q') : p = p' ∧ q = q' := by
  rw [hI_lt' h, hI_lt' h'] at e
  omega
theorem addsub (v a b : Int32) : v + ((-a) - b) = v - a - b := by
  rw [Int32.sub_eq_add_neg, Int32.sub_eq_add_neg, Int32.sub_eq_add_neg, Int32.add_assoc]
theorem held_id {v : Int32} (h0 : 0 ≤ v) (h9 : v ≤ 99) : heldF (v + 0) = v := by
  rw [Int32.add_zero, ← hlF_held]
  unfold hlF
  rw [if_neg (i_nlt.mpr h0), if_neg (i_nlt.mpr h9)]
theorem heldF_in (v : Int32) : 0 ≤ heldF v ∧ heldF v ≤ 99 := by
  rw [← hlF_held]
  unfold hlF
  split
  · exact ⟨by decide, by decide⟩
  next h1 =>
    split
    · exact ⟨by decide, by decide⟩
    next h2 => exact ⟨i_nlt.mp h1, i_nlt.mp h2⟩
end
section
/-! pure part: the check's week against the class's -/
theorem lo_rel {σ : Type} (W : Nat → Nat → σ → Prop) (I : Nat → σ → Prop) {e i0 : Nat} (s0 : σ) (hi : i0 ≤ e) (h0 : I i0 s0) (hx : ∀ s, I e s → ∀ n, W (n + 1) e s)
    (hs : ∀ n i s, i0 ≤ i → i < e → I i s → (∀ s', I (i + 1) s' → W n (i + 1) s') → W (n + 1) i s) : ∃ n, W n i0 s0 := by
  have key : ∀ d i s, i0 ≤ i → i + d = e → I i s → W (d + 1) i s := by
    intro d
    induction d with
    | zero =>
      intro i s h1 h2 h3
      have : i = e := by omega
      subst this
      exact hx s h3 0
    | succ d ih => intro i s h1 h2 h3; exact hs (d + 1) i s h1 (by omega) h3 fun s' h4 => ih (i + 1) s' (by omega) (by omega) h4
  exact ⟨_, key (e - i0) i0 s0 (Nat.le_refl _) (by omega) h0⟩
/-- what a week of the check leaves -/
def wf (mt mt' : St) : Prop := (∀ j, j ≠ 0 → j ≠ 5 → j ≠ 8 → j ≠ 14 → mt' j = mt j) ∧ ∀ i, i ≠ 10 → i ≠ 25 → mt' 0 i = mt 0 i
theorem wf_rf {mt : St} : wf mt mt := ⟨fun _ _ _ _ _ => rfl, fun _ _ _ => rfl⟩
theorem wf.tr {a b c : St} (h1 : wf a b) (h2 : wf b c) : wf a c := ⟨fun j p q r s => (h2.1 j p q r s).trans (h1.1 j p q r s), fun i p q => (h2.2 i p q).trans (h1.2 i p q)⟩
theorem wf_u2 {mt : St} {j i : Nat} {v : Int32} (h : j = 5 ∨ j = 8 ∨ j = 14) : wf mt (u2 mt j i v) :=
  ⟨fun k a b c d => u2_off (by omega), fun k _ _ => by rw [u2_off (by omega)]⟩
theorem wf_u20 {mt : St} {i : Nat} {v : Int32} (h : i = 10 ∨ i = 25) : wf mt (u2 mt 0 i v) :=
  ⟨fun k a b c d => u2_off a, fun k _ _ => u2_ne (Or.inr (by omega))⟩
theorem wf_sets {mt : St} {p q : Nat} {v : Int32} : wf mt (setsF mt p q v) := (wf_u2 (Or.inl rfl)).tr (wf_u2 (Or.inl rfl))
theorem ob_off {c : Ct} {j i : Nat} {v : Int32} (h : j ≠ 0) : ob (u2 c j i v) = ob c := by
  unfold ob
  rw [u2_off (fun e => h e.symm)]
theorem vC_u4 {n nL : Nat} {c : Ct} {j i : Nat} {v : Int32} (h : vC n nL c) (hj : j ≠ 0) (hj5 : j ≠ 5) : vC n nL (u2 c j i v) := by
  obtain ⟨h1, h2, h3, h4, h5, h6, h7⟩ := h
  refine ⟨h1, h2, by rw [u2_off (Ne.symm hj)]; exact h3, by rw [u2_off (Ne.symm hj)]; exact h4, fun l hl => by rw [u2_off (Ne.symm hj5)]; exact h5 l hl, by rw [ob_off hj, u2_off (Ne.symm hj)]; exact h6, by rw [ob_off hj]; exact h7⟩
/-- hate set on both sides -/
theorem RM_hate {n nL p q : Nat} {mt : St} {c : Ct} {v : Int32} (h : RM n nL mt c) (hp : p < q) (hq : q < n) (h0 : 0 ≤ v) (h9 : v ≤ 99) : RM n nL (setsF mt p q v) (u2 c 4 (hI p q) v) ∧ RM n nL (setsF mt q p v) (u2 c 4 (hI p q) v) := by
  obtain ⟨g1, g2, g3, g4, g5, g6, g7, g8⟩ := h
  have hn := g1.1
  have cell : ∀ a b, a < b → b < n → u2 c 4 (hI p q) v 4 (hI a b) = if a = p ∧ b = q then v else c 4 (hI a b) := by
    intro a b h1 h2
    by_cases e : a = p ∧ b = q
    · obtain ⟨rfl, rfl⟩ := e
      rw [u2_same, if_pos ⟨rfl, rfl⟩]
    · rw [if_neg e, u2_ne (Or.inr (fun z => e (hI_inj h1 (by omega) hp (by omega) z)))]
  have r1 : ∀ (a b : Nat), a < 6 → b < 6 → setsF mt p q v 5 (6 * a + b) = if (a = p ∧ b = q) ∨ (a = q ∧ b = p) then v else mt 5 (6 * a + b) := by
    intro a b ha hb
    unfold setsF
    by_cases e2 : a = q ∧ b = p
    · obtain ⟨rfl, rfl⟩ := e2
      rw [u2_same, if_pos (Or.inr ⟨rfl, rfl⟩)]
    · rw [u2_ne (Or.inr (by omega))]
      by_cases e1 : a = p ∧ b = q
      · obtain ⟨rfl, rfl⟩ := e1
        rw [u2_same, if_pos (Or.inl ⟨rfl, rfl⟩)]
      · rw [u2_ne (Or.inr (by omega)), if_neg (by omega)]
  have r2 : ∀ (a b : Nat), a < 6 → b < 6 → setsF mt q p v 5 (6 * a + b) = if (a = p ∧ b = q) ∨ (a = q ∧ b = p) then v else mt 5 (6 * a + b) := by
    intro a b ha hb
    unfold setsF
    by_cases e2 : a = p ∧ b = q
    · obtain ⟨rfl, rfl⟩ := e2
      rw [u2_same, if_pos (Or.inl ⟨rfl, rfl⟩)]
    · rw [u2_ne (Or.inr (by omega))]
      by_cases e1 : a = q ∧ b = p
      · obtain ⟨rfl, rfl⟩ := e1
        rw [u2_same, if_pos (Or.inr ⟨rfl, rfl⟩)]
      · rw [u2_ne (Or.inr (by omega)), if_neg (by omega)]
  have key : ∀ mt' : St, (∀ j, j ≠ 5 → mt' j = mt j) → (∀ a b, a < 6 → b < 6 → mt' 5 (6 * a + b) = if (a = p ∧ b = q) ∨ (a = q ∧ b = p) then v else mt 5 (6 * a + b)) → RM n nL mt' (u2 c 4 (hI p q) v) := by
    intro mt' ho hr
    refine ⟨vC_u4 g1 (by decide) (by decide), fun a b h1 h2 => ?_, by rw [ho 0 (by decide)]; exact g3, by rw [ho 0 (by decide)]; exact g4, by rw [ho 0 (by decide), u2_off (by decide)]; exact g5, fun a ha => ?_, fun a b h1 h2 => ?_, fun l hl => ?_⟩
    · rw [cell a b h1 h2]
      split
      · exact ⟨h0, h9⟩
      · exact g2 a b h1 h2
    · rw [ho 2 (by decide), ho 3 (by decide), ho 4 (by decide), ho 0 (by decide), u2_off (by decide), u2_off (by decide), u2_off (by decide)]
      exact g6 a ha
    · have e := g7 a b h1 h2
      rw [hr a b (by omega) (by omega), hr b a (by omega) (by omega), cell a b h1 h2]
      by_cases z : a = p ∧ b = q
      · rw [if_pos (Or.inl z), if_pos (Or.inr ⟨z.2, z.1⟩), if_pos z]; exact ⟨rfl, rfl⟩
      · rw [if_neg (show ¬ ((a = p ∧ b = q) ∨ (a = q ∧ b = p)) by omega), if_neg (show ¬ ((b = p ∧ a = q) ∨ (b = q ∧ a = p)) by omega), if_neg z]; exact e
    · rw [ho 6 (by decide), ho 7 (by decide), ho 8 (by decide), u2_off (by decide), u2_off (by decide), ob_off (by decide)]
      exact g8 l hl
  exact ⟨key _ (fun j hj => by unfold setsF; rw [u2_off hj, u2_off hj]) r1, key _ (fun j hj => by unfold setsF; rw [u2_off hj, u2_off hj]) r2⟩
theorem u2_id {st : St} {k i : Nat} {v : Int32} (h : st k i = v) : u2 st k i v = st := by
  subst h
  funext a b
  unfold u2 u1 upd
  split
  next e =>
    subst e
    show (if b = i then st a i else st a b) = st a b
    split
    next e => subst e; rfl
    next => rfl
  next => rfl
def ef (mt mt' : St) : Prop := ∀ j, j ≠ 5 → mt' j = mt j
theorem ef_sets {mt : St} {p q : Nat} {v : Int32} : ef mt (setsF mt p q v) := fun j hj => by
  unfold setsF
  rw [u2_off hj, u2_off hj]
theorem ef.wf {mt mt' : St} (h : ef mt mt') : wf mt mt' := ⟨fun j _ h5 _ _ => h j h5, fun i _ _ => by rw [h 0 (by decide)]⟩
theorem ef.tr {a b c : St} (h1 : ef a b) (h2 : ef b c) : ef a c := fun j hj => (h2 j hj).trans (h1 j hj)
theorem t_fadesTwo {n nL p q : Nat} {mt : St} {c : Ct} {K : St → Prop} (h : RM n nL mt c) (hp : p < q) (hq : q < n) (hk : ∀ mt', RM n nL mt' (stepH p q c) → ef mt mt' → K mt') : w_X9_fadesTwo (nI p) (nI q) mt K := by
  have h' := h
  obtain ⟨g1, g2, g3, g4, g5, g6, g7, g8⟩ := h'
  have hn := g1.1
  have hb := g2 p q hp hq
  obtain ⟨a1, a2, a3, a4⟩ := g6 p (by omega)
  obtain ⟨b1, b2, b3, b4⟩ := g6 q hq
  have stay : c 3 p = -1 ∨ c 3 q = -1 → K mt := fun z => by
    have e : chgF c p q = 0 := by
      unfold chgF
      rcases z with z | z
      · rw [if_pos z]
      · by_cases h1 : c 3 p = -1
        · rw [if_pos h1]
        · rw [if_neg h1, if_pos z]
    have e2 : stepH p q c = c := by
      unfold stepH
      rw [e, held_id hb.1 hb.2]
      exact u2_id rfl
    exact hk mt (by rw [e2]; exact h) (fun _ _ => rfl)
  unfold w_X9_fadesTwo
  refine t_has (fun z => ⟨fun _ => stay (Or.inl (a3.mp z)), fun e => absurd e (by decide)⟩) (fun z => ⟨fun e => absurd rfl e, fun _ => t_has (fun z2 => ⟨fun e => absurd e (by decide), fun _ => stay (Or.inr (b3.mp z2))⟩) (fun z2 => ⟨fun _ => ?_, fun e => absurd rfl e⟩)⟩)
  have y1 : c 3 p ≠ -1 := fun e => z (a3.mpr e)
  have y2 : c 3 q ≠ -1 := fun e => z2 (b3.mpr e)
  refine t_hateOf (by omega) (by omega) ?_
  rw [clI (show p < 6 by omega) (by decide), clI (show q < 6 by omega) (by decide), (g7 p q hp hq).1, a4 y1, b4 y2]
  refine ⟨vp_in_nI (by omega) (by decide), vp_in_nI (by omega) (by decide), fun e => ?_, fun e => ?_⟩
  · refine t_stirsOf (by omega) (t_stirsOf (by omega) (t_held ?_))
    rw [w_X9_fadesTwo_b89]
    refine t_sets (by omega) (by omega) (hk _ ?_ ef_sets)
    rw [hlF_held, a1, a2, b1, b2]
    have e2 : stepH p q c = u2 c 4 (hI p q) (heldF (c 4 (hI p q) + stirF c p + stirF c q)) := by
      unfold stepH chgF
      rw [if_neg y1, if_neg y2, if_neg e, Int32.add_assoc]
    rw [e2]
    exact (RM_hate h hp hq (heldF_in _).1 (heldF_in _).2).1
  · refine t_fadesOf (by omega) (t_fadesOf (by omega) (t_held ?_))
    rw [w_X9_fadesTwo_b89]
    refine t_sets (by omega) (by omega) (hk _ ?_ ef_sets)
    rw [hlF_held, a1, a2, b1, b2]
    have e2 : stepH p q c = u2 c 4 (hI p q) (heldF (c 4 (hI p q) - fadeF c p - fadeF c q)) := by
      unfold stepH chgF
      rw [if_neg y1, if_neg y2, if_pos e, addsub]
    rw [e2]
    exact (RM_hate h hp hq (heldF_in _).1 (heldF_in _).2).1
end
section
/-! pure part: who opens what, on the check's side -/
theorem t_areThere {n nL p q : Nat} {mt : St} {c : Ct} {t : Int32} {K : Int32 → St → Prop} (h : RM n nL mt c) (hp : p < n) (hq : q < n) (ht : t ≠ -1) (hk : K (if c 3 p = t ∧ c 3 q = t then 1 else 0) mt) : w_X9_areThere (nI p) (nI q) t mt K := by
  obtain ⟨g1, g2, g3, g4, g5, g6, g7, g8⟩ := h
  have hn := g1.1
  obtain ⟨a1, a2, a3, a4⟩ := g6 p hp
  obtain ⟨b1, b2, b3, b4⟩ := g6 q hq
  have no : ¬ (c 3 p = t ∧ c 3 q = t) → K 0 mt := fun z => by rw [if_neg z] at hk; exact hk
  unfold w_X9_areThere
  rw [clI (show p < 6 by omega) (by decide), clI (show q < 6 by omega) (by decide)]
  refine ⟨vp_in_nI (by omega) (by decide), fun e => no fun z => e ?_, fun e => ⟨vp_in_nI (by omega) (by decide), fun e2 => no fun z => e2 ?_, fun e2 => ?_⟩⟩
  · rw [a4 (by rw [z.1]; exact ht)]; exact z.1
  · rw [b4 (by rw [z.2]; exact ht)]; exact z.2
  · refine t_has (fun y => ⟨fun _ => no fun z => ht ?_, fun x => absurd x (by decide)⟩) (fun y => ⟨fun x => absurd rfl x, fun _ => t_has (fun y2 => ⟨fun _ => no fun z => ht ?_, fun x => absurd x (by decide)⟩) (fun y2 => ⟨fun x => absurd rfl x, fun _ => ?_⟩)⟩)
    · rw [← z.1]; exact a3.mp y
    · rw [← z.2]; exact b3.mp y2
    · have e3 : c 3 p = t := by rw [← a4 (fun e => y (a3.mpr e))]; exact e
      have e4 : c 3 q = t := by rw [← b4 (fun e => y2 (b3.mpr e))]; exact e2
      rw [if_pos ⟨e3, e4⟩] at hk
      exact hk
theorem n10 : ∀ p, p < 6 → ∀ q, q < 6 → (10 * nI p) + nI q = nI (10 * p + q) := by decide +kernel
theorem t_op25 {n nL p : Nat} {mt : St} {c : Ct} {t d : Int32} {s : Option (Nat × Nat) × Int32} {c10 : Int32 → Int32 → Int32 → St → Prop} {K : Int32 → St → Prop} (h : RM n nL mt c) (hp : p < n) (ht : t ≠ -1)
    (hk : c10 (oI (fr (p + 1) n (fun q s => oS c t d p q s) s).1) (fr (p + 1) n (fun q s => oS c t d p q s) s).2 (nI (p + 1)) mt) : ∃ m, w_X9_opensAt_L25 t d c10 K m (oI s.1) s.2 (nI p) (nI (p + 1)) mt := by
  have hn := h.1.1
  have h8 : mt 0 8 = nI n := h.2.2.1
  refine lo_fr (fun m q s => w_X9_opensAt_L25 t d c10 K m (oI s.1) s.2 (nI p) (nI q) mt) (fun q s => oS c t d p q s) (fun _ _ => True) s (show p + 1 ≤ n by omega) trivial (fun _ _ _ _ _ => trivial) (fun _ m => ?_) (fun m q s h1 h2 _ hw => ?_)
  · rw [w_X9_opensAt_L25, w_X9_opensAt_L25q, h8]
    refine ⟨fun _ => ?_, fun h9 => absurd (nI_le (Nat.le_refl n) (by omega)) h9⟩
    rw [w_X9_opensAt_b99, nI_inc]
    exact hk
  · rw [w_X9_opensAt_L25, w_X9_opensAt_L25q, h8]
    refine ⟨fun h9 => absurd h9 (nI_ge h2 (by omega)), fun _ => t_areThere h hp h2 ht ?_⟩
    have e7 := (h.2.2.2.2.2.2.1 p q (by omega) h2).1
    by_cases hb : c 3 p = t ∧ c 3 q = t
    · rw [if_pos hb]
      refine ⟨fun h9 => absurd h9 (by decide), fun _ => t_hateOf (by omega) (by omega) ?_⟩
      simp only [oS, if_pos hb] at hw
      rw [w_X9_opensAt_b93, nI_inc, e7]
      refine ⟨fun h3 => ?_, fun h3 => t_hateOf (by omega) (by omega) ?_⟩
      · rw [if_pos h3] at hw; exact hw
      · rw [if_neg h3] at hw
        rw [e7]
        refine ⟨fun h4 => t_hateOf (by omega) (by omega) ?_, fun h4 => ?_⟩
        · rw [if_neg (i_nle.mpr h4)] at hw
          rw [w_X9_opensAt_b93, nI_inc, n10 p (by omega) q (by omega), e7]
          exact hw
        · rw [if_pos (i_nlt.mp h4)] at hw
          rw [w_X9_opensAt_b93, nI_inc]
          exact hw
    · rw [if_neg hb]
      refine ⟨fun _ => ?_, fun h9 => absurd rfl h9⟩
      simp only [oS, if_neg hb] at hw
      rw [w_X9_opensAt_b93, nI_inc]
      exact hw
theorem t_opensAt {n nL : Nat} {mt : St} {c : Ct} {t d : Int32} {K : Int32 → St → Prop} (h : RM n nL mt c) (ht : t ≠ -1) (hk : K (oI (opS c n t d).1) mt) : w_X9_opensAt t d mt K := by
  have hn := h.1.1
  have h8 : mt 0 8 = nI n := h.2.2.1
  refine lo_fr (fun m p s => w_X9_opensAt_L10 t d K m (oI s.1) s.2 (nI p) mt) (fun p s => fr (p + 1) n (fun q s => oS c t d p q s) s) (fun _ _ => True) (none, 100) (Nat.zero_le n) trivial (fun _ _ _ _ _ => trivial) (fun _ m => ?_) (fun m p s h1 h2 _ hw => ?_)
  · rw [w_X9_opensAt_L10, w_X9_opensAt_L10q, h8]
    exact ⟨fun _ => hk, fun h9 => absurd (nI_le (Nat.le_refl n) (by omega)) h9⟩
  · rw [w_X9_opensAt_L10, w_X9_opensAt_L10q, h8]
    refine ⟨fun h9 => absurd h9 (nI_ge h2 (by omega)), fun _ => ?_⟩
    rw [nI_inc]
    exact t_op25 h h2 ht hw
end
section
/-! pure part: the letters of a week, on the check's side -/
theorem RM_off {n nL : Nat} {mt mt' : St} {c : Ct} (h : RM n nL mt c) (h2 : ∀ j, 2 ≤ j → j ≤ 8 → mt' j = mt j) (h0 : ∀ i, 8 ≤ i → i ≤ 11 → mt' 0 i = mt 0 i) : RM n nL mt' c := by
  obtain ⟨g1, g2, g3, g4, g5, g6, g7, g8⟩ := h
  refine ⟨g1, g2, by rw [h0 8 (by decide) (by decide)]; exact g3, by rw [h0 9 (by decide) (by decide)]; exact g4, by rw [h0 10 (by decide) (by decide)]; exact g5, fun p hp => ?_, fun p q a b => ?_, fun l hl => ?_⟩
  · rw [h2 2 (by decide) (by decide), h2 3 (by decide) (by decide), h2 4 (by decide) (by decide), h0 11 (by decide) (by decide)]
    exact g6 p hp
  · rw [h2 5 (by decide) (by decide)]
    exact g7 p q a b
  · rw [h2 6 (by decide) (by decide), h2 7 (by decide) (by decide), h2 8 (by decide) (by decide)]
    exact g8 l hl
theorem RM_7 {n nL : Nat} {mt : St} {c : Ct} {i : Nat} {v : Int32} (h : RM n nL mt c) : RM n nL mt (u2 c 7 i v) := by
  obtain ⟨g1, g2, g3, g4, g5, g6, g7, g8⟩ := h
  refine ⟨vC_u4 g1 (by decide) (by decide), fun p q a b => by rw [u2_off (by decide)]; exact g2 p q a b, g3, g4, by rw [u2_off (by decide)]; exact g5, fun p hp => ?_, fun p q a b => ?_, fun l hl => ?_⟩
  · rw [u2_off (by decide), u2_off (by decide), u2_off (by decide)]
    exact g6 p hp
  · rw [u2_off (by decide)]
    exact g7 p q a b
  · rw [u2_off (by decide), u2_off (by decide), ob_off (by decide)]
    exact g8 l hl
theorem tb_or {b l j : Nat} : (b ||| 2 ^ l).testBit j = (b.testBit j || decide (l = j)) := by
  rw [Nat.testBit_or, Nat.testBit_two_pow]
theorem RM_open {n nL l : Nat} {mt : St} {c : Ct} (h : RM n nL mt c) (hl : l < nL) : RM n nL (u2 mt 8 l 1) (u2 c 0 9 (c 0 9 ||| lbit l)) := by
  obtain ⟨g1, g2, g3, g4, g5, g6, g7, g8⟩ := h
  have g1' := g1
  obtain ⟨h1, h2, h3, h4, h5, h6, h7⟩ := g1'
  have hb := p64 h2 h7
  have e9 : u2 c 0 9 (c 0 9 ||| lbit l) 0 9 = nI (ob c ||| 2 ^ l) := by
    rw [u2_same]
    conv => lhs; rw [h6]
    exact or_bit _ hb l (by omega)
  have hlt : ob c ||| 2 ^ l < 2 ^ nL := Nat.or_lt_two_pow h7 (Nat.pow_lt_pow_right (by decide) hl)
  have eo : ob (u2 c 0 9 (c 0 9 ||| lbit l)) = ob c ||| 2 ^ l := ob_of e9 (p64 h2 hlt)
  refine ⟨vC_of h1 h2 (by rw [u2_ne (Or.inr (by decide))]; exact h3) (by rw [u2_ne (Or.inr (by decide))]; exact h4) (fun j hj => by rw [u2_off (by decide)]; exact h5 j hj) ⟨_, hlt, e9⟩, fun p q a b => by rw [u2_off (by decide)]; exact g2 p q a b,
    by rw [u2_off (by decide)]; exact g3, by rw [u2_off (by decide)]; exact g4, by rw [u2_off (by decide), u2_ne (Or.inr (by decide))]; exact g5, fun p hp => ?_, fun p q a b => ?_, fun j hj => ?_⟩
  · rw [u2_off (by decide), u2_off (by decide), u2_off (by decide), u2_off (by decide), u2_off (by decide), u2_off (by decide), u2_off (by decide)]
    exact g6 p hp
  · rw [u2_off (by decide), u2_off (by decide)]
    exact g7 p q a b
  · have g := g8 j hj
    rw [u2_off (by decide), u2_off (by decide), u2_off (by decide), u2_off (by decide), eo, tb_or]
    refine ⟨g.1, g.2.1, g.2.2.1, ?_⟩
    by_cases e : j = l
    · subst e
      rw [u2_same]
      simp
    · rw [u2_ne (Or.inr e), g.2.2.2]
      simp [Ne.symm e]
theorem stepL_open {n l : Nat} {s : Int32 × Ct} (h : bitF (s.2 0 9) (nI l) = 1) : stepL n l s = s := by
  unfold stepL
  rw [if_pos h]
theorem stepL_none {n l : Nat} {s : Int32 × Ct} (h : ¬ bitF (s.2 0 9) (nI l) = 1) (ho : openerF s.2 n l = none) : stepL n l s = s := by
  unfold stepL
  rw [if_neg h, ho]
theorem stepL_some {n l p q : Nat} {s : Int32 × Ct} (h : ¬ bitF (s.2 0 9) (nI l) = 1) (ho : openerF s.2 n l = some (p, q)) : stepL n l s = (s.1 ||| lbit l, opens s.2 l p q) := by
  unfold stepL
  rw [if_neg h, ho]
theorem lb_ne : ∀ b, b < 64 → ∀ l, l < 6 → ¬ nI (b ||| 2 ^ l) = 0 := by decide +kernel
theorem s10 : ∀ p, p < 6 → ∀ q, q < 6 → 0 ≤ nI (10 * p + q) := by decide +kernel
def LI (n nL : Nat) (c : Ct) (mt : St) (l : Nat) (mt' : St) : Prop :=
  ∃ b cnt, (fr 0 l (stepL n) (0, c)).1 = nI b ∧ b < 2 ^ l ∧ RM n nL mt' (fr 0 l (stepL n) (0, c)).2 ∧ wf mt mt' ∧ mt' 0 25 = nI cnt ∧ cnt ≤ l ∧ (cnt = 0 ↔ b = 0) ∧ ∀ j, j < l → mt' 14 j = if b.testBit j then (fr 0 l (stepL n) (0, c)).2 7 j else -9
theorem opens_7 {c : Ct} {l p q j : Nat} (h : j ≠ l) : opens c l p q 7 j = c 7 j := by
  unfold opens
  rw [u2_off (by decide), u2_ne (Or.inr h), u2_off (by decide)]
theorem opens_7s {c : Ct} {l p q : Nat} : opens c l p q 7 l = nI (10 * p + q) := by
  unfold opens
  rw [u2_off (by decide), u2_same]
theorem t_letters {n nL : Nat} {mt : St} {c : Ct} {K : St → Prop} (h : RM n nL mt c) (h25 : mt 0 25 = 0) (hk : ∀ mt', LI n nL c mt nL mt' → K mt') : ∃ m, w_X9_goesWeek_L57 K m 0 mt := by
  refine lo_rel (fun m l (s : St) => w_X9_goesWeek_L57 K m (nI l) s) (LI n nL c mt) mt (Nat.zero_le nL) ⟨0, 0, rfl, by decide, h, wf_rf, h25, Nat.le_refl 0, Iff.rfl, fun j hj => absurd hj (Nat.not_lt_zero j)⟩ (fun s hI m => ?_) (fun m l s _ hl hI hw => ?_)
  · obtain ⟨b, cnt, e1, e2, e3, e4, e5, e6, e7, e8⟩ := hI
    rw [w_X9_goesWeek_L57, w_X9_goesWeek_L57q, e3.2.2.2.1]
    exact ⟨fun _ => hk s ⟨b, cnt, e1, e2, e3, e4, e5, e6, e7, e8⟩, fun h9 => absurd (nI_le (Nat.le_refl nL) (by have := e3.1.2.1; omega)) h9⟩
  · obtain ⟨b, cnt, e1, e2, e3, e4, e5, e6, e7, e8⟩ := hI
    have hL := e3.1.2.1
    have hn := e3.1.1
    have g8 := e3.2.2.2.2.2.2.2 l hl
    have hob := e3.1.2.2.2.2.2
    have hbt := bit_is _ (p64 hL hob.2) l (by omega)
    have fs : fr 0 (l + 1) (stepL n) (0, c) = stepL n l (fr 0 l (stepL n) (0, c)) := fr_succ (Nat.zero_le l) _ _
    have hb64 : b < 64 := p64 (show l ≤ 6 by omega) e2
    -- nothing is opened: the next
    have skip : (fr 0 (l + 1) (stepL n) (0, c)) = (fr 0 l (stepL n) (0, c)) → LI n nL c mt (l + 1) (u2 s 14 l (-9)) := by
      intro e
      refine ⟨b, cnt, by rw [e]; exact e1, Nat.lt_of_lt_of_le e2 (Nat.pow_le_pow_right (by decide) (by omega)), by rw [e]; exact RM_off e3 (fun j a b => u2_off (by omega)) (fun i _ _ => by rw [u2_off (by decide)]), e4.tr (wf_u2 (Or.inr (Or.inr rfl))), by rw [u2_off (by decide)]; exact e5, by omega, e7, fun j hj => ?_⟩
      rw [e]
      by_cases ej : j = l
      · subst ej
        rw [u2_same, Nat.testBit_lt_two_pow e2]
        rfl
      · rw [u2_ne (Or.inr ej)]
        exact e8 j (by omega)
    rw [w_X9_goesWeek_L57, w_X9_goesWeek_L57q, e3.2.2.2.1, clI (show l < 6 by omega) (by decide)]
    refine ⟨fun h9 => absurd h9 (nI_ge hl (by omega)), fun _ => ⟨vp_in_nI (by omega) (by decide), fun ho => ⟨vp_in_nI (by omega) (by decide), vp_in_nI (by omega) (by decide), ?_⟩, fun ho => ?_⟩⟩
    · -- sealed
      have hsl : ¬ (ob (fr 0 l (stepL n) (0, c)).2).testBit l = true := fun z => ho (by rw [g8.2.2.2, if_pos z])
      have hbf : ¬ bitF ((fr 0 l (stepL n) (0, c)).2 0 9) (nI l) = 1 := by
        rw [hob.1, hbt, if_neg hsl]; decide
      refine t_opensAt e3 (by rw [g8.2.1]; exact g8.2.2.1) ?_
      rw [g8.1, g8.2.1]
      have hop : (opS (fr 0 l (stepL n) (0, c)).2 n ((fr 0 l (stepL n) (0, c)).2 6 l) ((fr 0 l (stepL n) (0, c)).2 5 l)).1 = openerF (fr 0 l (stepL n) (0, c)).2 n l := rfl
      rw [hop, w_X9_goesWeek_b101]
      cases ho2 : openerF (fr 0 l (stepL n) (0, c)).2 n l with
      | none =>
        have e : stepL n l (fr 0 l (stepL n) (0, c)) = fr 0 l (stepL n) (0, c) := stepL_none hbf ho2
        refine ⟨vp_in_nI (by omega) (by decide), vp_in_nI (by omega) (by decide), ?_⟩
        rw [clI (show l < 6 by omega) (by decide), u2_same]
        refine ⟨fun h9 => absurd h9 (by decide), fun _ => ?_⟩
        rw [w_X9_goesWeek_b171, nI_inc]
        exact hw _ (skip (fs.trans e))
      | some pq =>
        obtain ⟨p, q⟩ := pq
        have hpq := opS_in p q ho2
        have h10 := o10 p (by omega) q (by omega)
        have e : stepL n l (fr 0 l (stepL n) (0, c)) = ((fr 0 l (stepL n) (0, c)).1 ||| lbit l, opens (fr 0 l (stepL n) (0, c)).2 l p q) := stepL_some hbf ho2
        refine ⟨vp_in_nI (by omega) (by decide), vp_in_nI (by omega) (by decide), ?_⟩
        rw [clI (show l < 6 by omega) (by decide), u2_same]
        show (0 ≤ nI (10 * p + q) → _) ∧ _
        refine ⟨fun _ => ⟨vp_in_nI (by omega) (by decide), vp_in_nI (by omega) (by decide), vp_in_nI (by omega) (by decide), ?_⟩, fun h9 => absurd (s10 p (by omega) q (by omega)) h9⟩
        simp only [oI]
        rw [h10.2.1, h10.1]
        refine t_hateOf (by omega) (by omega) (t_held (t_sets (by omega) (by omega) ?_))
        rw [w_X9_goesWeek_b171, nI_inc]
        have q1 := RM_7 (i := l) (v := nI (10 * p + q)) (RM_open e3 hl)
        have q2 : RM n nL (u2 (u2 (u2 s 14 l (nI (10 * p + q))) 8 l 1) 0 25 (u2 (u2 s 14 l (nI (10 * p + q))) 8 l 1 0 25 + 1)) (u2 (u2 (fr 0 l (stepL n) (0, c)).2 0 9 ((fr 0 l (stepL n) (0, c)).2 0 9 ||| lbit l)) 7 l (nI (10 * p + q))) := by
          refine RM_off q1 (fun j a b => ?_) (fun i a b => ?_)
          · rw [u2_off (by omega)]
            unfold u2 u1
            by_cases e8 : j = 8
            · subst e8; simp
            · rw [if_neg e8, if_neg (by omega), if_neg e8]
          · rw [u2_ne (Or.inr (by omega)), u2_off (by decide), u2_off (by decide), u2_off (by decide)]
        have hh : u2 (u2 (u2 s 14 l (nI (10 * p + q))) 8 l 1) 0 25 (u2 (u2 s 14 l (nI (10 * p + q))) 8 l 1 0 25 + 1) 5 (6 * p + q) = (fr 0 l (stepL n) (0, c)).2 4 (hI p q) := by
          rw [u2_off (by decide), u2_off (by decide), u2_off (by decide)]
          exact (e3.2.2.2.2.2.2.1 p q hpq.1 hpq.2.1).1
        have h25' : u2 (u2 s 14 l (nI (10 * p + q))) 8 l 1 0 25 = nI cnt := by rw [u2_off (by decide), u2_off (by decide)]; exact e5
        rw [hh, hlF_held]
        refine hw _ ⟨b ||| 2 ^ l, cnt + 1, ?_, Nat.or_lt_two_pow (Nat.lt_of_lt_of_le e2 (Nat.pow_le_pow_right (by decide) (by omega))) (Nat.pow_lt_pow_right (by decide) (by omega)), ?_, ?_, ?_, by omega, ?_, fun j hj => ?_⟩
        · rw [fs, e, e1]; exact or_bit b hb64 l (by omega)
        · rw [fs, e]
          exact (RM_hate q2 hpq.1 hpq.2.1 (heldF_in _).1 (heldF_in _).2).1
        · exact ((((e4.tr (wf_u2 (Or.inr (Or.inr rfl)))).tr (wf_u2 (Or.inr (Or.inl rfl)))).tr (wf_u20 (Or.inr rfl))).tr wf_sets)
        · unfold setsF
          rw [u2_off (by decide), u2_off (by decide), u2_same, h25', nI_inc]
        · refine ⟨fun z => by omega, fun z => absurd ?_ (lb_ne b hb64 l (by omega))⟩
          rw [z]; rfl
        · rw [fs, e, tb_or]
          unfold setsF
          rw [u2_off (by decide), u2_off (by decide), u2_off (by decide), u2_off (by decide)]
          by_cases ej : j = l
          · subst ej
            rw [u2_same]
            simp [opens_7s]
          · rw [u2_ne (Or.inr ej), e8 j (by omega)]
            simp only [decide_eq_false (Ne.symm ej), Bool.or_false]
            split
            · exact (opens_7 ej).symm
            · rfl
    · -- open already
      have hsl : (ob (fr 0 l (stepL n) (0, c)).2).testBit l = true := by
        cases hq : (ob (fr 0 l (stepL n) (0, c)).2).testBit l with
        | true => rfl
        | false =>
          rw [g8.2.2.2, hq] at ho
          exact absurd ho (by decide)
      have e : stepL n l (fr 0 l (stepL n) (0, c)) = fr 0 l (stepL n) (0, c) := stepL_open (by rw [hob.1, hbt, if_pos hsl])
      rw [w_X9_goesWeek_b101]
      refine ⟨vp_in_nI (by omega) (by decide), vp_in_nI (by omega) (by decide), ?_⟩
      rw [clI (show l < 6 by omega) (by decide), u2_same]
      refine ⟨fun h9 => absurd h9 (by decide), fun _ => ?_⟩
      rw [w_X9_goesWeek_b171, nI_inc]
      exact hw _ (skip (fs.trans e))
end
section
/-! pure part: the check's week is the class's -/
theorem t_row29 {n nL p : Nat} {mt : St} {c : Ct} {c17 : Int32 → St → Prop} {K : St → Prop} (h : RM n nL mt c) (hp : p < n) (hk : ∀ mt', RM n nL mt' (fr (p + 1) n (fun q c => stepH p q c) c) → ef mt mt' → c17 (nI (p + 1)) mt') : ∃ m, w_X9_goesWeek_L29 c17 K m (nI p) (nI (p + 1)) mt := by
  have hn := h.1.1
  refine lo_rel (fun m q (s : St) => w_X9_goesWeek_L29 c17 K m (nI p) (nI q) s) (fun q s => RM n nL s (fr (p + 1) q (fun q c => stepH p q c) c) ∧ ef mt s) mt (show p + 1 ≤ n by omega) ⟨by rw [fr_self]; exact h, fun _ _ => rfl⟩ (fun s hI m => ?_) (fun m q s h1 h2 hI hw => ?_)
  · rw [w_X9_goesWeek_L29, w_X9_goesWeek_L29q, hI.1.2.2.1]
    refine ⟨fun _ => ?_, fun h9 => absurd (nI_le (Nat.le_refl n) (by omega)) h9⟩
    rw [w_X9_goesWeek_b49, nI_inc]
    exact hk s hI.1 hI.2
  · rw [w_X9_goesWeek_L29, w_X9_goesWeek_L29q, hI.1.2.2.1]
    refine ⟨fun h9 => absurd h9 (nI_ge h2 (by omega)), fun _ => t_fadesTwo hI.1 (by omega) h2 (fun s' e1 e2 => ?_)⟩
    rw [nI_inc]
    exact hw s' ⟨by rw [fr_succ h1]; exact e1, hI.2.tr e2⟩
theorem t_rows17 {n nL : Nat} {mt : St} {c : Ct} {K : St → Prop} (h : RM n nL mt c) (hk : ∀ mt', RM n nL mt' (hatesF n c) → ef mt mt' → w_X9_goesWeek_b55 K mt') : ∃ m, w_X9_goesWeek_L17 K m 0 mt := by
  have hn := h.1.1
  refine lo_rel (fun m p (s : St) => w_X9_goesWeek_L17 K m (nI p) s) (fun p s => RM n nL s (fr 0 p (fun p c => fr (p + 1) n (fun q c => stepH p q c) c) c) ∧ ef mt s) mt (Nat.zero_le n) ⟨by rw [fr_self]; exact h, fun _ _ => rfl⟩ (fun s hI m => ?_) (fun m p s h1 h2 hI hw => ?_)
  · rw [w_X9_goesWeek_L17, w_X9_goesWeek_L17q, hI.1.2.2.1]
    exact ⟨fun _ => hk s hI.1 hI.2, fun h9 => absurd (nI_le (Nat.le_refl n) (by omega)) h9⟩
  · rw [w_X9_goesWeek_L17, w_X9_goesWeek_L17q, hI.1.2.2.1]
    refine ⟨fun h9 => absurd h9 (nI_ge h2 (by omega)), fun _ => ?_⟩
    rw [nI_inc]
    exact t_row29 hI.1 h2 fun s' e1 e2 => hw s' ⟨by rw [fr_succ h1]; exact e1, hI.2.tr e2⟩
/-- what a week of the check says beside its country: how many it opened, by whom -/
def WS (n nL : Nat) (c : Ct) (mt' : St) : Prop := ∃ b cnt, (weekF n nL c).1 = nI b ∧ b < 2 ^ nL ∧ mt' 0 25 = nI cnt ∧ cnt ≤ nL ∧ (cnt = 0 ↔ b = 0) ∧ ∀ j, j < nL → mt' 14 j = if b.testBit j then (weekF n nL c).2 7 j else -9
theorem vC_wk {n nL : Nat} {c : Ct} {v : Int32} (h : vC n nL c) : vC n nL (u2 c 0 10 v) := by
  obtain ⟨h1, h2, h3, h4, h5, h6, h7⟩ := h
  exact vC_of h1 h2 (by rw [u2_ne (Or.inr (by decide))]; exact h3) (by rw [u2_ne (Or.inr (by decide))]; exact h4) (fun l hl => by rw [u2_off (by decide)]; exact h5 l hl) ⟨ob c, h7, by rw [u2_ne (Or.inr (by decide))]; exact h6⟩
theorem ob_wk {c : Ct} {v : Int32} : ob (u2 c 0 10 v) = ob c := by
  unfold ob
  rw [u2_ne (Or.inr (by decide))]
theorem t_goesWeek {n nL : Nat} {mt : St} {c : Ct} {K : St → Prop} (h : RM n nL mt c) (hk : ∀ mt', RM n nL mt' (weekF n nL c).2 → wf mt mt' → WS n nL c mt' → K mt') : w_X9_goesWeek mt K := by
  have h1 : RM n nL (u2 (u2 mt 0 10 (mt 0 10 + 1)) 0 25 0) (u2 c 0 10 (c 0 10 + 1)) := by
    obtain ⟨g1, g2, g3, g4, g5, g6, g7, g8⟩ := h
    refine ⟨vC_wk g1, fun p q a b => by rw [u2_off (by decide)]; exact g2 p q a b, by rw [u2_ne (Or.inr (by decide)), u2_ne (Or.inr (by decide))]; exact g3, by rw [u2_ne (Or.inr (by decide)), u2_ne (Or.inr (by decide))]; exact g4, by rw [u2_ne (Or.inr (by decide)), u2_same, u2_same, g5], fun p hp => ?_, fun p q a b => ?_, fun l hl => ?_⟩
    · rw [u2_off (by decide), u2_off (by decide), u2_off (by decide), u2_off (by decide), u2_off (by decide), u2_off (by decide), u2_ne (Or.inr (by decide)), u2_ne (Or.inr (by decide)), u2_off (by decide), u2_off (by decide), u2_off (by decide)]
      exact g6 p hp
    · rw [u2_off (by decide), u2_off (by decide), u2_off (by decide)]
      exact g7 p q a b
    · rw [u2_off (by decide), u2_off (by decide), u2_off (by decide), u2_off (by decide), u2_off (by decide), u2_off (by decide), u2_off (by decide), u2_off (by decide), ob_wk]
      exact g8 l hl
  unfold w_X9_goesWeek
  refine t_rows17 h1 fun s e1 e2 => ?_
  rw [w_X9_goesWeek_b55]
  refine t_letters e1 (by rw [e2 0 (by decide), u2_same]) fun s' hI => ?_
  obtain ⟨b, cnt, f1, f2, f3, f4, f5, f6, f7, f8⟩ := hI
  exact hk s' f3 ((((wf_u20 (Or.inl rfl)).tr (wf_u20 (Or.inr rfl))).tr e2.wf).tr f4) ⟨b, cnt, f1, f2, f5, f6, f7, f8⟩
theorem t_goesOn {n nL w : Nat} {mt : St} {c : Ct} {K : St → Prop} (hw : w < 2147483648) (h : RM n nL mt c) (hk : ∀ mt', RM n nL mt' (weeksF n nL w c) → wf mt mt' → K mt') : w_X9_goesOn (nI w) mt K := by
  unfold w_X9_goesOn
  refine lo_rel (fun m i (s : St) => w_X9_goesOn_L2 (nI w) K m (nI i) s) (fun i s => RM n nL s (weeksF n nL i c) ∧ wf mt s) mt (Nat.zero_le w) ⟨h, wf_rf⟩ (fun s hI m => ?_) (fun m i s h1 h2 hI hk2 => ?_)
  · rw [w_X9_goesOn_L2, w_X9_goesOn_L2q]
    exact ⟨fun _ => hk s hI.1 hI.2, fun h9 => absurd (nI_le (Nat.le_refl w) hw) h9⟩
  · rw [w_X9_goesOn_L2, w_X9_goesOn_L2q]
    refine ⟨fun h9 => absurd h9 (nI_ge h2 hw), fun _ => t_goesWeek hI.1 fun s' e1 e2 _ => ?_⟩
    rw [nI_inc]
    exact hk2 s' ⟨by unfold weeksF; rw [fr_succ (Nat.zero_le i)]; exact e1, hI.2.tr e2⟩
end
section
/-! pure part: the check keeps its country in a row, and puts it back -/
theorem t_passesS {k n cur : Nat} {mt : St} {K : St → Prop} (hk0 : k ≠ 0) (hk13 : k ≠ 13) (hc : mt 0 22 = nI cur) (hf : mt 0 21 = 1) (hb : cur + n ≤ 825)
    (hk : ∀ s : St, s 0 22 = nI (cur + n) → (∀ j, j ≠ 0 → j ≠ 13 → s j = mt j) → (∀ a, a ≠ 22 → s 0 a = mt 0 a) → (∀ a, s 13 a = if cur ≤ a ∧ a < cur + n then mt k (a - cur) else mt 13 a) → K s) : w_X9_passes k n mt K := by
  unfold w_X9_passes
  refine lo_rel (fun m i (s : St) => w_X9_passes_L2 k n K m (nI i) s) (fun i s => s 0 22 = nI (cur + i) ∧ (∀ j, j ≠ 0 → j ≠ 13 → s j = mt j) ∧ (∀ a, a ≠ 22 → s 0 a = mt 0 a) ∧ ∀ a, s 13 a = if cur ≤ a ∧ a < cur + i then mt k (a - cur) else mt 13 a) mt (Nat.zero_le n)
    ⟨hc, fun _ _ _ => rfl, fun _ _ => rfl, fun a => (if_neg (show ¬ (cur ≤ a ∧ a < cur + 0) by omega)).symm⟩ (fun s hI m => ?_) (fun m i s h1 h2 hI hw => ?_)
  · rw [w_X9_passes_L2, w_X9_passes_L2q]
    exact ⟨fun _ => hk s hI.1 hI.2.1 hI.2.2.1 hI.2.2.2, fun h9 => absurd (nI_le (Nat.le_refl n) (by omega)) h9⟩
  · obtain ⟨e1, e2, e3, e4⟩ := hI
    rw [w_X9_passes_L2, w_X9_passes_L2q]
    refine ⟨fun h9 => absurd h9 (nI_ge h2 (by omega)), fun _ => ⟨fun h9 => ?_, fun _ => ⟨vp_in_nI h2 (by omega), ?_⟩⟩⟩
    · rw [e3 21 (by decide), hf] at h9
      exact absurd h9 (by decide)
    · rw [e1, clI (show i < 825 by omega) (by decide), clI (show cur + i < 825 by omega) (by decide)]
      refine ⟨vp_in_nI (by omega) (by decide), ?_⟩
      rw [w_X9_passes_b42, nI_inc]
      refine hw _ ⟨?_, fun j a b => ?_, fun a ha => ?_, fun a => ?_⟩
      · rw [u2_same, u2_off (by decide), e1, nI_inc]; rfl
      · rw [u2_off a, u2_off b]; exact e2 j a b
      · rw [u2_ne (Or.inr ha), u2_off (by decide)]; exact e3 a ha
      · rw [u2_off (by decide)]
        by_cases h : a = cur + i
        · subst h
          rw [u2_same, e2 k hk0 hk13, if_pos ⟨by omega, by omega⟩, Nat.add_sub_cancel_left]
        · rw [u2_ne (Or.inr h), e4 a]
          by_cases h3 : cur ≤ a ∧ a < cur + i
          · rw [if_pos h3, if_pos ⟨h3.1, by omega⟩]
          · rw [if_neg h3, if_neg (by omega)]
theorem t_passesR {k n cur : Nat} {mt : St} {K : St → Prop} (hk0 : k ≠ 0) (hk13 : k ≠ 13) (hc : mt 0 22 = nI cur) (hf : mt 0 21 = 0) (hb : cur + n ≤ 825)
    (hk : ∀ s : St, s 0 22 = nI (cur + n) → (∀ j, j ≠ 0 → j ≠ k → s j = mt j) → (∀ a, a ≠ 22 → s 0 a = mt 0 a) → (∀ a, s k a = if a < n then mt 13 (cur + a) else mt k a) → K s) : w_X9_passes k n mt K := by
  unfold w_X9_passes
  refine lo_rel (fun m i (s : St) => w_X9_passes_L2 k n K m (nI i) s) (fun i s => s 0 22 = nI (cur + i) ∧ (∀ j, j ≠ 0 → j ≠ k → s j = mt j) ∧ (∀ a, a ≠ 22 → s 0 a = mt 0 a) ∧ ∀ a, s k a = if a < i then mt 13 (cur + a) else mt k a) mt (Nat.zero_le n)
    ⟨hc, fun _ _ _ => rfl, fun _ _ => rfl, fun a => (if_neg (Nat.not_lt_zero a)).symm⟩ (fun s hI m => ?_) (fun m i s h1 h2 hI hw => ?_)
  · rw [w_X9_passes_L2, w_X9_passes_L2q]
    exact ⟨fun _ => hk s hI.1 hI.2.1 hI.2.2.1 hI.2.2.2, fun h9 => absurd (nI_le (Nat.le_refl n) (by omega)) h9⟩
  · obtain ⟨e1, e2, e3, e4⟩ := hI
    rw [w_X9_passes_L2, w_X9_passes_L2q]
    refine ⟨fun h9 => absurd h9 (nI_ge h2 (by omega)), fun _ => ⟨fun _ => ?_, fun h9 => ?_⟩⟩
    · rw [e1, clI (show i < 825 by omega) (by decide), clI (show cur + i < 825 by omega) (by decide)]
      refine ⟨vp_in_nI (by omega) (by decide), vp_in_nI h2 (by omega), ?_⟩
      rw [w_X9_passes_b42, nI_inc]
      refine hw _ ⟨?_, fun j a b => ?_, fun a ha => ?_, fun a => ?_⟩
      · rw [u2_same, u2_off (Ne.symm hk0), e1, nI_inc]; rfl
      · rw [u2_off a, u2_off b]; exact e2 j a b
      · rw [u2_ne (Or.inr ha), u2_off (Ne.symm hk0)]; exact e3 a ha
      · rw [u2_off hk0]
        by_cases h : a = i
        · subst h
          rw [u2_same, if_pos (by omega), e2 13 (by decide) (Ne.symm hk13)]
        · rw [u2_ne (Or.inr h), e4 a]
          by_cases h3 : a < i
          · rw [if_pos h3, if_pos (by omega)]
          · rw [if_neg h3, if_neg (by omega)]
    · rw [e3 21 (by decide), hf] at h9
      exact absurd rfl h9
theorem t_oneS {cur : Nat} {v : Int32} {mt : St} {K : Int32 → St → Prop} (hc : mt 0 22 = nI cur) (hf : mt 0 21 = 1) (hb : cur < 825) (hk : K v (u2 (u2 mt 13 cur v) 0 22 (nI (cur + 1)))) : w_X9_passOne v mt K := by
  unfold w_X9_passOne
  refine ⟨fun h9 => absurd (hf.symm.trans h9) (by decide), fun _ => ?_⟩
  rw [w_X9_passOne_b20]
  refine ⟨fun h9 => absurd (hf.symm.trans h9) (by decide), fun _ => ?_⟩
  rw [hc, clI hb (by decide), w_X9_passOne_b38, u2_off (by decide), hc, nI_inc]
  exact ⟨vp_in_nI hb (by decide), hk⟩
theorem t_oneR {cur : Nat} {v : Int32} {mt : St} {K : Int32 → St → Prop} (hc : mt 0 22 = nI cur) (hf : mt 0 21 = 0) (hb : cur < 825) (hk : K (mt 13 cur) (u2 mt 0 22 (nI (cur + 1)))) : w_X9_passOne v mt K := by
  unfold w_X9_passOne
  refine ⟨fun _ => ?_, fun h9 => absurd hf h9⟩
  rw [hc, clI hb (by decide), w_X9_passOne_b20]
  refine ⟨vp_in_nI hb (by decide), fun _ => ?_, fun h9 => absurd hf h9⟩
  rw [w_X9_passOne_b38, hc, nI_inc]
  exact hk
def lvM (mt : St) (i : Nat) : Int32 := if i < 6 then mt 2 i else if i < 12 then mt 3 (i - 6) else if i < 18 then mt 4 (i - 12) else if i < 54 then mt 5 (i - 18) else if i < 60 then mt 6 (i - 54) else if i < 66 then mt 7 (i - 60) else if i < 72 then mt 8 (i - 66) else if i = 72 then mt 0 8 else if i = 73 then mt 0 9 else mt 0 10
theorem c75 : ∀ w, w < 11 → 75 * nI w = nI (75 * w) := by decide +kernel
theorem t_saves {w : Nat} {mt : St} {K : St → Prop} (hw : w < 11) (hk : ∀ s : St, (∀ j, j ≠ 0 → j ≠ 13 → s j = mt j) → (∀ a, a ≠ 21 → a ≠ 22 → s 0 a = mt 0 a) → (∀ a, s 13 a = if 75 * w ≤ a ∧ a < 75 * w + 75 then lvM mt (a - 75 * w) else mt 13 a) → K s) : w_X9_passesAll (nI w) 1 mt K := by
  unfold w_X9_passesAll
  refine ⟨Or.inr rfl, ?_⟩
  rw [c75 w hw]
  refine t_passesS (cur := 75 * w) (by decide) (by decide) (by rw [u2_ne (Or.inr (by decide)), u2_same]) (by rw [u2_same]) (by omega) fun s1 a1 b1 c1 d1 => ?_
  refine t_passesS (cur := 75 * w + 6) (by decide) (by decide) (a1) (by rw [c1 21 (by decide), u2_same]) (by omega) fun s2 a2 b2 c2 d2 => ?_
  refine t_passesS (cur := 75 * w + 12) (by decide) (by decide) (a2) (by rw [c2 21 (by decide), c1 21 (by decide), u2_same]) (by omega) fun s3 a3 b3 c3 d3 => ?_
  refine t_passesS (cur := 75 * w + 18) (by decide) (by decide) (a3) (by rw [c3 21 (by decide), c2 21 (by decide), c1 21 (by decide), u2_same]) (by omega) fun s4 a4 b4 c4 d4 => ?_
  refine t_passesS (cur := 75 * w + 54) (by decide) (by decide) (a4) (by rw [c4 21 (by decide), c3 21 (by decide), c2 21 (by decide), c1 21 (by decide), u2_same]) (by omega) fun s5 a5 b5 c5 d5 => ?_
  refine t_passesS (cur := 75 * w + 60) (by decide) (by decide) (a5) (by rw [c5 21 (by decide), c4 21 (by decide), c3 21 (by decide), c2 21 (by decide), c1 21 (by decide), u2_same]) (by omega) fun s6 a6 b6 c6 d6 => ?_
  refine t_passesS (cur := 75 * w + 66) (by decide) (by decide) (a6) (by rw [c6 21 (by decide), c5 21 (by decide), c4 21 (by decide), c3 21 (by decide), c2 21 (by decide), c1 21 (by decide), u2_same]) (by omega) fun s7 a7 b7 c7 d7 => ?_
  have f7 : s7 0 21 = 1 := by rw [c7 21 (by decide), c6 21 (by decide), c5 21 (by decide), c4 21 (by decide), c3 21 (by decide), c2 21 (by decide), c1 21 (by decide), u2_same]
  have base0 : ∀ a, a ≠ 21 → a ≠ 22 → s7 0 a = mt 0 a := fun a h1 h2 => by rw [c7 a h2, c6 a h2, c5 a h2, c4 a h2, c3 a h2, c2 a h2, c1 a h2, u2_ne (Or.inr h1), u2_ne (Or.inr h2)]
  have baseJ : ∀ j, j ≠ 0 → j ≠ 13 → s7 j = mt j := fun j h1 h2 => by rw [b7 j h1 h2, b6 j h1 h2, b5 j h1 h2, b4 j h1 h2, b3 j h1 h2, b2 j h1 h2, b1 j h1 h2, u2_off h1, u2_off h1]
  have j2 : s1 3 = mt 3 := by rw [b1 3 (by decide) (by decide), u2_off (by decide), u2_off (by decide)]
  have j3 : s2 4 = mt 4 := by rw [b2 4 (by decide) (by decide), b1 4 (by decide) (by decide), u2_off (by decide), u2_off (by decide)]
  have j4 : s3 5 = mt 5 := by rw [b3 5 (by decide) (by decide), b2 5 (by decide) (by decide), b1 5 (by decide) (by decide), u2_off (by decide), u2_off (by decide)]
  have j5 : s4 6 = mt 6 := by rw [b4 6 (by decide) (by decide), b3 6 (by decide) (by decide), b2 6 (by decide) (by decide), b1 6 (by decide) (by decide), u2_off (by decide), u2_off (by decide)]
  have j6 : s5 7 = mt 7 := by rw [b5 7 (by decide) (by decide), b4 7 (by decide) (by decide), b3 7 (by decide) (by decide), b2 7 (by decide) (by decide), b1 7 (by decide) (by decide), u2_off (by decide), u2_off (by decide)]
  have j7 : s6 8 = mt 8 := by rw [b6 8 (by decide) (by decide), b5 8 (by decide) (by decide), b4 8 (by decide) (by decide), b3 8 (by decide) (by decide), b2 8 (by decide) (by decide), b1 8 (by decide) (by decide), u2_off (by decide), u2_off (by decide)]
  have j1 : u2 (u2 mt 0 22 (nI (75 * w))) 0 21 1 2 = mt 2 := by rw [u2_off (by decide), u2_off (by decide)]
  have j0 : u2 (u2 mt 0 22 (nI (75 * w))) 0 21 1 13 = mt 13 := by rw [u2_off (by decide), u2_off (by decide)]
  rw [j1, j0] at d1
  rw [j2] at d2
  rw [j3] at d3
  rw [j4] at d4
  rw [j5] at d5
  rw [j6] at d6
  rw [j7] at d7
  refine t_oneS (cur := 75 * w + 72) a7 f7 (by omega) ?_
  refine t_oneS (cur := 75 * w + 73) (by rw [u2_ne (Or.inr (by decide)), u2_same]) (by rw [u2_ne (Or.inr (by decide)), u2_ne (Or.inr (by decide)), u2_off (by decide)]; exact f7) (by omega) ?_
  refine t_oneS (cur := 75 * w + 74) (by rw [u2_ne (Or.inr (by decide)), u2_same]) (by rw [u2_ne (Or.inr (by decide)), u2_ne (Or.inr (by decide)), u2_off (by decide), u2_ne (Or.inr (by decide)), u2_ne (Or.inr (by decide)), u2_off (by decide)]; exact f7) (by omega) ?_
  have g8 : s7 0 8 = mt 0 8 := base0 8 (by decide) (by decide)
  have g9 : s7 0 9 = mt 0 9 := base0 9 (by decide) (by decide)
  have g10 : s7 0 10 = mt 0 10 := base0 10 (by decide) (by decide)
  refine hk _ (fun j h1 h2 => ?_) (fun a h1 h2 => ?_) (fun a => ?_)
  · simp only [u2_off h1, u2_off h2]; exact baseJ j h1 h2
  · by_cases e8 : a = 8
    · subst e8; simp [u2, u1, upd, g8]
    · by_cases e9 : a = 9
      · subst e9; simp [u2, u1, upd, g9]
      · by_cases e10 : a = 10
        · subst e10; simp [u2, u1, upd, g10]
        · rw [← base0 a h1 h2]; simp [u2, u1, upd, e8, e9, e10, h1, h2]
  · have z : a < 75 * w ∨ 75 * w + 75 ≤ a ∨ ∃ r, r < 75 ∧ a = 75 * w + r := by
      by_cases h1 : a < 75 * w
      · exact Or.inl h1
      · by_cases h2 : a < 75 * w + 75
        · exact Or.inr (Or.inr ⟨a - 75 * w, by omega, by omega⟩)
        · exact Or.inr (Or.inl (by omega))
    have out : (a < 75 * w ∨ 75 * w + 72 ≤ a) → s7 13 a = mt 13 a := fun h => by rw [d7, if_neg (by omega), d6, if_neg (by omega), d5, if_neg (by omega), d4, if_neg (by omega), d3, if_neg (by omega), d2, if_neg (by omega), d1, if_neg (by omega)]
    rcases z with z | z | ⟨r, hr, rfl⟩
    · rw [if_neg (by omega), ← out (Or.inl z)]
      simp [u2, u1, upd, show a ≠ 75 * w + 72 by omega, show a ≠ 75 * w + 73 by omega, show a ≠ 75 * w + 74 by omega]
    · rw [if_neg (by omega), ← out (Or.inr (by omega))]
      simp [u2, u1, upd, show a ≠ 75 * w + 72 by omega, show a ≠ 75 * w + 73 by omega, show a ≠ 75 * w + 74 by omega]
    · rw [if_pos ⟨by omega, by omega⟩, Nat.add_sub_cancel_left]
      by_cases r2 : r = 72
      · subst r2; simp [u2, u1, upd, lvM, g8]
      · by_cases r3 : r = 73
        · subst r3; simp [u2, u1, upd, lvM, g8, g9]
        · by_cases r4 : r = 74
          · subst r4; simp [u2, u1, upd, lvM, g8, g9, g10]
          · have q : s7 13 (75 * w + r) = lvM mt r := by
              unfold lvM
              by_cases k1 : r < 6
              · rw [d7, if_neg (by omega), d6, if_neg (by omega), d5, if_neg (by omega), d4, if_neg (by omega), d3, if_neg (by omega), d2, if_neg (by omega), d1, if_pos ⟨by omega, by omega⟩, if_pos k1]; congr 1; omega
              by_cases k2 : r < 12
              · rw [d7, if_neg (by omega), d6, if_neg (by omega), d5, if_neg (by omega), d4, if_neg (by omega), d3, if_neg (by omega), d2, if_pos ⟨by omega, by omega⟩, if_neg (show ¬ r < 6 by omega), if_pos k2]; congr 1; omega
              by_cases k3 : r < 18
              · rw [d7, if_neg (by omega), d6, if_neg (by omega), d5, if_neg (by omega), d4, if_neg (by omega), d3, if_pos ⟨by omega, by omega⟩, if_neg (show ¬ r < 6 by omega), if_neg (show ¬ r < 12 by omega), if_pos k3]; congr 1; omega
              by_cases k4 : r < 54
              · rw [d7, if_neg (by omega), d6, if_neg (by omega), d5, if_neg (by omega), d4, if_pos ⟨by omega, by omega⟩, if_neg (show ¬ r < 6 by omega), if_neg (show ¬ r < 12 by omega), if_neg (show ¬ r < 18 by omega), if_pos k4]; congr 1; omega
              by_cases k5 : r < 60
              · rw [d7, if_neg (by omega), d6, if_neg (by omega), d5, if_pos ⟨by omega, by omega⟩, if_neg (show ¬ r < 6 by omega), if_neg (show ¬ r < 12 by omega), if_neg (show ¬ r < 18 by omega), if_neg (show ¬ r < 54 by omega), if_pos k5]; congr 1; omega
              by_cases k6 : r < 66
              · rw [d7, if_neg (by omega), d6, if_pos ⟨by omega, by omega⟩, if_neg (show ¬ r < 6 by omega), if_neg (show ¬ r < 12 by omega), if_neg (show ¬ r < 18 by omega), if_neg (show ¬ r < 54 by omega), if_neg (show ¬ r < 60 by omega), if_pos k6]; congr 1; omega
              by_cases k7 : r < 72
              · rw [d7, if_pos ⟨by omega, by omega⟩, if_neg (show ¬ r < 6 by omega), if_neg (show ¬ r < 12 by omega), if_neg (show ¬ r < 18 by omega), if_neg (show ¬ r < 54 by omega), if_neg (show ¬ r < 60 by omega), if_neg (show ¬ r < 66 by omega), if_pos k7]; congr 1; omega
              omega
            rw [← q]
            simp [u2, u1, upd, show r ≠ 72 from r2, show r ≠ 73 from r3, show r ≠ 74 from r4]
end
section
/-! pure part: the check puts a kept country back -/
theorem RM_lv {n nL : Nat} {mt mt' : St} {c : Ct} (h : RM n nL mt c) (hl : ∀ i, i < 75 → lvM mt' i = lvM mt i) (h11 : mt' 0 11 = mt 0 11) : RM n nL mt' c := by
  obtain ⟨g1, g2, g3, g4, g5, g6, g7, g8⟩ := h
  have hn := g1.1
  have hL := g1.2.1
  have k2 : ∀ i, i < 6 → mt' 2 i = mt 2 i := fun i hi => by have e := hl i (by omega); simpa [lvM, hi] using e
  have k3 : ∀ i, i < 6 → mt' 3 i = mt 3 i := fun i hi => by have e := hl (6 + i) (by omega); simpa [lvM, show ¬ 6 + i < 6 by omega, show 6 + i < 12 by omega, show 6 + i - 6 = i by omega] using e
  have k4 : ∀ i, i < 6 → mt' 4 i = mt 4 i := fun i hi => by have e := hl (12 + i) (by omega); simpa [lvM, show ¬ 12 + i < 6 by omega, show ¬ 12 + i < 12 by omega, show 12 + i < 18 by omega, show 12 + i - 12 = i by omega] using e
  have k5 : ∀ i, i < 36 → mt' 5 i = mt 5 i := fun i hi => by have e := hl (18 + i) (by omega); simpa [lvM, show ¬ 18 + i < 6 by omega, show ¬ 18 + i < 12 by omega, show ¬ 18 + i < 18 by omega, show 18 + i < 54 by omega, show 18 + i - 18 = i by omega] using e
  have k6 : ∀ i, i < 6 → mt' 6 i = mt 6 i := fun i hi => by have e := hl (54 + i) (by omega); simpa [lvM, show ¬ 54 + i < 6 by omega, show ¬ 54 + i < 12 by omega, show ¬ 54 + i < 18 by omega, show ¬ 54 + i < 54 by omega, show 54 + i < 60 by omega, show 54 + i - 54 = i by omega] using e
  have k7 : ∀ i, i < 6 → mt' 7 i = mt 7 i := fun i hi => by have e := hl (60 + i) (by omega); simpa [lvM, show ¬ 60 + i < 6 by omega, show ¬ 60 + i < 12 by omega, show ¬ 60 + i < 18 by omega, show ¬ 60 + i < 54 by omega, show ¬ 60 + i < 60 by omega, show 60 + i < 66 by omega, show 60 + i - 60 = i by omega] using e
  have k8 : ∀ i, i < 6 → mt' 8 i = mt 8 i := fun i hi => by have e := hl (66 + i) (by omega); simpa [lvM, show ¬ 66 + i < 6 by omega, show ¬ 66 + i < 12 by omega, show ¬ 66 + i < 18 by omega, show ¬ 66 + i < 54 by omega, show ¬ 66 + i < 60 by omega, show ¬ 66 + i < 66 by omega, show 66 + i < 72 by omega, show 66 + i - 66 = i by omega] using e
  have z8 : mt' 0 8 = mt 0 8 := hl 72 (by decide)
  have z9 : mt' 0 9 = mt 0 9 := hl 73 (by decide)
  have z10 : mt' 0 10 = mt 0 10 := hl 74 (by decide)
  refine ⟨g1, g2, z8.trans g3, z9.trans g4, z10.trans g5, fun p hp => ?_, fun p q a b => ?_, fun l hl => ?_⟩
  · rw [k2 p (by omega), k3 p (by omega), k4 p (by omega), h11]
    exact g6 p hp
  · rw [k5 _ (by omega), k5 _ (by omega)]
    exact g7 p q a b
  · rw [k6 l (by omega), k7 l (by omega), k8 l (by omega)]
    exact g8 l hl
theorem t_puts {w : Nat} {mt : St} {K : St → Prop} (hw : w < 11) (hk : ∀ s : St, (∀ i, i < 75 → lvM s i = mt 13 (75 * w + i)) → (∀ j, j ≠ 0 → (j < 2 ∨ 8 < j) → s j = mt j) → (∀ a, a ≠ 8 → a ≠ 9 → a ≠ 10 → a ≠ 21 → a ≠ 22 → s 0 a = mt 0 a) → K s) : w_X9_passesAll (nI w) 0 mt K := by
  unfold w_X9_passesAll
  refine ⟨Or.inl rfl, ?_⟩
  rw [c75 w hw]
  refine t_passesR (cur := 75 * w) (by decide) (by decide) (by rw [u2_ne (Or.inr (by decide)), u2_same]) (by rw [u2_same]) (by omega) fun s1 a1 b1 c1 d1 => ?_
  refine t_passesR (cur := 75 * w + 6) (by decide) (by decide) (a1) (by rw [c1 21 (by decide), u2_same]) (by omega) fun s2 a2 b2 c2 d2 => ?_
  refine t_passesR (cur := 75 * w + 12) (by decide) (by decide) (a2) (by rw [c2 21 (by decide), c1 21 (by decide), u2_same]) (by omega) fun s3 a3 b3 c3 d3 => ?_
  refine t_passesR (cur := 75 * w + 18) (by decide) (by decide) (a3) (by rw [c3 21 (by decide), c2 21 (by decide), c1 21 (by decide), u2_same]) (by omega) fun s4 a4 b4 c4 d4 => ?_
  refine t_passesR (cur := 75 * w + 54) (by decide) (by decide) (a4) (by rw [c4 21 (by decide), c3 21 (by decide), c2 21 (by decide), c1 21 (by decide), u2_same]) (by omega) fun s5 a5 b5 c5 d5 => ?_
  refine t_passesR (cur := 75 * w + 60) (by decide) (by decide) (a5) (by rw [c5 21 (by decide), c4 21 (by decide), c3 21 (by decide), c2 21 (by decide), c1 21 (by decide), u2_same]) (by omega) fun s6 a6 b6 c6 d6 => ?_
  refine t_passesR (cur := 75 * w + 66) (by decide) (by decide) (a6) (by rw [c6 21 (by decide), c5 21 (by decide), c4 21 (by decide), c3 21 (by decide), c2 21 (by decide), c1 21 (by decide), u2_same]) (by omega) fun s7 a7 b7 c7 d7 => ?_
  have f7 : s7 0 21 = 0 := by rw [c7 21 (by decide), c6 21 (by decide), c5 21 (by decide), c4 21 (by decide), c3 21 (by decide), c2 21 (by decide), c1 21 (by decide), u2_same]
  have base0 : ∀ a, a ≠ 21 → a ≠ 22 → s7 0 a = mt 0 a := fun a h1 h2 => by rw [c7 a h2, c6 a h2, c5 a h2, c4 a h2, c3 a h2, c2 a h2, c1 a h2, u2_ne (Or.inr h1), u2_ne (Or.inr h2)]
  have baseJ : ∀ j, j ≠ 0 → (j < 2 ∨ 8 < j) → s7 j = mt j := fun j h1 h2 => by rw [b7 j h1 (by omega), b6 j h1 (by omega), b5 j h1 (by omega), b4 j h1 (by omega), b3 j h1 (by omega), b2 j h1 (by omega), b1 j h1 (by omega), u2_off h1, u2_off h1]
  have e13 : s7 13 = mt 13 := baseJ 13 (by decide) (by decide)
  have r1 : ∀ i, i < 6 → s7 2 i = mt 13 (75 * w + i) := fun i hi => by rw [b7 2 (by decide) (by decide), b6 2 (by decide) (by decide), b5 2 (by decide) (by decide), b4 2 (by decide) (by decide), b3 2 (by decide) (by decide), b2 2 (by decide) (by decide), d1, if_pos hi, u2_off (by decide), u2_off (by decide)]
  have r2 : ∀ i, i < 6 → s7 3 i = mt 13 (75 * w + 6 + i) := fun i hi => by rw [b7 3 (by decide) (by decide), b6 3 (by decide) (by decide), b5 3 (by decide) (by decide), b4 3 (by decide) (by decide), b3 3 (by decide) (by decide), d2, if_pos hi, b1 13 (by decide) (by decide), u2_off (by decide), u2_off (by decide)]
  have r3 : ∀ i, i < 6 → s7 4 i = mt 13 (75 * w + 12 + i) := fun i hi => by rw [b7 4 (by decide) (by decide), b6 4 (by decide) (by decide), b5 4 (by decide) (by decide), b4 4 (by decide) (by decide), d3, if_pos hi, b2 13 (by decide) (by decide), b1 13 (by decide) (by decide), u2_off (by decide), u2_off (by decide)]
  have r4 : ∀ i, i < 36 → s7 5 i = mt 13 (75 * w + 18 + i) := fun i hi => by rw [b7 5 (by decide) (by decide), b6 5 (by decide) (by decide), b5 5 (by decide) (by decide), d4, if_pos hi, b3 13 (by decide) (by decide), b2 13 (by decide) (by decide), b1 13 (by decide) (by decide), u2_off (by decide), u2_off (by decide)]
  have r5 : ∀ i, i < 6 → s7 6 i = mt 13 (75 * w + 54 + i) := fun i hi => by rw [b7 6 (by decide) (by decide), b6 6 (by decide) (by decide), d5, if_pos hi, b4 13 (by decide) (by decide), b3 13 (by decide) (by decide), b2 13 (by decide) (by decide), b1 13 (by decide) (by decide), u2_off (by decide), u2_off (by decide)]
  have r6 : ∀ i, i < 6 → s7 7 i = mt 13 (75 * w + 60 + i) := fun i hi => by rw [b7 7 (by decide) (by decide), d6, if_pos hi, b5 13 (by decide) (by decide), b4 13 (by decide) (by decide), b3 13 (by decide) (by decide), b2 13 (by decide) (by decide), b1 13 (by decide) (by decide), u2_off (by decide), u2_off (by decide)]
  have r7 : ∀ i, i < 6 → s7 8 i = mt 13 (75 * w + 66 + i) := fun i hi => by rw [d7, if_pos hi, b6 13 (by decide) (by decide), b5 13 (by decide) (by decide), b4 13 (by decide) (by decide), b3 13 (by decide) (by decide), b2 13 (by decide) (by decide), b1 13 (by decide) (by decide), u2_off (by decide), u2_off (by decide)]
  refine t_oneR (cur := 75 * w + 72) a7 f7 (by omega) ?_
  refine t_oneR (cur := 75 * w + 73) (by rw [u2_ne (Or.inr (by decide)), u2_same]) (by rw [u2_ne (Or.inr (by decide)), u2_ne (Or.inr (by decide))]; exact f7) (by omega) ?_
  refine t_oneR (cur := 75 * w + 74) (by rw [u2_ne (Or.inr (by decide)), u2_same]) (by rw [u2_ne (Or.inr (by decide)), u2_ne (Or.inr (by decide)), u2_ne (Or.inr (by decide)), u2_ne (Or.inr (by decide))]; exact f7) (by omega) ?_
  refine hk _ (fun i hi => ?_) (fun j h1 h2 => ?_) (fun a q8 q9 q10 h1 h2 => ?_)
  · unfold lvM
    simp only [u2_off (show (2 : Nat) ≠ 0 by decide), u2_off (show (3 : Nat) ≠ 0 by decide), u2_off (show (4 : Nat) ≠ 0 by decide), u2_off (show (5 : Nat) ≠ 0 by decide), u2_off (show (6 : Nat) ≠ 0 by decide), u2_off (show (7 : Nat) ≠ 0 by decide), u2_off (show (8 : Nat) ≠ 0 by decide), u2_off (show (13 : Nat) ≠ 0 by decide), e13]
    by_cases k1 : i < 6
    · rw [if_pos k1, r1 _ (by omega)]
    rw [if_neg k1]
    by_cases k2 : i < 12
    · rw [if_pos k2, r2 _ (by omega)]; congr 1; omega
    rw [if_neg k2]
    by_cases k3 : i < 18
    · rw [if_pos k3, r3 _ (by omega)]; congr 1; omega
    rw [if_neg k3]
    by_cases k4 : i < 54
    · rw [if_pos k4, r4 _ (by omega)]; congr 1; omega
    rw [if_neg k4]
    by_cases k5 : i < 60
    · rw [if_pos k5, r5 _ (by omega)]; congr 1; omega
    rw [if_neg k5]
    by_cases k6 : i < 66
    · rw [if_pos k6, r6 _ (by omega)]; congr 1; omega
    rw [if_neg k6]
    by_cases k7 : i < 72
    · rw [if_pos k7, r7 _ (by omega)]; congr 1; omega
    rw [if_neg k7]
    by_cases k8 : i = 72
    · subst k8; rw [if_pos rfl]; simp [u2, u1, upd]
    rw [if_neg k8]
    by_cases k9 : i = 73
    · subst k9; rw [if_pos rfl]; simp [u2, u1, upd]
    rw [if_neg k9]
    have : i = 74 := by omega
    subst this
    simp [u2, u1, upd]
  · simp only [u2_off h1]; exact baseJ j h1 h2
  · rw [← base0 a h1 h2]; simp [u2, u1, upd, q8, q9, q10, h2]
end
section
/-! pure part: the check thinks, and forgets -/
theorem t_thinks {mt : St} {K : St → Prop} (hk : ∀ s : St, (∀ j, j ≠ 0 → j ≠ 13 → s j = mt j) → (∀ a, a ≠ 21 → a ≠ 22 → s 0 a = mt 0 a) → (∀ i, i < 75 → s 13 (150 + i) = lvM mt i) → (∀ a, (a < 150 ∨ 225 ≤ a) → s 13 a = mt 13 a) → K s) : w_X9_thinks mt K := by
  unfold w_X9_thinks
  refine t_saves (w := 2) (by decide) fun s h1 h2 h3 => hk s h1 h2 (fun i hi => ?_) (fun a ha => ?_)
  · rw [h3, if_pos ⟨by omega, by omega⟩, show 150 + i - 75 * 2 = i by omega]
  · rw [h3, if_neg (by omega)]
theorem t_forgets {mt : St} {K : St → Prop} (hk : ∀ s : St, (∀ i, i < 75 → lvM s i = mt 13 (150 + i)) → (∀ j, j ≠ 0 → (j < 2 ∨ 8 < j) → s j = mt j) → (∀ a, a ≠ 8 → a ≠ 9 → a ≠ 10 → a ≠ 21 → a ≠ 22 → s 0 a = mt 0 a) → K s) : w_X9_forgets mt K := by
  unfold w_X9_forgets
  exact t_puts (w := 2) (by decide) fun s h1 h2 h3 => hk s h1 h2 h3
end
