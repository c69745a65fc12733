section
theorem lw_t1 {w : Cond} {i : Nat} (h : tables_1_1[i]? = some w) : w ∈ tables_1 := (List.mem_append_left _ (List.mem_of_getElem? h))
theorem lw_t2 {w : Cond} {i : Nat} (h : tables_1_2[i]? = some w) : w ∈ tables_1 := (List.mem_append_right _ (List.mem_append_left _ (List.mem_of_getElem? h)))
theorem lw_t3 {w : Cond} {i : Nat} (h : tables_1_3[i]? = some w) : w ∈ tables_1 := (List.mem_append_right _ (List.mem_append_right _ (List.mem_append_left _ (List.mem_of_getElem? h))))
theorem lw_t4 {w : Cond} {i : Nat} (h : tables_1_4[i]? = some w) : w ∈ tables_1 := (List.mem_append_right _ (List.mem_append_right _ (List.mem_append_right _ (List.mem_append_left _ (List.mem_of_getElem? h)))))
theorem lw_t5 {w : Cond} {i : Nat} (h : tables_1_5[i]? = some w) : w ∈ tables_1 := (List.mem_append_right _ (List.mem_append_right _ (List.mem_append_right _ (List.mem_append_right _ (List.mem_append_left _ (List.mem_of_getElem? h))))))
theorem lw_t6 {w : Cond} {i : Nat} (h : tables_1_6[i]? = some w) : w ∈ tables_1 := (List.mem_append_right _ (List.mem_append_right _ (List.mem_append_right _ (List.mem_append_right _ (List.mem_append_right _ (List.mem_append_left _ (List.mem_of_getElem? h)))))))
theorem lw_t7 {w : Cond} {i : Nat} (h : tables_1_7[i]? = some w) : w ∈ tables_1 := (List.mem_append_right _ (List.mem_append_right _ (List.mem_append_right _ (List.mem_append_right _ (List.mem_append_right _ (List.mem_append_right _ (List.mem_of_getElem? h)))))))
/-- a private method of a class that the tables say can be made, by its rows of tables_1 -/
def lw_okq (q : MethodName × Nat) : Prop := (q.1.cls ≠ "java/lang/invoke/MethodHandle" ∧ q.1.cls ≠ "java/lang/invoke/VarHandle") ∧ Cond.instantiable q.1.cls q.2 ∈ tables_1 ∧ Cond.privateMethod q.1 ∈ tables_1 ∧ Cond.instanceMethod q.1 ∈ tables_1
theorem lw_p0 : lw_okq (⟨"OnlyTwoEnemies", "refused", "(I)I"⟩, 10) := ⟨⟨by decide +kernel, by decide +kernel⟩, lw_t1 (i := 16) rfl, lw_t1 (i := 183) rfl, lw_t1 (i := 184) rfl⟩
theorem lw_p1 : lw_okq (⟨"OnlyTwoEnemies$Telling", "brokenPlace", "()I"⟩, 2) := ⟨⟨by decide +kernel, by decide +kernel⟩, lw_t1 (i := 84) rfl, lw_t1 (i := 223) rfl, lw_t1 (i := 224) rfl⟩
theorem lw_p2 : lw_okq (⟨"OnlyTwoEnemies$Telling", "sign", "(I)I"⟩, 2) := ⟨⟨by decide +kernel, by decide +kernel⟩, lw_t1 (i := 84) rfl, lw_t1 (i := 227) rfl, lw_t1 (i := 228) rfl⟩
theorem lw_p3 : lw_okq (⟨"OnlyTwoEnemies$Telling", "isDigit", "(I)Z"⟩, 2) := ⟨⟨by decide +kernel, by decide +kernel⟩, lw_t1 (i := 84) rfl, lw_t1 (i := 235) rfl, lw_t1 (i := 236) rfl⟩
theorem lw_p4 : lw_okq (⟨"OnlyTwoEnemies$Telling", "isRight", "(ILOnlyTwoEnemies$Country;)Z"⟩, 2) := ⟨⟨by decide +kernel, by decide +kernel⟩, lw_t1 (i := 84) rfl, lw_t1 (i := 239) rfl, lw_t2 (i := 0) rfl⟩
theorem lw_p5 : lw_okq (⟨"OnlyTwoEnemies$Telling", "digit", "(I)I"⟩, 2) := ⟨⟨by decide +kernel, by decide +kernel⟩, lw_t1 (i := 84) rfl, lw_t2 (i := 3) rfl, lw_t2 (i := 4) rfl⟩
theorem lw_p6 : lw_okq (⟨"OnlyTwoEnemies$Telling", "twoDigits", "(I)I"⟩, 2) := ⟨⟨by decide +kernel, by decide +kernel⟩, lw_t1 (i := 84) rfl, lw_t2 (i := 7) rfl, lw_t2 (i := 8) rfl⟩
theorem lw_p7 : lw_okq (⟨"OnlyTwoEnemies$Telling", "comes", "(ILOnlyTwoEnemies$Country;)V"⟩, 2) := ⟨⟨by decide +kernel, by decide +kernel⟩, lw_t1 (i := 84) rfl, lw_t2 (i := 39) rfl, lw_t2 (i := 40) rfl⟩
theorem lw_p8 : lw_okq (⟨"OnlyTwoEnemies$Country", "change", "(II)I"⟩, 11) := ⟨⟨by decide +kernel, by decide +kernel⟩, lw_t1 (i := 24) rfl, lw_t2 (i := 83) rfl, lw_t2 (i := 84) rfl⟩
theorem lw_p9 : lw_okq (⟨"OnlyTwoEnemies", "keeperRefusal", "(I)I"⟩, 10) := ⟨⟨by decide +kernel, by decide +kernel⟩, lw_t1 (i := 16) rfl, lw_t2 (i := 142) rfl, lw_t2 (i := 143) rfl⟩
theorem lw_p10 : lw_okq (⟨"OnlyTwoEnemies", "letterRefusal", "(I)I"⟩, 10) := ⟨⟨by decide +kernel, by decide +kernel⟩, lw_t1 (i := 16) rfl, lw_t2 (i := 175) rfl, lw_t2 (i := 176) rfl⟩
theorem lw_p11 : lw_okq (⟨"OnlyTwoEnemies", "twoRefusal", "(II)I"⟩, 10) := ⟨⟨by decide +kernel, by decide +kernel⟩, lw_t1 (i := 16) rfl, lw_t2 (i := 194) rfl, lw_t2 (i := 195) rfl⟩
theorem lw_p12 : lw_okq (⟨"OnlyTwoEnemies$Past", "country", "(I)LOnlyTwoEnemies$Country;"⟩, 3) := ⟨⟨by decide +kernel, by decide +kernel⟩, lw_t1 (i := 65) rfl, lw_t3 (i := 17) rfl, lw_t3 (i := 18) rfl⟩
theorem lw_p13 : lw_okq (⟨"OnlyTwoEnemies$Look", "hateOrSelf", "(II)I"⟩, 2) := ⟨⟨by decide +kernel, by decide +kernel⟩, lw_t1 (i := 110) rfl, lw_t3 (i := 84) rfl, lw_t3 (i := 85) rfl⟩
theorem lw_p14 : lw_okq (⟨"OnlyTwoEnemies$Mind", "hateMadeUp", "(II)I"⟩, 2) := ⟨⟨by decide +kernel, by decide +kernel⟩, lw_t1 (i := 123) rfl, lw_t3 (i := 195) rfl, lw_t3 (i := 196) rfl⟩
theorem lw_p15 : lw_okq (⟨"OnlyTwoEnemies$Mind", "gain", "(IIIII)I"⟩, 2) := ⟨⟨by decide +kernel, by decide +kernel⟩, lw_t1 (i := 123) rfl, lw_t3 (i := 199) rfl, lw_t3 (i := 200) rfl⟩
def lw_privs_1 : List (MethodName × Nat) := [(⟨"OnlyTwoEnemies", "refused", "(I)I"⟩, 10), (⟨"OnlyTwoEnemies$Telling", "brokenPlace", "()I"⟩, 2), (⟨"OnlyTwoEnemies$Telling", "sign", "(I)I"⟩, 2), (⟨"OnlyTwoEnemies$Telling", "isDigit", "(I)Z"⟩, 2), (⟨"OnlyTwoEnemies$Telling", "isRight", "(ILOnlyTwoEnemies$Country;)Z"⟩, 2), (⟨"OnlyTwoEnemies$Telling", "digit", "(I)I"⟩, 2), (⟨"OnlyTwoEnemies$Telling", "twoDigits", "(I)I"⟩, 2), (⟨"OnlyTwoEnemies$Telling", "comes", "(ILOnlyTwoEnemies$Country;)V"⟩, 2), (⟨"OnlyTwoEnemies$Country", "change", "(II)I"⟩, 11), (⟨"OnlyTwoEnemies", "keeperRefusal", "(I)I"⟩, 10), (⟨"OnlyTwoEnemies", "letterRefusal", "(I)I"⟩, 10), (⟨"OnlyTwoEnemies", "twoRefusal", "(II)I"⟩, 10), (⟨"OnlyTwoEnemies$Past", "country", "(I)LOnlyTwoEnemies$Country;"⟩, 3), (⟨"OnlyTwoEnemies$Look", "hateOrSelf", "(II)I"⟩, 2), (⟨"OnlyTwoEnemies$Mind", "hateMadeUp", "(II)I"⟩, 2), (⟨"OnlyTwoEnemies$Mind", "gain", "(IIIII)I"⟩, 2)]
theorem lw_r1 : ∀ q ∈ lw_privs_1, lw_okq q := List.forall_mem_cons.mpr ⟨lw_p0, List.forall_mem_cons.mpr ⟨lw_p1, List.forall_mem_cons.mpr ⟨lw_p2, List.forall_mem_cons.mpr ⟨lw_p3, List.forall_mem_cons.mpr ⟨lw_p4, List.forall_mem_cons.mpr ⟨lw_p5, List.forall_mem_cons.mpr ⟨lw_p6, List.forall_mem_cons.mpr ⟨lw_p7, List.forall_mem_cons.mpr ⟨lw_p8, List.forall_mem_cons.mpr ⟨lw_p9, List.forall_mem_cons.mpr ⟨lw_p10, List.forall_mem_cons.mpr ⟨lw_p11, List.forall_mem_cons.mpr ⟨lw_p12, List.forall_mem_cons.mpr ⟨lw_p13, List.forall_mem_cons.mpr ⟨lw_p14, List.forall_mem_cons.mpr ⟨lw_p15, fun _ h => absurd h List.not_mem_nil⟩⟩⟩⟩⟩⟩⟩⟩⟩⟩⟩⟩⟩⟩⟩⟩
theorem lw_p16 : lw_okq (⟨"OnlyTwoEnemies$Mind", "openAsAllIs", "(I)I"⟩, 2) := ⟨⟨by decide +kernel, by decide +kernel⟩, lw_t1 (i := 123) rfl, lw_t3 (i := 212) rfl, lw_t3 (i := 213) rfl⟩
theorem lw_p17 : lw_okq (⟨"OnlyTwoEnemies$Mind", "openKept", "(II)I"⟩, 2) := ⟨⟨by decide +kernel, by decide +kernel⟩, lw_t1 (i := 123) rfl, lw_t4 (i := 9) rfl, lw_t4 (i := 10) rfl⟩
theorem lw_p18 : lw_okq (⟨"OnlyTwoEnemies$Mind", "opensAsTold", "(LOnlyTwoEnemies$Row;)Z"⟩, 2) := ⟨⟨by decide +kernel, by decide +kernel⟩, lw_t1 (i := 123) rfl, lw_t4 (i := 37) rfl, lw_t4 (i := 38) rfl⟩
theorem lw_p19 : lw_okq (⟨"OnlyTwoEnemies$Mind", "hatesAsTold", "(IILOnlyTwoEnemies$Row;)Z"⟩, 2) := ⟨⟨by decide +kernel, by decide +kernel⟩, lw_t1 (i := 123) rfl, lw_t4 (i := 56) rfl, lw_t4 (i := 57) rfl⟩
theorem lw_p20 : lw_okq (⟨"OnlyTwoEnemies$Look", "mostTwosWith", "(III)I"⟩, 2) := ⟨⟨by decide +kernel, by decide +kernel⟩, lw_t1 (i := 110) rfl, lw_t4 (i := 134) rfl, lw_t4 (i := 135) rfl⟩
theorem lw_p21 : lw_okq (⟨"OnlyTwoEnemies$Look", "hatesTogether", "(I)I"⟩, 2) := ⟨⟨by decide +kernel, by decide +kernel⟩, lw_t1 (i := 110) rfl, lw_t4 (i := 187) rfl, lw_t4 (i := 188) rfl⟩
theorem lw_p22 : lw_okq (⟨"OnlyTwoEnemiesModel", "no", "(I)I"⟩, 31) := ⟨⟨by decide +kernel, by decide +kernel⟩, lw_t4 (i := 212) rfl, lw_t5 (i := 79) rfl, lw_t5 (i := 80) rfl⟩
theorem lw_p23 : lw_okq (⟨"OnlyTwoEnemiesModel", "statement", "()Z"⟩, 31) := ⟨⟨by decide +kernel, by decide +kernel⟩, lw_t4 (i := 212) rfl, lw_t5 (i := 87) rfl, lw_t5 (i := 88) rfl⟩
theorem lw_p24 : lw_okq (⟨"OnlyTwoEnemiesModel", "next", "()I"⟩, 31) := ⟨⟨by decide +kernel, by decide +kernel⟩, lw_t4 (i := 212) rfl, lw_t5 (i := 91) rfl, lw_t5 (i := 92) rfl⟩
theorem lw_p25 : lw_okq (⟨"OnlyTwoEnemiesModel", "readsAll", "(II)Z"⟩, 31) := ⟨⟨by decide +kernel, by decide +kernel⟩, lw_t4 (i := 212) rfl, lw_t5 (i := 95) rfl, lw_t5 (i := 96) rfl⟩
theorem lw_p26 : lw_okq (⟨"OnlyTwoEnemiesModel", "readsDigits", "(II)Z"⟩, 31) := ⟨⟨by decide +kernel, by decide +kernel⟩, lw_t4 (i := 212) rfl, lw_t5 (i := 99) rfl, lw_t5 (i := 100) rfl⟩
theorem lw_p27 : lw_okq (⟨"OnlyTwoEnemiesModel", "passesAll", "(IZ)V"⟩, 31) := ⟨⟨by decide +kernel, by decide +kernel⟩, lw_t4 (i := 212) rfl, lw_t5 (i := 106) rfl, lw_t5 (i := 107) rfl⟩
theorem lw_p28 : lw_okq (⟨"OnlyTwoEnemiesModel", "passes", "([I)V"⟩, 31) := ⟨⟨by decide +kernel, by decide +kernel⟩, lw_t4 (i := 212) rfl, lw_t5 (i := 110) rfl, lw_t5 (i := 111) rfl⟩
theorem lw_p29 : lw_okq (⟨"OnlyTwoEnemiesModel", "passOne", "(I)I"⟩, 31) := ⟨⟨by decide +kernel, by decide +kernel⟩, lw_t4 (i := 212) rfl, lw_t5 (i := 114) rfl, lw_t5 (i := 115) rfl⟩
theorem lw_p30 : lw_okq (⟨"OnlyTwoEnemiesModel", "comes", "(I)Z"⟩, 31) := ⟨⟨by decide +kernel, by decide +kernel⟩, lw_t4 (i := 212) rfl, lw_t5 (i := 118) rfl, lw_t5 (i := 119) rfl⟩
theorem lw_p31 : lw_okq (⟨"OnlyTwoEnemiesModel", "comesKeeper", "(III)Z"⟩, 31) := ⟨⟨by decide +kernel, by decide +kernel⟩, lw_t4 (i := 212) rfl, lw_t5 (i := 122) rfl, lw_t5 (i := 123) rfl⟩
def lw_privs_2 : List (MethodName × Nat) := [(⟨"OnlyTwoEnemies$Mind", "openAsAllIs", "(I)I"⟩, 2), (⟨"OnlyTwoEnemies$Mind", "openKept", "(II)I"⟩, 2), (⟨"OnlyTwoEnemies$Mind", "opensAsTold", "(LOnlyTwoEnemies$Row;)Z"⟩, 2), (⟨"OnlyTwoEnemies$Mind", "hatesAsTold", "(IILOnlyTwoEnemies$Row;)Z"⟩, 2), (⟨"OnlyTwoEnemies$Look", "mostTwosWith", "(III)I"⟩, 2), (⟨"OnlyTwoEnemies$Look", "hatesTogether", "(I)I"⟩, 2), (⟨"OnlyTwoEnemiesModel", "no", "(I)I"⟩, 31), (⟨"OnlyTwoEnemiesModel", "statement", "()Z"⟩, 31), (⟨"OnlyTwoEnemiesModel", "next", "()I"⟩, 31), (⟨"OnlyTwoEnemiesModel", "readsAll", "(II)Z"⟩, 31), (⟨"OnlyTwoEnemiesModel", "readsDigits", "(II)Z"⟩, 31), (⟨"OnlyTwoEnemiesModel", "passesAll", "(IZ)V"⟩, 31), (⟨"OnlyTwoEnemiesModel", "passes", "([I)V"⟩, 31), (⟨"OnlyTwoEnemiesModel", "passOne", "(I)I"⟩, 31), (⟨"OnlyTwoEnemiesModel", "comes", "(I)Z"⟩, 31), (⟨"OnlyTwoEnemiesModel", "comesKeeper", "(III)Z"⟩, 31)]
theorem lw_r2 : ∀ q ∈ lw_privs_2, lw_okq q := List.forall_mem_cons.mpr ⟨lw_p16, List.forall_mem_cons.mpr ⟨lw_p17, List.forall_mem_cons.mpr ⟨lw_p18, List.forall_mem_cons.mpr ⟨lw_p19, List.forall_mem_cons.mpr ⟨lw_p20, List.forall_mem_cons.mpr ⟨lw_p21, List.forall_mem_cons.mpr ⟨lw_p22, List.forall_mem_cons.mpr ⟨lw_p23, List.forall_mem_cons.mpr ⟨lw_p24, List.forall_mem_cons.mpr ⟨lw_p25, List.forall_mem_cons.mpr ⟨lw_p26, List.forall_mem_cons.mpr ⟨lw_p27, List.forall_mem_cons.mpr ⟨lw_p28, List.forall_mem_cons.mpr ⟨lw_p29, List.forall_mem_cons.mpr ⟨lw_p30, List.forall_mem_cons.mpr ⟨lw_p31, fun _ h => absurd h List.not_mem_nil⟩⟩⟩⟩⟩⟩⟩⟩⟩⟩⟩⟩⟩⟩⟩⟩
theorem lw_p32 : lw_okq (⟨"OnlyTwoEnemiesModel", "addsKeeper", "(III)V"⟩, 31) := ⟨⟨by decide +kernel, by decide +kernel⟩, lw_t4 (i := 212) rfl, lw_t5 (i := 129) rfl, lw_t5 (i := 130) rfl⟩
theorem lw_p33 : lw_okq (⟨"OnlyTwoEnemiesModel", "sets", "(III)V"⟩, 31) := ⟨⟨by decide +kernel, by decide +kernel⟩, lw_t4 (i := 212) rfl, lw_t5 (i := 133) rfl, lw_t5 (i := 134) rfl⟩
theorem lw_p34 : lw_okq (⟨"OnlyTwoEnemiesModel", "areTwo", "(II)Z"⟩, 31) := ⟨⟨by decide +kernel, by decide +kernel⟩, lw_t4 (i := 212) rfl, lw_t5 (i := 137) rfl, lw_t5 (i := 138) rfl⟩
theorem lw_p35 : lw_okq (⟨"OnlyTwoEnemiesModel", "isKeeper", "(I)Z"⟩, 31) := ⟨⟨by decide +kernel, by decide +kernel⟩, lw_t4 (i := 212) rfl, lw_t5 (i := 141) rfl, lw_t5 (i := 142) rfl⟩
theorem lw_p36 : lw_okq (⟨"OnlyTwoEnemiesModel", "comesLetter", "(II)Z"⟩, 31) := ⟨⟨by decide +kernel, by decide +kernel⟩, lw_t4 (i := 212) rfl, lw_t5 (i := 145) rfl, lw_t5 (i := 146) rfl⟩
theorem lw_p37 : lw_okq (⟨"OnlyTwoEnemiesModel", "addsLetter", "(II)V"⟩, 31) := ⟨⟨by decide +kernel, by decide +kernel⟩, lw_t4 (i := 212) rfl, lw_t5 (i := 149) rfl, lw_t5 (i := 150) rfl⟩
theorem lw_p38 : lw_okq (⟨"OnlyTwoEnemiesModel", "isLetter", "(I)Z"⟩, 31) := ⟨⟨by decide +kernel, by decide +kernel⟩, lw_t4 (i := 212) rfl, lw_t5 (i := 153) rfl, lw_t5 (i := 154) rfl⟩
theorem lw_p39 : lw_okq (⟨"OnlyTwoEnemiesModel", "comesWeeks", "(I)Z"⟩, 31) := ⟨⟨by decide +kernel, by decide +kernel⟩, lw_t4 (i := 212) rfl, lw_t5 (i := 157) rfl, lw_t5 (i := 158) rfl⟩
theorem lw_p40 : lw_okq (⟨"OnlyTwoEnemiesModel", "goesOn", "(I)V"⟩, 31) := ⟨⟨by decide +kernel, by decide +kernel⟩, lw_t4 (i := 212) rfl, lw_t5 (i := 161) rfl, lw_t5 (i := 162) rfl⟩
theorem lw_p41 : lw_okq (⟨"OnlyTwoEnemiesModel", "goesWeek", "()V"⟩, 31) := ⟨⟨by decide +kernel, by decide +kernel⟩, lw_t4 (i := 212) rfl, lw_t5 (i := 165) rfl, lw_t5 (i := 166) rfl⟩
theorem lw_p42 : lw_okq (⟨"OnlyTwoEnemiesModel", "fadesTwo", "(II)V"⟩, 31) := ⟨⟨by decide +kernel, by decide +kernel⟩, lw_t4 (i := 212) rfl, lw_t5 (i := 169) rfl, lw_t5 (i := 170) rfl⟩
theorem lw_p43 : lw_okq (⟨"OnlyTwoEnemiesModel", "hateOf", "(II)I"⟩, 31) := ⟨⟨by decide +kernel, by decide +kernel⟩, lw_t4 (i := 212) rfl, lw_t5 (i := 176) rfl, lw_t5 (i := 177) rfl⟩
theorem lw_p44 : lw_okq (⟨"OnlyTwoEnemiesModel", "fadesOf", "(I)I"⟩, 31) := ⟨⟨by decide +kernel, by decide +kernel⟩, lw_t4 (i := 212) rfl, lw_t5 (i := 180) rfl, lw_t5 (i := 181) rfl⟩
theorem lw_p45 : lw_okq (⟨"OnlyTwoEnemiesModel", "stirsOf", "(I)I"⟩, 31) := ⟨⟨by decide +kernel, by decide +kernel⟩, lw_t4 (i := 212) rfl, lw_t5 (i := 187) rfl, lw_t5 (i := 188) rfl⟩
theorem lw_p46 : lw_okq (⟨"OnlyTwoEnemiesModel", "opensAt", "(II)I"⟩, 31) := ⟨⟨by decide +kernel, by decide +kernel⟩, lw_t4 (i := 212) rfl, lw_t5 (i := 191) rfl, lw_t5 (i := 192) rfl⟩
theorem lw_p47 : lw_okq (⟨"OnlyTwoEnemiesModel", "areThere", "(III)Z"⟩, 31) := ⟨⟨by decide +kernel, by decide +kernel⟩, lw_t4 (i := 212) rfl, lw_t5 (i := 195) rfl, lw_t5 (i := 196) rfl⟩
def lw_privs_3 : List (MethodName × Nat) := [(⟨"OnlyTwoEnemiesModel", "addsKeeper", "(III)V"⟩, 31), (⟨"OnlyTwoEnemiesModel", "sets", "(III)V"⟩, 31), (⟨"OnlyTwoEnemiesModel", "areTwo", "(II)Z"⟩, 31), (⟨"OnlyTwoEnemiesModel", "isKeeper", "(I)Z"⟩, 31), (⟨"OnlyTwoEnemiesModel", "comesLetter", "(II)Z"⟩, 31), (⟨"OnlyTwoEnemiesModel", "addsLetter", "(II)V"⟩, 31), (⟨"OnlyTwoEnemiesModel", "isLetter", "(I)Z"⟩, 31), (⟨"OnlyTwoEnemiesModel", "comesWeeks", "(I)Z"⟩, 31), (⟨"OnlyTwoEnemiesModel", "goesOn", "(I)V"⟩, 31), (⟨"OnlyTwoEnemiesModel", "goesWeek", "()V"⟩, 31), (⟨"OnlyTwoEnemiesModel", "fadesTwo", "(II)V"⟩, 31), (⟨"OnlyTwoEnemiesModel", "hateOf", "(II)I"⟩, 31), (⟨"OnlyTwoEnemiesModel", "fadesOf", "(I)I"⟩, 31), (⟨"OnlyTwoEnemiesModel", "stirsOf", "(I)I"⟩, 31), (⟨"OnlyTwoEnemiesModel", "opensAt", "(II)I"⟩, 31), (⟨"OnlyTwoEnemiesModel", "areThere", "(III)Z"⟩, 31)]
theorem lw_r3 : ∀ q ∈ lw_privs_3, lw_okq q := List.forall_mem_cons.mpr ⟨lw_p32, List.forall_mem_cons.mpr ⟨lw_p33, List.forall_mem_cons.mpr ⟨lw_p34, List.forall_mem_cons.mpr ⟨lw_p35, List.forall_mem_cons.mpr ⟨lw_p36, List.forall_mem_cons.mpr ⟨lw_p37, List.forall_mem_cons.mpr ⟨lw_p38, List.forall_mem_cons.mpr ⟨lw_p39, List.forall_mem_cons.mpr ⟨lw_p40, List.forall_mem_cons.mpr ⟨lw_p41, List.forall_mem_cons.mpr ⟨lw_p42, List.forall_mem_cons.mpr ⟨lw_p43, List.forall_mem_cons.mpr ⟨lw_p44, List.forall_mem_cons.mpr ⟨lw_p45, List.forall_mem_cons.mpr ⟨lw_p46, List.forall_mem_cons.mpr ⟨lw_p47, fun _ h => absurd h List.not_mem_nil⟩⟩⟩⟩⟩⟩⟩⟩⟩⟩⟩⟩⟩⟩⟩⟩
theorem lw_p48 : lw_okq (⟨"OnlyTwoEnemiesModel", "payOf", "(I)I"⟩, 31) := ⟨⟨by decide +kernel, by decide +kernel⟩, lw_t4 (i := 212) rfl, lw_t5 (i := 215) rfl, lw_t5 (i := 216) rfl⟩
theorem lw_p49 : lw_okq (⟨"OnlyTwoEnemiesModel", "keepsBack", "()V"⟩, 31) := ⟨⟨by decide +kernel, by decide +kernel⟩, lw_t4 (i := 212) rfl, lw_t5 (i := 239) rfl, lw_t6 (i := 0) rfl⟩
theorem lw_p50 : lw_okq (⟨"OnlyTwoEnemiesModel", "openOnes", "()I"⟩, 31) := ⟨⟨by decide +kernel, by decide +kernel⟩, lw_t4 (i := 212) rfl, lw_t6 (i := 15) rfl, lw_t6 (i := 16) rfl⟩
theorem lw_p51 : lw_okq (⟨"OnlyTwoEnemiesModel", "hateIn", "(III)I"⟩, 31) := ⟨⟨by decide +kernel, by decide +kernel⟩, lw_t4 (i := 212) rfl, lw_t6 (i := 29) rfl, lw_t6 (i := 30) rfl⟩
theorem lw_p52 : lw_okq (⟨"OnlyTwoEnemiesModel", "thinks", "()V"⟩, 31) := ⟨⟨by decide +kernel, by decide +kernel⟩, lw_t4 (i := 212) rfl, lw_t6 (i := 33) rfl, lw_t6 (i := 34) rfl⟩
theorem lw_p53 : lw_okq (⟨"OnlyTwoEnemiesModel", "forgets", "()V"⟩, 31) := ⟨⟨by decide +kernel, by decide +kernel⟩, lw_t4 (i := 212) rfl, lw_t6 (i := 37) rfl, lw_t6 (i := 38) rfl⟩
theorem lw_p54 : lw_okq (⟨"OnlyTwoEnemiesModel", "openIn", "(I)I"⟩, 31) := ⟨⟨by decide +kernel, by decide +kernel⟩, lw_t4 (i := 212) rfl, lw_t6 (i := 45) rfl, lw_t6 (i := 46) rfl⟩
theorem lw_p55 : lw_okq (⟨"OnlyTwoEnemiesModel", "allHate", "()I"⟩, 31) := ⟨⟨by decide +kernel, by decide +kernel⟩, lw_t4 (i := 212) rfl, lw_t6 (i := 49) rfl, lw_t6 (i := 50) rfl⟩
theorem lw_p56 : lw_okq (⟨"OnlyTwoEnemiesModel", "whenOf", "(I)I"⟩, 31) := ⟨⟨by decide +kernel, by decide +kernel⟩, lw_t4 (i := 212) rfl, lw_t6 (i := 57) rfl, lw_t6 (i := 58) rfl⟩
theorem lw_p57 : lw_okq (⟨"OnlyTwoEnemiesModel", "firstOne", "()I"⟩, 31) := ⟨⟨by decide +kernel, by decide +kernel⟩, lw_t4 (i := 212) rfl, lw_t6 (i := 69) rfl, lw_t6 (i := 70) rfl⟩
theorem lw_p58 : lw_okq (⟨"OnlyTwoEnemiesModel", "isOpenedBy", "(III)Z"⟩, 31) := ⟨⟨by decide +kernel, by decide +kernel⟩, lw_t4 (i := 212) rfl, lw_t6 (i := 77) rfl, lw_t6 (i := 78) rfl⟩
theorem lw_p59 : lw_okq (⟨"OnlyTwoEnemiesModel", "manyAt", "(III)I"⟩, 31) := ⟨⟨by decide +kernel, by decide +kernel⟩, lw_t4 (i := 212) rfl, lw_t6 (i := 85) rfl, lw_t6 (i := 86) rfl⟩
theorem lw_p60 : lw_okq (⟨"OnlyTwoEnemiesModel", "changes", "()V"⟩, 31) := ⟨⟨by decide +kernel, by decide +kernel⟩, lw_t4 (i := 212) rfl, lw_t6 (i := 93) rfl, lw_t6 (i := 94) rfl⟩
theorem lw_p61 : lw_okq (⟨"OnlyTwoEnemiesModel", "changesBack", "()V"⟩, 31) := ⟨⟨by decide +kernel, by decide +kernel⟩, lw_t4 (i := 212) rfl, lw_t6 (i := 97) rfl, lw_t6 (i := 98) rfl⟩
theorem lw_p62 : lw_okq (⟨"OnlyTwoEnemiesModel", "manyBy", "(II)I"⟩, 31) := ⟨⟨by decide +kernel, by decide +kernel⟩, lw_t4 (i := 212) rfl, lw_t6 (i := 105) rfl, lw_t6 (i := 106) rfl⟩
theorem lw_p63 : lw_okq (⟨"OnlyTwoEnemiesModel", "payOfAll", "(I)I"⟩, 31) := ⟨⟨by decide +kernel, by decide +kernel⟩, lw_t4 (i := 212) rfl, lw_t6 (i := 109) rfl, lw_t6 (i := 110) rfl⟩
def lw_privs_4 : List (MethodName × Nat) := [(⟨"OnlyTwoEnemiesModel", "payOf", "(I)I"⟩, 31), (⟨"OnlyTwoEnemiesModel", "keepsBack", "()V"⟩, 31), (⟨"OnlyTwoEnemiesModel", "openOnes", "()I"⟩, 31), (⟨"OnlyTwoEnemiesModel", "hateIn", "(III)I"⟩, 31), (⟨"OnlyTwoEnemiesModel", "thinks", "()V"⟩, 31), (⟨"OnlyTwoEnemiesModel", "forgets", "()V"⟩, 31), (⟨"OnlyTwoEnemiesModel", "openIn", "(I)I"⟩, 31), (⟨"OnlyTwoEnemiesModel", "allHate", "()I"⟩, 31), (⟨"OnlyTwoEnemiesModel", "whenOf", "(I)I"⟩, 31), (⟨"OnlyTwoEnemiesModel", "firstOne", "()I"⟩, 31), (⟨"OnlyTwoEnemiesModel", "isOpenedBy", "(III)Z"⟩, 31), (⟨"OnlyTwoEnemiesModel", "manyAt", "(III)I"⟩, 31), (⟨"OnlyTwoEnemiesModel", "changes", "()V"⟩, 31), (⟨"OnlyTwoEnemiesModel", "changesBack", "()V"⟩, 31), (⟨"OnlyTwoEnemiesModel", "manyBy", "(II)I"⟩, 31), (⟨"OnlyTwoEnemiesModel", "payOfAll", "(I)I"⟩, 31)]
theorem lw_r4 : ∀ q ∈ lw_privs_4, lw_okq q := List.forall_mem_cons.mpr ⟨lw_p48, List.forall_mem_cons.mpr ⟨lw_p49, List.forall_mem_cons.mpr ⟨lw_p50, List.forall_mem_cons.mpr ⟨lw_p51, List.forall_mem_cons.mpr ⟨lw_p52, List.forall_mem_cons.mpr ⟨lw_p53, List.forall_mem_cons.mpr ⟨lw_p54, List.forall_mem_cons.mpr ⟨lw_p55, List.forall_mem_cons.mpr ⟨lw_p56, List.forall_mem_cons.mpr ⟨lw_p57, List.forall_mem_cons.mpr ⟨lw_p58, List.forall_mem_cons.mpr ⟨lw_p59, List.forall_mem_cons.mpr ⟨lw_p60, List.forall_mem_cons.mpr ⟨lw_p61, List.forall_mem_cons.mpr ⟨lw_p62, List.forall_mem_cons.mpr ⟨lw_p63, fun _ h => absurd h List.not_mem_nil⟩⟩⟩⟩⟩⟩⟩⟩⟩⟩⟩⟩⟩⟩⟩⟩
theorem lw_p64 : lw_okq (⟨"OnlyTwoEnemiesModel", "keepersIn", "(I)I"⟩, 31) := ⟨⟨by decide +kernel, by decide +kernel⟩, lw_t4 (i := 212) rfl, lw_t6 (i := 117) rfl, lw_t6 (i := 118) rfl⟩
theorem lw_p65 : lw_okq (⟨"OnlyTwoEnemiesModel", "findTwos", "(II)V"⟩, 31) := ⟨⟨by decide +kernel, by decide +kernel⟩, lw_t4 (i := 212) rfl, lw_t6 (i := 129) rfl, lw_t6 (i := 130) rfl⟩
theorem lw_p66 : lw_okq (⟨"OnlyTwoEnemiesModel", "opensSo", "()Z"⟩, 31) := ⟨⟨by decide +kernel, by decide +kernel⟩, lw_t4 (i := 212) rfl, lw_t6 (i := 141) rfl, lw_t6 (i := 142) rfl⟩
theorem lw_p67 : lw_okq (⟨"OnlyTwoEnemiesModel", "bitsFor", "([IIII)I"⟩, 31) := ⟨⟨by decide +kernel, by decide +kernel⟩, lw_t4 (i := 212) rfl, lw_t6 (i := 149) rfl, lw_t6 (i := 150) rfl⟩
theorem lw_p68 : lw_okq (⟨"OnlyTwoEnemiesModel", "hatesSo", "(II)Z"⟩, 31) := ⟨⟨by decide +kernel, by decide +kernel⟩, lw_t4 (i := 212) rfl, lw_t6 (i := 153) rfl, lw_t6 (i := 154) rfl⟩
theorem lw_p69 : lw_okq (⟨"OnlyTwoEnemiesModel", "lowestOf", "(I)J"⟩, 31) := ⟨⟨by decide +kernel, by decide +kernel⟩, lw_t4 (i := 212) rfl, lw_t6 (i := 161) rfl, lw_t6 (i := 162) rfl⟩
theorem lw_p70 : lw_okq (⟨"OnlyTwoEnemiesModel", "getsOf", "(IIII)I"⟩, 31) := ⟨⟨by decide +kernel, by decide +kernel⟩, lw_t4 (i := 212) rfl, lw_t6 (i := 182) rfl, lw_t6 (i := 183) rfl⟩
theorem lw_p71 : lw_okq (⟨"OnlyTwoEnemiesModel", "isOpenMeeting", "(IIIII)Z"⟩, 31) := ⟨⟨by decide +kernel, by decide +kernel⟩, lw_t4 (i := 212) rfl, lw_t6 (i := 190) rfl, lw_t6 (i := 191) rfl⟩
theorem lw_p72 : lw_okq (⟨"OnlyTwoEnemiesModel", "hatesOf", "(I)I"⟩, 31) := ⟨⟨by decide +kernel, by decide +kernel⟩, lw_t4 (i := 212) rfl, lw_t6 (i := 206) rfl, lw_t6 (i := 207) rfl⟩
theorem lw_p73 : lw_okq (⟨"OnlyTwoEnemiesModel", "lower", "(I)I"⟩, 31) := ⟨⟨by decide +kernel, by decide +kernel⟩, lw_t4 (i := 212) rfl, lw_t6 (i := 222) rfl, lw_t6 (i := 223) rfl⟩
theorem lw_p74 : lw_okq (⟨"OnlyTwoEnemiesModel", "manySwapped", "(III)I"⟩, 31) := ⟨⟨by decide +kernel, by decide +kernel⟩, lw_t4 (i := 212) rfl, lw_t6 (i := 231) rfl, lw_t6 (i := 232) rfl⟩
theorem lw_p75 : lw_okq (⟨"OnlyTwoEnemiesModel", "draw", "(I)I"⟩, 31) := ⟨⟨by decide +kernel, by decide +kernel⟩, lw_t4 (i := 212) rfl, lw_t7 (i := 23) rfl, lw_t7 (i := 24) rfl⟩
def lw_privs_5 : List (MethodName × Nat) := [(⟨"OnlyTwoEnemiesModel", "keepersIn", "(I)I"⟩, 31), (⟨"OnlyTwoEnemiesModel", "findTwos", "(II)V"⟩, 31), (⟨"OnlyTwoEnemiesModel", "opensSo", "()Z"⟩, 31), (⟨"OnlyTwoEnemiesModel", "bitsFor", "([IIII)I"⟩, 31), (⟨"OnlyTwoEnemiesModel", "hatesSo", "(II)Z"⟩, 31), (⟨"OnlyTwoEnemiesModel", "lowestOf", "(I)J"⟩, 31), (⟨"OnlyTwoEnemiesModel", "getsOf", "(IIII)I"⟩, 31), (⟨"OnlyTwoEnemiesModel", "isOpenMeeting", "(IIIII)Z"⟩, 31), (⟨"OnlyTwoEnemiesModel", "hatesOf", "(I)I"⟩, 31), (⟨"OnlyTwoEnemiesModel", "lower", "(I)I"⟩, 31), (⟨"OnlyTwoEnemiesModel", "manySwapped", "(III)I"⟩, 31), (⟨"OnlyTwoEnemiesModel", "draw", "(I)I"⟩, 31)]
theorem lw_r5 : ∀ q ∈ lw_privs_5, lw_okq q := List.forall_mem_cons.mpr ⟨lw_p64, List.forall_mem_cons.mpr ⟨lw_p65, List.forall_mem_cons.mpr ⟨lw_p66, List.forall_mem_cons.mpr ⟨lw_p67, List.forall_mem_cons.mpr ⟨lw_p68, List.forall_mem_cons.mpr ⟨lw_p69, List.forall_mem_cons.mpr ⟨lw_p70, List.forall_mem_cons.mpr ⟨lw_p71, List.forall_mem_cons.mpr ⟨lw_p72, List.forall_mem_cons.mpr ⟨lw_p73, List.forall_mem_cons.mpr ⟨lw_p74, List.forall_mem_cons.mpr ⟨lw_p75, fun _ h => absurd h List.not_mem_nil⟩⟩⟩⟩⟩⟩⟩⟩⟩⟩⟩⟩
def lw_privs : List (MethodName × Nat) := lw_privs_1 ++ (lw_privs_2 ++ (lw_privs_3 ++ (lw_privs_4 ++ (lw_privs_5))))
def lw_tbl : List Cond := k2_sels lw_privs ++ tables_1
theorem lw_privs_ok : ∀ q ∈ lw_privs, lw_okq q := by
  show ∀ q ∈ lw_privs_1 ++ (lw_privs_2 ++ (lw_privs_3 ++ (lw_privs_4 ++ (lw_privs_5)))), lw_okq q
  exact List.forall_mem_append.mpr ⟨lw_r1, List.forall_mem_append.mpr ⟨lw_r2, List.forall_mem_append.mpr ⟨lw_r3, List.forall_mem_append.mpr ⟨lw_r4, lw_r5⟩⟩⟩⟩
def lw_g : List Cond := lw_tbl.filter goodWord
theorem lw_gm {w : Cond} (h : w ∈ lw_tbl) (hg : goodWord w = true) : w ∈ lw_g := List.mem_filter.mpr ⟨h, hg⟩
theorem lw_gt {w : Cond} (h : w ∈ lw_g) : w ∈ lw_tbl := (List.mem_filter.mp h).1
theorem lw_gi {ws : List Cond} (h : ∀ w ∈ ws, w ∈ lw_g) : GoodIn lw_g ws := fun w hw => ⟨h w hw, good_of_word (List.mem_filter.mp (h w hw)).2⟩
end
section
def RX0 : String := "OnlyTwoEnemies$Chance"
def TX0 : u_T := fun k => match k with
  | _ => ("", "", "", false)
def tyX0 : Nat → FieldType := fun k => match k with
  | _ => .int
abbrev wsX00 : List Cond := u_ws RX0 TX0 0
theorem nmX0 : ∀ a, a < 0 → ∀ b, b < 0 → a ≠ b → (TX0 a).2.1 ≠ (TX0 b).2.1 := by decide +kernel
theorem tyX0_ok : ∀ k, k < 0 → parseFieldDescriptor (TX0 k).2.2.1 = some (tyX0 k) := by decide +kernel
abbrev cX0_power : ByteArray := prog_2_method_2_code
def yX0_power : MethodName := ⟨RX0, "power", "(II)J"⟩
abbrev cX0_ways : ByteArray := prog_2_method_3_code
def yX0_ways : MethodName := ⟨RX0, "ways", "(III)J"⟩
abbrev cX0_part : ByteArray := prog_2_method_4_code
def yX0_part : MethodName := ⟨RX0, "part", "(JJI)J"⟩
abbrev cX0_commonDivisor : ByteArray := prog_2_method_5_code
def yX0_commonDivisor : MethodName := ⟨RX0, "commonDivisor", "(JJ)J"⟩
def RX1 : String := "OnlyTwoEnemies$Country"
def TX1 : u_T := fun k => match k with
  | 0 => ("OnlyTwoEnemies$Country", "kinds", "[I", true)
  | 1 => ("OnlyTwoEnemies$Country", "figures", "[I", true)
  | 2 => ("OnlyTwoEnemies$Country", "towns", "[I", true)
  | 3 => ("OnlyTwoEnemies$Country", "hatreds", "[I", true)
  | 4 => ("OnlyTwoEnemies$Country", "depths", "[I", true)
  | 5 => ("OnlyTwoEnemies$Country", "letterTowns", "[I", true)
  | 6 => ("OnlyTwoEnemies$Country", "openers", "[I", true)
  | 7 => ("OnlyTwoEnemies$Country", "keepers", "I", false)
  | 8 => ("OnlyTwoEnemies$Country", "letters", "I", false)
  | 9 => ("OnlyTwoEnemies$Country", "open", "I", false)
  | _ => ("OnlyTwoEnemies$Country", "week", "I", false)
def tyX1 : Nat → FieldType := fun k => match k with
  | 0 => .array .int
  | 1 => .array .int
  | 2 => .array .int
  | 3 => .array .int
  | 4 => .array .int
  | 5 => .array .int
  | 6 => .array .int
  | 7 => .int
  | 8 => .int
  | 9 => .int
  | _ => .int
abbrev wsX10 : List Cond := u_ws RX1 TX1 11
theorem nmX1 : ∀ a, a < 11 → ∀ b, b < 11 → a ≠ b → (TX1 a).2.1 ≠ (TX1 b).2.1 := by decide +kernel
theorem tyX1_ok : ∀ k, k < 11 → parseFieldDescriptor (TX1 k).2.2.1 = some (tyX1 k) := by decide +kernel
abbrev cX1_init : ByteArray := prog_3_method_1_code
def yX1_init : MethodName := ⟨RX1, "<init>", "()V"⟩
abbrev cX1_become : ByteArray := prog_3_method_2_code
def yX1_become : MethodName := ⟨RX1, "become", "(LOnlyTwoEnemies$Country;)V"⟩
abbrev cX1_keeperCount : ByteArray := prog_3_method_3_code
def yX1_keeperCount : MethodName := ⟨RX1, "keeperCount", "()I"⟩
abbrev cX1_letterCount : ByteArray := prog_3_method_4_code
def yX1_letterCount : MethodName := ⟨RX1, "letterCount", "()I"⟩
abbrev cX1_weekNow : ByteArray := prog_3_method_5_code
def yX1_weekNow : MethodName := ⟨RX1, "weekNow", "()I"⟩
abbrev cX1_openBits : ByteArray := prog_3_method_6_code
def yX1_openBits : MethodName := ⟨RX1, "openBits", "()I"⟩
abbrev cX1_openCount : ByteArray := prog_3_method_7_code
def yX1_openCount : MethodName := ⟨RX1, "openCount", "()I"⟩
abbrev cX1_hasKeeper : ByteArray := prog_3_method_8_code
def yX1_hasKeeper : MethodName := ⟨RX1, "hasKeeper", "(I)Z"⟩
abbrev cX1_hasLetter : ByteArray := prog_3_method_9_code
def yX1_hasLetter : MethodName := ⟨RX1, "hasLetter", "(I)Z"⟩
abbrev cX1_areTwo : ByteArray := prog_3_method_10_code
def yX1_areTwo : MethodName := ⟨RX1, "areTwo", "(II)Z"⟩
abbrev cX1_areBothIn : ByteArray := prog_3_method_11_code
def yX1_areBothIn : MethodName := ⟨RX1, "areBothIn", "(III)Z"⟩
abbrev cX1_hasKeeperRoom : ByteArray := prog_3_method_12_code
def yX1_hasKeeperRoom : MethodName := ⟨RX1, "hasKeeperRoom", "()Z"⟩
abbrev cX1_hasLetterRoom : ByteArray := prog_3_method_13_code
def yX1_hasLetterRoom : MethodName := ⟨RX1, "hasLetterRoom", "()Z"⟩
abbrev cX1_kindOf : ByteArray := prog_3_method_14_code
def yX1_kindOf : MethodName := ⟨RX1, "kindOf", "(I)I"⟩
abbrev cX1_figureOf : ByteArray := prog_3_method_15_code
def yX1_figureOf : MethodName := ⟨RX1, "figureOf", "(I)I"⟩
abbrev cX1_townOf : ByteArray := prog_3_method_16_code
def yX1_townOf : MethodName := ⟨RX1, "townOf", "(I)I"⟩
abbrev cX1_fadeOf : ByteArray := prog_3_method_17_code
def yX1_fadeOf : MethodName := ⟨RX1, "fadeOf", "(I)I"⟩
abbrev cX1_stirOf : ByteArray := prog_3_method_18_code
def yX1_stirOf : MethodName := ⟨RX1, "stirOf", "(I)I"⟩
abbrev cX1_wageOf : ByteArray := prog_3_method_19_code
def yX1_wageOf : MethodName := ⟨RX1, "wageOf", "(I)I"⟩
abbrev cX1_depthOf : ByteArray := prog_3_method_20_code
def yX1_depthOf : MethodName := ⟨RX1, "depthOf", "(I)I"⟩
abbrev cX1_letterTownOf : ByteArray := prog_3_method_21_code
def yX1_letterTownOf : MethodName := ⟨RX1, "letterTownOf", "(I)I"⟩
abbrev cX1_isOpen : ByteArray := prog_3_method_22_code
def yX1_isOpen : MethodName := ⟨RX1, "isOpen", "(I)Z"⟩
abbrev cX1_openedBy : ByteArray := prog_3_method_23_code
def yX1_openedBy : MethodName := ⟨RX1, "openedBy", "(I)I"⟩
abbrev cX1_hateOf : ByteArray := prog_3_method_24_code
def yX1_hateOf : MethodName := ⟨RX1, "hateOf", "(II)I"⟩
abbrev cX1_allHate : ByteArray := prog_3_method_25_code
def yX1_allHate : MethodName := ⟨RX1, "allHate", "()I"⟩
abbrev cX1_addKeeper : ByteArray := prog_3_method_26_code
def yX1_addKeeper : MethodName := ⟨RX1, "addKeeper", "(III)I"⟩
abbrev cX1_addLetter : ByteArray := prog_3_method_27_code
def yX1_addLetter : MethodName := ⟨RX1, "addLetter", "(II)I"⟩
abbrev cX1_setHate : ByteArray := prog_3_method_28_code
def yX1_setHate : MethodName := ⟨RX1, "setHate", "(III)V"⟩
abbrev cX1_setKind : ByteArray := prog_3_method_29_code
def yX1_setKind : MethodName := ⟨RX1, "setKind", "(II)V"⟩
abbrev cX1_setFigure : ByteArray := prog_3_method_30_code
def yX1_setFigure : MethodName := ⟨RX1, "setFigure", "(II)V"⟩
abbrev cX1_move : ByteArray := prog_3_method_31_code
def yX1_move : MethodName := ⟨RX1, "move", "(II)V"⟩
abbrev cX1_turnSeal : ByteArray := prog_3_method_32_code
def yX1_turnSeal : MethodName := ⟨RX1, "turnSeal", "(I)V"⟩
abbrev cX1_opener : ByteArray := prog_3_method_33_code
def yX1_opener : MethodName := ⟨RX1, "opener", "(I)I"⟩
abbrev cX1_passWeeks : ByteArray := prog_3_method_34_code
def yX1_passWeeks : MethodName := ⟨RX1, "passWeeks", "(I)I"⟩
abbrev cX1_passWeek : ByteArray := prog_3_method_35_code
def yX1_passWeek : MethodName := ⟨RX1, "passWeek", "()I"⟩
abbrev cX1_change : ByteArray := prog_3_method_36_code
def yX1_change : MethodName := ⟨RX1, "change", "(II)I"⟩
def RX2 : String := "OnlyTwoEnemies$Kinds"
def TX2 : u_T := fun k => match k with
  | _ => ("", "", "", false)
def tyX2 : Nat → FieldType := fun k => match k with
  | _ => .int
abbrev wsX20 : List Cond := u_ws RX2 TX2 0
theorem nmX2 : ∀ a, a < 0 → ∀ b, b < 0 → a ≠ b → (TX2 a).2.1 ≠ (TX2 b).2.1 := by decide +kernel
theorem tyX2_ok : ∀ k, k < 0 → parseFieldDescriptor (TX2 k).2.2.1 = some (tyX2 k) := by decide +kernel
abbrev cX2_fading : ByteArray := prog_4_method_2_code
def yX2_fading : MethodName := ⟨RX2, "fading", "(II)I"⟩
abbrev cX2_stirring : ByteArray := prog_4_method_3_code
def yX2_stirring : MethodName := ⟨RX2, "stirring", "(II)I"⟩
abbrev cX2_wage : ByteArray := prog_4_method_4_code
def yX2_wage : MethodName := ⟨RX2, "wage", "(II)I"⟩
def RX3 : String := "OnlyTwoEnemies$Look"
def TX3 : u_T := fun k => match k with
  | 0 => ("OnlyTwoEnemies$Look", "now", "LOnlyTwoEnemies$Country;", true)
  | _ => ("OnlyTwoEnemies$Look", "twosAmong", "[I", true)
def tyX3 : Nat → FieldType := fun k => match k with
  | 0 => .object "OnlyTwoEnemies$Country"
  | _ => .array .int
abbrev wsX30 : List Cond := u_ws RX3 TX3 2
theorem nmX3 : ∀ a, a < 2 → ∀ b, b < 2 → a ≠ b → (TX3 a).2.1 ≠ (TX3 b).2.1 := by decide +kernel
theorem tyX3_ok : ∀ k, k < 2 → parseFieldDescriptor (TX3 k).2.2.1 = some (tyX3 k) := by decide +kernel
abbrev cX3_init : ByteArray := prog_5_method_1_code
def yX3_init : MethodName := ⟨RX3, "<init>", "(LOnlyTwoEnemies$Country;)V"⟩
abbrev cX3_keepersIn : ByteArray := prog_5_method_2_code
def yX3_keepersIn : MethodName := ⟨RX3, "keepersIn", "(I)I"⟩
abbrev cX3_wages : ByteArray := prog_5_method_3_code
def yX3_wages : MethodName := ⟨RX3, "wages", "(I)I"⟩
abbrev cX3_crowd : ByteArray := prog_5_method_4_code
def yX3_crowd : MethodName := ⟨RX3, "crowd", "(I)I"⟩
abbrev cX3_townOfMost : ByteArray := prog_5_method_5_code
def yX3_townOfMost : MethodName := ⟨RX3, "townOfMost", "()I"⟩
abbrev cX3_mostHateIn : ByteArray := prog_5_method_6_code
def yX3_mostHateIn : MethodName := ⟨RX3, "mostHateIn", "(I)I"⟩
abbrev cX3_townsThatOpen : ByteArray := prog_5_method_7_code
def yX3_townsThatOpen : MethodName := ⟨RX3, "townsThatOpen", "(I)I"⟩
abbrev cX3_mostTwos : ByteArray := prog_5_method_8_code
def yX3_mostTwos : MethodName := ⟨RX3, "mostTwos", "(I)I"⟩
abbrev cX3_mostTwosWith : ByteArray := prog_5_method_9_code
def yX3_mostTwosWith : MethodName := ⟨RX3, "mostTwosWith", "(III)I"⟩
abbrev cX3_worstTwo : ByteArray := prog_5_method_10_code
def yX3_worstTwo : MethodName := ⟨RX3, "worstTwo", "(Z)I"⟩
abbrev cX3_friends : ByteArray := prog_5_method_11_code
def yX3_friends : MethodName := ⟨RX3, "friends", "()I"⟩
abbrev cX3_deepestSealed : ByteArray := prog_5_method_12_code
def yX3_deepestSealed : MethodName := ⟨RX3, "deepestSealed", "()I"⟩
abbrev cX3_leastHating : ByteArray := prog_5_method_13_code
def yX3_leastHating : MethodName := ⟨RX3, "leastHating", "()I"⟩
abbrev cX3_hatesTogether : ByteArray := prog_5_method_14_code
def yX3_hatesTogether : MethodName := ⟨RX3, "hatesTogether", "(I)I"⟩
abbrev cX3_hateOrSelf : ByteArray := prog_5_method_15_code
def yX3_hateOrSelf : MethodName := ⟨RX3, "hateOrSelf", "(II)I"⟩
abbrev cX3_mostHated : ByteArray := prog_5_method_16_code
def yX3_mostHated : MethodName := ⟨RX3, "mostHated", "(I)I"⟩
abbrev cX3_bareTowns : ByteArray := prog_5_method_17_code
def yX3_bareTowns : MethodName := ⟨RX3, "bareTowns", "()I"⟩
abbrev cX3_firstMisjudged : ByteArray := prog_5_method_18_code
def yX3_firstMisjudged : MethodName := ⟨RX3, "firstMisjudged", "(ILOnlyTwoEnemies$Row;)I"⟩
def RX4 : String := "OnlyTwoEnemies$Mind"
def TX4 : u_T := fun k => match k with
  | 0 => ("OnlyTwoEnemies$Mind", "now", "LOnlyTwoEnemies$Country;", true)
  | _ => ("OnlyTwoEnemies$Mind", "ahead", "LOnlyTwoEnemies$Country;", true)
def tyX4 : Nat → FieldType := fun k => match k with
  | 0 => .object "OnlyTwoEnemies$Country"
  | _ => .object "OnlyTwoEnemies$Country"
abbrev wsX40 : List Cond := u_ws RX4 TX4 2
theorem nmX4 : ∀ a, a < 2 → ∀ b, b < 2 → a ≠ b → (TX4 a).2.1 ≠ (TX4 b).2.1 := by decide +kernel
theorem tyX4_ok : ∀ k, k < 2 → parseFieldDescriptor (TX4 k).2.2.1 = some (tyX4 k) := by decide +kernel
abbrev cX4_init : ByteArray := prog_6_method_1_code
def yX4_init : MethodName := ⟨RX4, "<init>", "(LOnlyTwoEnemies$Country;)V"⟩
abbrev cX4_hateAfter : ByteArray := prog_6_method_2_code
def yX4_hateAfter : MethodName := ⟨RX4, "hateAfter", "(III)I"⟩
abbrev cX4_openBitsAfter : ByteArray := prog_6_method_3_code
def yX4_openBitsAfter : MethodName := ⟨RX4, "openBitsAfter", "(I)I"⟩
abbrev cX4_allHateAfter : ByteArray := prog_6_method_4_code
def yX4_allHateAfter : MethodName := ⟨RX4, "allHateAfter", "(I)I"⟩
abbrev cX4_weekOpened : ByteArray := prog_6_method_5_code
def yX4_weekOpened : MethodName := ⟨RX4, "weekOpened", "(I)I"⟩
abbrev cX4_openedBy : ByteArray := prog_6_method_6_code
def yX4_openedBy : MethodName := ⟨RX4, "openedBy", "(I)I"⟩
abbrev cX4_weekBelow : ByteArray := prog_6_method_7_code
def yX4_weekBelow : MethodName := ⟨RX4, "weekBelow", "(III)I"⟩
abbrev cX4_sealedFar : ByteArray := prog_6_method_8_code
def yX4_sealedFar : MethodName := ⟨RX4, "sealedFar", "()I"⟩
abbrev cX4_firstOpened : ByteArray := prog_6_method_9_code
def yX4_firstOpened : MethodName := ⟨RX4, "firstOpened", "()I"⟩
abbrev cX4_leastInsult : ByteArray := prog_6_method_10_code
def yX4_leastInsult : MethodName := ⟨RX4, "leastInsult", "(III)I"⟩
abbrev cX4_idleWeeks : ByteArray := prog_6_method_11_code
def yX4_idleWeeks : MethodName := ⟨RX4, "idleWeeks", "(I)I"⟩
abbrev cX4_openAsAllIs : ByteArray := prog_6_method_12_code
def yX4_openAsAllIs : MethodName := ⟨RX4, "openAsAllIs", "(I)I"⟩
abbrev cX4_bestSending : ByteArray := prog_6_method_13_code
def yX4_bestSending : MethodName := ⟨RX4, "bestSending", "(I)I"⟩
abbrev cX4_bestSwap : ByteArray := prog_6_method_14_code
def yX4_bestSwap : MethodName := ⟨RX4, "bestSwap", "(I)I"⟩
abbrev cX4_bestPlaces : ByteArray := prog_6_method_15_code
def yX4_bestPlaces : MethodName := ⟨RX4, "bestPlaces", "(IIII)I"⟩
abbrev cX4_openPlaced : ByteArray := prog_6_method_16_code
def yX4_openPlaced : MethodName := ⟨RX4, "openPlaced", "(IIIII)I"⟩
abbrev cX4_fewestKept : ByteArray := prog_6_method_17_code
def yX4_fewestKept : MethodName := ⟨RX4, "fewestKept", "(I)I"⟩
abbrev cX4_openKept : ByteArray := prog_6_method_18_code
def yX4_openKept : MethodName := ⟨RX4, "openKept", "(II)I"⟩
abbrev cX4_fittingHate : ByteArray := prog_6_method_19_code
def yX4_fittingHate : MethodName := ⟨RX4, "fittingHate", "(IILOnlyTwoEnemies$Row;I)I"⟩
abbrev cX4_opensAsTold : ByteArray := prog_6_method_20_code
def yX4_opensAsTold : MethodName := ⟨RX4, "opensAsTold", "(LOnlyTwoEnemies$Row;)Z"⟩
abbrev cX4_fittingKinds : ByteArray := prog_6_method_21_code
def yX4_fittingKinds : MethodName := ⟨RX4, "fittingKinds", "(IILOnlyTwoEnemies$Row;)I"⟩
abbrev cX4_fittingFigures : ByteArray := prog_6_method_22_code
def yX4_fittingFigures : MethodName := ⟨RX4, "fittingFigures", "(IILOnlyTwoEnemies$Row;)I"⟩
abbrev cX4_hatesAsTold : ByteArray := prog_6_method_23_code
def yX4_hatesAsTold : MethodName := ⟨RX4, "hatesAsTold", "(IILOnlyTwoEnemies$Row;)Z"⟩
abbrev cX4_settled : ByteArray := prog_6_method_24_code
def yX4_settled : MethodName := ⟨RX4, "settled", "(II)I"⟩
abbrev cX4_hateMadeUp : ByteArray := prog_6_method_25_code
def yX4_hateMadeUp : MethodName := ⟨RX4, "hateMadeUp", "(II)I"⟩
abbrev cX4_gain : ByteArray := prog_6_method_26_code
def yX4_gain : MethodName := ⟨RX4, "gain", "(IIIII)I"⟩
abbrev cX4_meetingWays : ByteArray := prog_6_method_27_code
def yX4_meetingWays : MethodName := ⟨RX4, "meetingWays", "(IIIII)J"⟩
abbrev cX4_byLot : ByteArray := prog_6_method_28_code
def yX4_byLot : MethodName := ⟨RX4, "byLot", "(III)I"⟩
def RX5 : String := "OnlyTwoEnemies$Past"
def TX5 : u_T := fun k => match k with
  | 0 => ("OnlyTwoEnemies$Past", "earlier", "[LOnlyTwoEnemies$Country;", true)
  | 1 => ("OnlyTwoEnemies$Past", "next", "I", false)
  | _ => ("OnlyTwoEnemies$Past", "size", "I", false)
def tyX5 : Nat → FieldType := fun k => match k with
  | 0 => .array (.object "OnlyTwoEnemies$Country")
  | 1 => .int
  | _ => .int
abbrev wsX50 : List Cond := u_ws RX5 TX5 3
theorem nmX5 : ∀ a, a < 3 → ∀ b, b < 3 → a ≠ b → (TX5 a).2.1 ≠ (TX5 b).2.1 := by decide +kernel
theorem tyX5_ok : ∀ k, k < 3 → parseFieldDescriptor (TX5 k).2.2.1 = some (tyX5 k) := by decide +kernel
abbrev cX5_init : ByteArray := prog_7_method_1_code
def yX5_init : MethodName := ⟨RX5, "<init>", "()V"⟩
abbrev cX5_size : ByteArray := prog_7_method_2_code
def yX5_size : MethodName := ⟨RX5, "size", "()I"⟩
abbrev cX5_forget : ByteArray := prog_7_method_3_code
def yX5_forget : MethodName := ⟨RX5, "forget", "()V"⟩
abbrev cX5_remember : ByteArray := prog_7_method_4_code
def yX5_remember : MethodName := ⟨RX5, "remember", "(LOnlyTwoEnemies$Country;)V"⟩
abbrev cX5_takeBack : ByteArray := prog_7_method_5_code
def yX5_takeBack : MethodName := ⟨RX5, "takeBack", "(LOnlyTwoEnemies$Country;)V"⟩
abbrev cX5_country : ByteArray := prog_7_method_6_code
def yX5_country : MethodName := ⟨RX5, "country", "(I)LOnlyTwoEnemies$Country;"⟩
def RX6 : String := "OnlyTwoEnemies$Row"
def TX6 : u_T := fun k => match k with
  | 0 => ("OnlyTwoEnemies$Row", "numbers", "[I", true)
  | _ => ("OnlyTwoEnemies$Row", "size", "I", false)
def tyX6 : Nat → FieldType := fun k => match k with
  | 0 => .array .int
  | _ => .int
abbrev wsX60 : List Cond := u_ws RX6 TX6 2
theorem nmX6 : ∀ a, a < 2 → ∀ b, b < 2 → a ≠ b → (TX6 a).2.1 ≠ (TX6 b).2.1 := by decide +kernel
theorem tyX6_ok : ∀ k, k < 2 → parseFieldDescriptor (TX6 k).2.2.1 = some (tyX6 k) := by decide +kernel
abbrev cX6_init : ByteArray := prog_8_method_1_code
def yX6_init : MethodName := ⟨RX6, "<init>", "()V"⟩
abbrev cX6_size : ByteArray := prog_8_method_2_code
def yX6_size : MethodName := ⟨RX6, "size", "()I"⟩
abbrev cX6_isFull : ByteArray := prog_8_method_3_code
def yX6_isFull : MethodName := ⟨RX6, "isFull", "()Z"⟩
abbrev cX6_add : ByteArray := prog_8_method_4_code
def yX6_add : MethodName := ⟨RX6, "add", "(I)I"⟩
abbrev cX6_number : ByteArray := prog_8_method_5_code
def yX6_number : MethodName := ⟨RX6, "number", "(I)I"⟩
abbrev cX6_empty : ByteArray := prog_8_method_6_code
def yX6_empty : MethodName := ⟨RX6, "empty", "()V"⟩
def RX7 : String := "OnlyTwoEnemies$Telling"
def TX7 : u_T := fun k => match k with
  | 0 => ("OnlyTwoEnemies$Telling", "signs", "[I", true)
  | _ => ("OnlyTwoEnemies$Telling", "size", "I", false)
def tyX7 : Nat → FieldType := fun k => match k with
  | 0 => .array .int
  | _ => .int
abbrev wsX70 : List Cond := u_ws RX7 TX7 2
theorem nmX7 : ∀ a, a < 2 → ∀ b, b < 2 → a ≠ b → (TX7 a).2.1 ≠ (TX7 b).2.1 := by decide +kernel
theorem tyX7_ok : ∀ k, k < 2 → parseFieldDescriptor (TX7 k).2.2.1 = some (tyX7 k) := by decide +kernel
abbrev cX7_init : ByteArray := prog_9_method_1_code
def yX7_init : MethodName := ⟨RX7, "<init>", "()V"⟩
abbrev cX7_size : ByteArray := prog_9_method_2_code
def yX7_size : MethodName := ⟨RX7, "size", "()I"⟩
abbrev cX7_isFull : ByteArray := prog_9_method_3_code
def yX7_isFull : MethodName := ⟨RX7, "isFull", "()Z"⟩
abbrev cX7_add : ByteArray := prog_9_method_4_code
def yX7_add : MethodName := ⟨RX7, "add", "(I)I"⟩
abbrev cX7_empty : ByteArray := prog_9_method_5_code
def yX7_empty : MethodName := ⟨RX7, "empty", "()V"⟩
abbrev cX7_tellTo : ByteArray := prog_9_method_6_code
def yX7_tellTo : MethodName := ⟨RX7, "tellTo", "(LOnlyTwoEnemies$Country;)I"⟩
abbrev cX7_brokenPlace : ByteArray := prog_9_method_7_code
def yX7_brokenPlace : MethodName := ⟨RX7, "brokenPlace", "()I"⟩
abbrev cX7_digitsBehind : ByteArray := prog_9_method_8_code
def yX7_digitsBehind : MethodName := ⟨RX7, "digitsBehind", "(I)I"⟩
abbrev cX7_isRight : ByteArray := prog_9_method_9_code
def yX7_isRight : MethodName := ⟨RX7, "isRight", "(ILOnlyTwoEnemies$Country;)Z"⟩
abbrev cX7_comes : ByteArray := prog_9_method_10_code
def yX7_comes : MethodName := ⟨RX7, "comes", "(ILOnlyTwoEnemies$Country;)V"⟩
abbrev cX7_sign : ByteArray := prog_9_method_11_code
def yX7_sign : MethodName := ⟨RX7, "sign", "(I)I"⟩
abbrev cX7_isDigit : ByteArray := prog_9_method_12_code
def yX7_isDigit : MethodName := ⟨RX7, "isDigit", "(I)Z"⟩
abbrev cX7_digit : ByteArray := prog_9_method_13_code
def yX7_digit : MethodName := ⟨RX7, "digit", "(I)I"⟩
abbrev cX7_twoDigits : ByteArray := prog_9_method_14_code
def yX7_twoDigits : MethodName := ⟨RX7, "twoDigits", "(I)I"⟩
def RX8 : String := "OnlyTwoEnemies"
def TX8 : u_T := fun k => match k with
  | 0 => ("OnlyTwoEnemies", "now", "LOnlyTwoEnemies$Country;", true)
  | 1 => ("OnlyTwoEnemies", "draft", "LOnlyTwoEnemies$Country;", true)
  | 2 => ("OnlyTwoEnemies", "kept", "LOnlyTwoEnemies$Country;", true)
  | 3 => ("OnlyTwoEnemies", "isKept", "Z", false)
  | 4 => ("OnlyTwoEnemies", "past", "LOnlyTwoEnemies$Past;", true)
  | 5 => ("OnlyTwoEnemies", "telling", "LOnlyTwoEnemies$Telling;", true)
  | 6 => ("OnlyTwoEnemies", "numbers", "LOnlyTwoEnemies$Row;", true)
  | 7 => ("OnlyTwoEnemies", "look", "LOnlyTwoEnemies$Look;", true)
  | 8 => ("OnlyTwoEnemies", "mind", "LOnlyTwoEnemies$Mind;", true)
  | _ => ("OnlyTwoEnemies", "refusals", "[I", true)
def tyX8 : Nat → FieldType := fun k => match k with
  | 0 => .object "OnlyTwoEnemies$Country"
  | 1 => .object "OnlyTwoEnemies$Country"
  | 2 => .object "OnlyTwoEnemies$Country"
  | 3 => .boolean
  | 4 => .object "OnlyTwoEnemies$Past"
  | 5 => .object "OnlyTwoEnemies$Telling"
  | 6 => .object "OnlyTwoEnemies$Row"
  | 7 => .object "OnlyTwoEnemies$Look"
  | 8 => .object "OnlyTwoEnemies$Mind"
  | _ => .array .int
abbrev wsX80 : List Cond := u_ws RX8 TX8 10
theorem nmX8 : ∀ a, a < 10 → ∀ b, b < 10 → a ≠ b → (TX8 a).2.1 ≠ (TX8 b).2.1 := by decide +kernel
theorem tyX8_ok : ∀ k, k < 10 → parseFieldDescriptor (TX8 k).2.2.1 = some (tyX8 k) := by decide +kernel
abbrev cX8_init : ByteArray := prog_1_method_1_code
def yX8_init : MethodName := ⟨RX8, "<init>", "()V"⟩
abbrev cX8_feed : ByteArray := prog_1_method_2_code
def yX8_feed : MethodName := ⟨RX8, "feed", "(I)I"⟩
abbrev cX8_land : ByteArray := prog_1_method_3_code
def yX8_land : MethodName := ⟨RX8, "land", "()I"⟩
abbrev cX8_keeperOf : ByteArray := prog_1_method_4_code
def yX8_keeperOf : MethodName := ⟨RX8, "keeperOf", "(II)I"⟩
abbrev cX8_letterOf : ByteArray := prog_1_method_5_code
def yX8_letterOf : MethodName := ⟨RX8, "letterOf", "(II)I"⟩
abbrev cX8_hate : ByteArray := prog_1_method_6_code
def yX8_hate : MethodName := ⟨RX8, "hate", "(II)I"⟩
abbrev cX8_count : ByteArray := prog_1_method_7_code
def yX8_count : MethodName := ⟨RX8, "count", "(I)I"⟩
abbrev cX8_keeper : ByteArray := prog_1_method_8_code
def yX8_keeper : MethodName := ⟨RX8, "keeper", "(III)I"⟩
abbrev cX8_letter : ByteArray := prog_1_method_9_code
def yX8_letter : MethodName := ⟨RX8, "letter", "(II)I"⟩
abbrev cX8_hates : ByteArray := prog_1_method_10_code
def yX8_hates : MethodName := ⟨RX8, "hates", "(III)I"⟩
abbrev cX8_goes : ByteArray := prog_1_method_11_code
def yX8_goes : MethodName := ⟨RX8, "goes", "(II)I"⟩
abbrev cX8_seals : ByteArray := prog_1_method_12_code
def yX8_seals : MethodName := ⟨RX8, "seals", "(I)I"⟩
abbrev cX8_weeks : ByteArray := prog_1_method_13_code
def yX8_weeks : MethodName := ⟨RX8, "weeks", "(I)I"⟩
abbrev cX8_back : ByteArray := prog_1_method_14_code
def yX8_back : MethodName := ⟨RX8, "back", "()I"⟩
abbrev cX8_image : ByteArray := prog_1_method_15_code
def yX8_image : MethodName := ⟨RX8, "image", "()I"⟩
abbrev cX8_restore : ByteArray := prog_1_method_16_code
def yX8_restore : MethodName := ⟨RX8, "restore", "()I"⟩
abbrev cX8_row : ByteArray := prog_1_method_17_code
def yX8_row : MethodName := ⟨RX8, "row", "(I)I"⟩
abbrev cX8_judge : ByteArray := prog_1_method_18_code
def yX8_judge : MethodName := ⟨RX8, "judge", "(I)I"⟩
abbrev cX8_clear : ByteArray := prog_1_method_19_code
def yX8_clear : MethodName := ⟨RX8, "clear", "()I"⟩
abbrev cX8_behind : ByteArray := prog_1_method_20_code
def yX8_behind : MethodName := ⟨RX8, "behind", "(III)I"⟩
abbrev cX8_then : ByteArray := prog_1_method_21_code
def yX8_then : MethodName := ⟨RX8, "then", "(II)I"⟩
abbrev cX8_when : ByteArray := prog_1_method_22_code
def yX8_when : MethodName := ⟨RX8, "when", "(II)I"⟩
abbrev cX8_lasts : ByteArray := prog_1_method_23_code
def yX8_lasts : MethodName := ⟨RX8, "lasts", "(III)I"⟩
abbrev cX8_never : ByteArray := prog_1_method_24_code
def yX8_never : MethodName := ⟨RX8, "never", "(I)I"⟩
abbrev cX8_insult : ByteArray := prog_1_method_25_code
def yX8_insult : MethodName := ⟨RX8, "insult", "(III)I"⟩
abbrev cX8_used : ByteArray := prog_1_method_26_code
def yX8_used : MethodName := ⟨RX8, "used", "(III)I"⟩
abbrev cX8_apart : ByteArray := prog_1_method_27_code
def yX8_apart : MethodName := ⟨RX8, "apart", "(I)I"⟩
abbrev cX8_two : ByteArray := prog_1_method_28_code
def yX8_two : MethodName := ⟨RX8, "two", "(II)I"⟩
abbrev cX8_send : ByteArray := prog_1_method_29_code
def yX8_send : MethodName := ⟨RX8, "send", "(I)I"⟩
abbrev cX8_swap : ByteArray := prog_1_method_30_code
def yX8_swap : MethodName := ⟨RX8, "swap", "(I)I"⟩
abbrev cX8_places : ByteArray := prog_1_method_31_code
def yX8_places : MethodName := ⟨RX8, "places", "(IIIII)I"⟩
abbrev cX8_fewest : ByteArray := prog_1_method_32_code
def yX8_fewest : MethodName := ⟨RX8, "fewest", "(II)I"⟩
abbrev cX8_pay : ByteArray := prog_1_method_33_code
def yX8_pay : MethodName := ⟨RX8, "pay", "(II)I"⟩
abbrev cX8_whoHates : ByteArray := prog_1_method_34_code
def yX8_whoHates : MethodName := ⟨RX8, "whoHates", "(III)I"⟩
abbrev cX8_whatKind : ByteArray := prog_1_method_35_code
def yX8_whatKind : MethodName := ⟨RX8, "whatKind", "(III)I"⟩
abbrev cX8_jug : ByteArray := prog_1_method_36_code
def yX8_jug : MethodName := ⟨RX8, "jug", "(IIII)J"⟩
abbrev cX8_meetings : ByteArray := prog_1_method_37_code
def yX8_meetings : MethodName := ⟨RX8, "meetings", "(IIIIII)J"⟩
abbrev cX8_lots : ByteArray := prog_1_method_38_code
def yX8_lots : MethodName := ⟨RX8, "lots", "(III)I"⟩
abbrev cX8_deepest : ByteArray := prog_1_method_39_code
def yX8_deepest : MethodName := ⟨RX8, "deepest", "(I)I"⟩
abbrev cX8_can : ByteArray := prog_1_method_40_code
def yX8_can : MethodName := ⟨RX8, "can", "(I)I"⟩
abbrev cX8_pairs : ByteArray := prog_1_method_41_code
def yX8_pairs : MethodName := ⟨RX8, "pairs", "(I)I"⟩
abbrev cX8_worst : ByteArray := prog_1_method_42_code
def yX8_worst : MethodName := ⟨RX8, "worst", "(I)I"⟩
abbrev cX8_fullest : ByteArray := prog_1_method_43_code
def yX8_fullest : MethodName := ⟨RX8, "fullest", "(I)I"⟩
abbrev cX8_thickest : ByteArray := prog_1_method_44_code
def yX8_thickest : MethodName := ⟨RX8, "thickest", "()I"⟩
abbrev cX8_mildest : ByteArray := prog_1_method_45_code
def yX8_mildest : MethodName := ⟨RX8, "mildest", "()I"⟩
abbrev cX8_bare : ByteArray := prog_1_method_46_code
def yX8_bare : MethodName := ⟨RX8, "bare", "()I"⟩
abbrev cX8_enemy : ByteArray := prog_1_method_47_code
def yX8_enemy : MethodName := ⟨RX8, "enemy", "(I)I"⟩
abbrev cX8_mean : ByteArray := prog_1_method_48_code
def yX8_mean : MethodName := ⟨RX8, "mean", "(I)J"⟩
abbrev cX8_refused : ByteArray := prog_1_method_49_code
def yX8_refused : MethodName := ⟨RX8, "refused", "(I)I"⟩
abbrev cX8_keeperRefusal : ByteArray := prog_1_method_50_code
def yX8_keeperRefusal : MethodName := ⟨RX8, "keeperRefusal", "(I)I"⟩
abbrev cX8_letterRefusal : ByteArray := prog_1_method_51_code
def yX8_letterRefusal : MethodName := ⟨RX8, "letterRefusal", "(I)I"⟩
abbrev cX8_twoRefusal : ByteArray := prog_1_method_52_code
def yX8_twoRefusal : MethodName := ⟨RX8, "twoRefusal", "(II)I"⟩
abbrev cX8_townRefusal : ByteArray := prog_1_method_53_code
def yX8_townRefusal : MethodName := ⟨RX8, "townRefusal", "(I)I"⟩
abbrev cX8_isTown : ByteArray := prog_1_method_54_code
def yX8_isTown : MethodName := ⟨RX8, "isTown", "(I)Z"⟩
abbrev cX8_range : ByteArray := prog_1_method_55_code
def yX8_range : MethodName := ⟨RX8, "range", "(III)I"⟩
abbrev cX8_choice : ByteArray := prog_1_method_56_code
def yX8_choice : MethodName := ⟨RX8, "choice", "(II)I"⟩
abbrev cX8_firstOf : ByteArray := prog_1_method_57_code
def yX8_firstOf : MethodName := ⟨RX8, "firstOf", "(III)I"⟩
abbrev cX8_at : ByteArray := prog_1_method_58_code
def yX8_at : MethodName := ⟨RX8, "at", "([II)I"⟩
abbrev cX8_put : ByteArray := prog_1_method_59_code
def yX8_put : MethodName := ⟨RX8, "put", "([III)V"⟩
abbrev cX8_copy : ByteArray := prog_1_method_60_code
def yX8_copy : MethodName := ⟨RX8, "copy", "([I[I)V"⟩
abbrev cX8_bit : ByteArray := prog_1_method_61_code
def yX8_bit : MethodName := ⟨RX8, "bit", "(II)I"⟩
abbrev cX8_twoName : ByteArray := prog_1_method_62_code
def yX8_twoName : MethodName := ⟨RX8, "twoName", "(II)I"⟩
def RX9 : String := "OnlyTwoEnemiesModel"
def TX9 : u_T := fun k => match k with
  | 0 => ("OnlyTwoEnemiesModel", "refused", "[I", true)
  | 1 => ("OnlyTwoEnemiesModel", "kind", "[I", true)
  | 2 => ("OnlyTwoEnemiesModel", "figure", "[I", true)
  | 3 => ("OnlyTwoEnemiesModel", "town", "[I", true)
  | 4 => ("OnlyTwoEnemiesModel", "hate", "[I", true)
  | 5 => ("OnlyTwoEnemiesModel", "depth", "[I", true)
  | 6 => ("OnlyTwoEnemiesModel", "lies", "[I", true)
  | 7 => ("OnlyTwoEnemiesModel", "open", "[I", true)
  | 8 => ("OnlyTwoEnemiesModel", "keepers", "I", false)
  | 9 => ("OnlyTwoEnemiesModel", "letters", "I", false)
  | 10 => ("OnlyTwoEnemiesModel", "week", "I", false)
  | 11 => ("OnlyTwoEnemiesModel", "out", "I", false)
  | 12 => ("OnlyTwoEnemiesModel", "tape", "[I", true)
  | 13 => ("OnlyTwoEnemiesModel", "mark", "[I", true)
  | 14 => ("OnlyTwoEnemiesModel", "markAt", "[I", true)
  | 15 => ("OnlyTwoEnemiesModel", "told", "[I", true)
  | 16 => ("OnlyTwoEnemiesModel", "taped", "I", false)
  | 17 => ("OnlyTwoEnemiesModel", "reading", "I", false)
  | 18 => ("OnlyTwoEnemiesModel", "statements", "I", false)
  | 19 => ("OnlyTwoEnemiesModel", "kept", "[I", true)
  | 20 => ("OnlyTwoEnemiesModel", "hasImage", "Z", false)
  | 21 => ("OnlyTwoEnemiesModel", "isKeeping", "Z", false)
  | 22 => ("OnlyTwoEnemiesModel", "cursor", "I", false)
  | 23 => ("OnlyTwoEnemiesModel", "backs", "I", false)
  | 24 => ("OnlyTwoEnemiesModel", "openedBy", "[I", true)
  | 25 => ("OnlyTwoEnemiesModel", "openedNow", "I", false)
  | 26 => ("OnlyTwoEnemiesModel", "byWhom", "I", false)
  | 27 => ("OnlyTwoEnemiesModel", "twosOf", "[I", true)
  | 28 => ("OnlyTwoEnemiesModel", "row", "[I", true)
  | 29 => ("OnlyTwoEnemiesModel", "rowMany", "I", false)
  | _ => ("OnlyTwoEnemiesModel", "lots", "I", false)
def tyX9 : Nat → FieldType := fun k => match k with
  | 0 => .array .int
  | 1 => .array .int
  | 2 => .array .int
  | 3 => .array .int
  | 4 => .array .int
  | 5 => .array .int
  | 6 => .array .int
  | 7 => .array .int
  | 8 => .int
  | 9 => .int
  | 10 => .int
  | 11 => .int
  | 12 => .array .int
  | 13 => .array .int
  | 14 => .array .int
  | 15 => .array .int
  | 16 => .int
  | 17 => .int
  | 18 => .int
  | 19 => .array .int
  | 20 => .boolean
  | 21 => .boolean
  | 22 => .int
  | 23 => .int
  | 24 => .array .int
  | 25 => .int
  | 26 => .int
  | 27 => .array .int
  | 28 => .array .int
  | 29 => .int
  | _ => .int
abbrev wsX90 : List Cond := u_ws RX9 TX9 31
theorem nmX9 : ∀ a, a < 31 → ∀ b, b < 31 → a ≠ b → (TX9 a).2.1 ≠ (TX9 b).2.1 := by decide +kernel
theorem tyX9_ok : ∀ k, k < 31 → parseFieldDescriptor (TX9 k).2.2.1 = some (tyX9 k) := by decide +kernel
abbrev cX9_init : ByteArray := prog_11_method_1_code
def yX9_init : MethodName := ⟨RX9, "<init>", "()V"⟩
abbrev cX9_no : ByteArray := prog_11_method_2_code
def yX9_no : MethodName := ⟨RX9, "no", "(I)I"⟩
abbrev cX9_lower : ByteArray := prog_11_method_3_code
def yX9_lower : MethodName := ⟨RX9, "lower", "(I)I"⟩
abbrev cX9_lowestOf : ByteArray := prog_11_method_4_code
def yX9_lowestOf : MethodName := ⟨RX9, "lowestOf", "(I)J"⟩
abbrev cX9_isIn : ByteArray := prog_11_method_5_code
def yX9_isIn : MethodName := ⟨RX9, "isIn", "(III)Z"⟩
abbrev cX9_bound : ByteArray := prog_11_method_6_code
def yX9_bound : MethodName := ⟨RX9, "bound", "(III)I"⟩
abbrev cX9_held : ByteArray := prog_11_method_7_code
def yX9_held : MethodName := ⟨RX9, "held", "(III)I"⟩
abbrev cX9_has : ByteArray := prog_11_method_8_code
def yX9_has : MethodName := ⟨RX9, "has", "(II)Z"⟩
abbrev cX9_bits : ByteArray := prog_11_method_9_code
def yX9_bits : MethodName := ⟨RX9, "bits", "(I)I"⟩
abbrev cX9_isKeeper : ByteArray := prog_11_method_10_code
def yX9_isKeeper : MethodName := ⟨RX9, "isKeeper", "(I)Z"⟩
abbrev cX9_areTwo : ByteArray := prog_11_method_11_code
def yX9_areTwo : MethodName := ⟨RX9, "areTwo", "(II)Z"⟩
abbrev cX9_isLetter : ByteArray := prog_11_method_12_code
def yX9_isLetter : MethodName := ⟨RX9, "isLetter", "(I)Z"⟩
abbrev cX9_isTown : ByteArray := prog_11_method_13_code
def yX9_isTown : MethodName := ⟨RX9, "isTown", "(I)Z"⟩
abbrev cX9_hateOf : ByteArray := prog_11_method_14_code
def yX9_hateOf : MethodName := ⟨RX9, "hateOf", "(II)I"⟩
abbrev cX9_sets : ByteArray := prog_11_method_15_code
def yX9_sets : MethodName := ⟨RX9, "sets", "(III)V"⟩
abbrev cX9_feed : ByteArray := prog_11_method_16_code
def yX9_feed : MethodName := ⟨RX9, "feed", "(I)I"⟩
abbrev cX9_next : ByteArray := prog_11_method_17_code
def yX9_next : MethodName := ⟨RX9, "next", "()I"⟩
abbrev cX9_readsDigits : ByteArray := prog_11_method_18_code
def yX9_readsDigits : MethodName := ⟨RX9, "readsDigits", "(II)Z"⟩
abbrev cX9_readsAll : ByteArray := prog_11_method_19_code
def yX9_readsAll : MethodName := ⟨RX9, "readsAll", "(II)Z"⟩
abbrev cX9_statement : ByteArray := prog_11_method_20_code
def yX9_statement : MethodName := ⟨RX9, "statement", "()Z"⟩
abbrev cX9_comesKeeper : ByteArray := prog_11_method_21_code
def yX9_comesKeeper : MethodName := ⟨RX9, "comesKeeper", "(III)Z"⟩
abbrev cX9_comesLetter : ByteArray := prog_11_method_22_code
def yX9_comesLetter : MethodName := ⟨RX9, "comesLetter", "(II)Z"⟩
abbrev cX9_comesWeeks : ByteArray := prog_11_method_23_code
def yX9_comesWeeks : MethodName := ⟨RX9, "comesWeeks", "(I)Z"⟩
abbrev cX9_comes : ByteArray := prog_11_method_24_code
def yX9_comes : MethodName := ⟨RX9, "comes", "(I)Z"⟩
abbrev cX9_land : ByteArray := prog_11_method_25_code
def yX9_land : MethodName := ⟨RX9, "land", "()I"⟩
abbrev cX9_passes : ByteArray := prog_11_method_26_code
def yX9_passes : MethodName := ⟨RX9, "passes", "([I)V"⟩
abbrev cX9_passOne : ByteArray := prog_11_method_27_code
def yX9_passOne : MethodName := ⟨RX9, "passOne", "(I)I"⟩
abbrev cX9_passesAll : ByteArray := prog_11_method_28_code
def yX9_passesAll : MethodName := ⟨RX9, "passesAll", "(IZ)V"⟩
abbrev cX9_thinks : ByteArray := prog_11_method_29_code
def yX9_thinks : MethodName := ⟨RX9, "thinks", "()V"⟩
abbrev cX9_forgets : ByteArray := prog_11_method_30_code
def yX9_forgets : MethodName := ⟨RX9, "forgets", "()V"⟩
abbrev cX9_changes : ByteArray := prog_11_method_31_code
def yX9_changes : MethodName := ⟨RX9, "changes", "()V"⟩
abbrev cX9_changesBack : ByteArray := prog_11_method_32_code
def yX9_changesBack : MethodName := ⟨RX9, "changesBack", "()V"⟩
abbrev cX9_keepsBack : ByteArray := prog_11_method_33_code
def yX9_keepsBack : MethodName := ⟨RX9, "keepsBack", "()V"⟩
abbrev cX9_back : ByteArray := prog_11_method_34_code
def yX9_back : MethodName := ⟨RX9, "back", "()I"⟩
abbrev cX9_image : ByteArray := prog_11_method_35_code
def yX9_image : MethodName := ⟨RX9, "image", "()I"⟩
abbrev cX9_restore : ByteArray := prog_11_method_36_code
def yX9_restore : MethodName := ⟨RX9, "restore", "()I"⟩
abbrev cX9_addsKeeper : ByteArray := prog_11_method_37_code
def yX9_addsKeeper : MethodName := ⟨RX9, "addsKeeper", "(III)V"⟩
abbrev cX9_addsLetter : ByteArray := prog_11_method_38_code
def yX9_addsLetter : MethodName := ⟨RX9, "addsLetter", "(II)V"⟩
abbrev cX9_fadesOf : ByteArray := prog_11_method_39_code
def yX9_fadesOf : MethodName := ⟨RX9, "fadesOf", "(I)I"⟩
abbrev cX9_stirsOf : ByteArray := prog_11_method_40_code
def yX9_stirsOf : MethodName := ⟨RX9, "stirsOf", "(I)I"⟩
abbrev cX9_payOf : ByteArray := prog_11_method_41_code
def yX9_payOf : MethodName := ⟨RX9, "payOf", "(I)I"⟩
abbrev cX9_areThere : ByteArray := prog_11_method_42_code
def yX9_areThere : MethodName := ⟨RX9, "areThere", "(III)Z"⟩
abbrev cX9_opensAt : ByteArray := prog_11_method_43_code
def yX9_opensAt : MethodName := ⟨RX9, "opensAt", "(II)I"⟩
abbrev cX9_fadesTwo : ByteArray := prog_11_method_44_code
def yX9_fadesTwo : MethodName := ⟨RX9, "fadesTwo", "(II)V"⟩
abbrev cX9_goesWeek : ByteArray := prog_11_method_45_code
def yX9_goesWeek : MethodName := ⟨RX9, "goesWeek", "()V"⟩
abbrev cX9_goesOn : ByteArray := prog_11_method_46_code
def yX9_goesOn : MethodName := ⟨RX9, "goesOn", "(I)V"⟩
abbrev cX9_openOnes : ByteArray := prog_11_method_47_code
def yX9_openOnes : MethodName := ⟨RX9, "openOnes", "()I"⟩
abbrev cX9_allHate : ByteArray := prog_11_method_48_code
def yX9_allHate : MethodName := ⟨RX9, "allHate", "()I"⟩
abbrev cX9_keeperOf : ByteArray := prog_11_method_49_code
def yX9_keeperOf : MethodName := ⟨RX9, "keeperOf", "(II)I"⟩
abbrev cX9_letterOf : ByteArray := prog_11_method_50_code
def yX9_letterOf : MethodName := ⟨RX9, "letterOf", "(II)I"⟩
abbrev cX9_hate : ByteArray := prog_11_method_51_code
def yX9_hate : MethodName := ⟨RX9, "hate", "(II)I"⟩
abbrev cX9_keeper : ByteArray := prog_11_method_52_code
def yX9_keeper : MethodName := ⟨RX9, "keeper", "(III)I"⟩
abbrev cX9_letter : ByteArray := prog_11_method_53_code
def yX9_letter : MethodName := ⟨RX9, "letter", "(II)I"⟩
abbrev cX9_hates : ByteArray := prog_11_method_54_code
def yX9_hates : MethodName := ⟨RX9, "hates", "(III)I"⟩
abbrev cX9_goes : ByteArray := prog_11_method_55_code
def yX9_goes : MethodName := ⟨RX9, "goes", "(II)I"⟩
abbrev cX9_seals : ByteArray := prog_11_method_56_code
def yX9_seals : MethodName := ⟨RX9, "seals", "(I)I"⟩
abbrev cX9_weeks : ByteArray := prog_11_method_57_code
def yX9_weeks : MethodName := ⟨RX9, "weeks", "(I)I"⟩
abbrev cX9_notWeeks : ByteArray := prog_11_method_58_code
def yX9_notWeeks : MethodName := ⟨RX9, "notWeeks", "(I)I"⟩
abbrev cX9_hateIn : ByteArray := prog_11_method_59_code
def yX9_hateIn : MethodName := ⟨RX9, "hateIn", "(III)I"⟩
abbrev cX9_openIn : ByteArray := prog_11_method_60_code
def yX9_openIn : MethodName := ⟨RX9, "openIn", "(I)I"⟩
abbrev cX9_behind : ByteArray := prog_11_method_61_code
def yX9_behind : MethodName := ⟨RX9, "behind", "(III)I"⟩
abbrev cX9_then : ByteArray := prog_11_method_62_code
def yX9_then : MethodName := ⟨RX9, "then", "(II)I"⟩
abbrev cX9_whenOf : ByteArray := prog_11_method_63_code
def yX9_whenOf : MethodName := ⟨RX9, "whenOf", "(I)I"⟩
abbrev cX9_when : ByteArray := prog_11_method_64_code
def yX9_when : MethodName := ⟨RX9, "when", "(II)I"⟩
abbrev cX9_lasts : ByteArray := prog_11_method_65_code
def yX9_lasts : MethodName := ⟨RX9, "lasts", "(III)I"⟩
abbrev cX9_firstOne : ByteArray := prog_11_method_66_code
def yX9_firstOne : MethodName := ⟨RX9, "firstOne", "()I"⟩
abbrev cX9_never : ByteArray := prog_11_method_67_code
def yX9_never : MethodName := ⟨RX9, "never", "(I)I"⟩
abbrev cX9_isOpenedBy : ByteArray := prog_11_method_68_code
def yX9_isOpenedBy : MethodName := ⟨RX9, "isOpenedBy", "(III)Z"⟩
abbrev cX9_insult : ByteArray := prog_11_method_69_code
def yX9_insult : MethodName := ⟨RX9, "insult", "(III)I"⟩
abbrev cX9_manyAt : ByteArray := prog_11_method_70_code
def yX9_manyAt : MethodName := ⟨RX9, "manyAt", "(III)I"⟩
abbrev cX9_send : ByteArray := prog_11_method_71_code
def yX9_send : MethodName := ⟨RX9, "send", "(I)I"⟩
abbrev cX9_places : ByteArray := prog_11_method_72_code
def yX9_places : MethodName := ⟨RX9, "places", "(IIIII)I"⟩
abbrev cX9_manyBy : ByteArray := prog_11_method_73_code
def yX9_manyBy : MethodName := ⟨RX9, "manyBy", "(II)I"⟩
abbrev cX9_payOfAll : ByteArray := prog_11_method_74_code
def yX9_payOfAll : MethodName := ⟨RX9, "payOfAll", "(I)I"⟩
abbrev cX9_fewest : ByteArray := prog_11_method_75_code
def yX9_fewest : MethodName := ⟨RX9, "fewest", "(II)I"⟩
abbrev cX9_keepersIn : ByteArray := prog_11_method_76_code
def yX9_keepersIn : MethodName := ⟨RX9, "keepersIn", "(I)I"⟩
abbrev cX9_pay : ByteArray := prog_11_method_77_code
def yX9_pay : MethodName := ⟨RX9, "pay", "(II)I"⟩
abbrev cX9_deepest : ByteArray := prog_11_method_78_code
def yX9_deepest : MethodName := ⟨RX9, "deepest", "(I)I"⟩
abbrev cX9_findTwos : ByteArray := prog_11_method_79_code
def yX9_findTwos : MethodName := ⟨RX9, "findTwos", "(II)V"⟩
abbrev cX9_pairs : ByteArray := prog_11_method_80_code
def yX9_pairs : MethodName := ⟨RX9, "pairs", "(I)I"⟩
abbrev cX9_worst : ByteArray := prog_11_method_81_code
def yX9_worst : MethodName := ⟨RX9, "worst", "(I)I"⟩
abbrev cX9_opensSo : ByteArray := prog_11_method_82_code
def yX9_opensSo : MethodName := ⟨RX9, "opensSo", "()Z"⟩
abbrev cX9_whoHates : ByteArray := prog_11_method_83_code
def yX9_whoHates : MethodName := ⟨RX9, "whoHates", "(III)I"⟩
abbrev cX9_hatesSo : ByteArray := prog_11_method_84_code
def yX9_hatesSo : MethodName := ⟨RX9, "hatesSo", "(II)Z"⟩
abbrev cX9_bitsFor : ByteArray := prog_11_method_85_code
def yX9_bitsFor : MethodName := ⟨RX9, "bitsFor", "([IIII)I"⟩
abbrev cX9_whatKind : ByteArray := prog_11_method_86_code
def yX9_whatKind : MethodName := ⟨RX9, "whatKind", "(III)I"⟩
abbrev cX9_divisor : ByteArray := prog_11_method_87_code
def yX9_divisor : MethodName := ⟨RX9, "divisor", "(JJ)J"⟩
abbrev cX9_partOf : ByteArray := prog_11_method_88_code
def yX9_partOf : MethodName := ⟨RX9, "partOf", "(JJI)J"⟩
abbrev cX9_partsOf : ByteArray := prog_11_method_89_code
def yX9_partsOf : MethodName := ⟨RX9, "partsOf", "(III)J"⟩
abbrev cX9_power : ByteArray := prog_11_method_90_code
def yX9_power : MethodName := ⟨RX9, "power", "(II)J"⟩
abbrev cX9_jug : ByteArray := prog_11_method_91_code
def yX9_jug : MethodName := ⟨RX9, "jug", "(IIII)J"⟩
abbrev cX9_getsOf : ByteArray := prog_11_method_92_code
def yX9_getsOf : MethodName := ⟨RX9, "getsOf", "(IIII)I"⟩
abbrev cX9_two : ByteArray := prog_11_method_93_code
def yX9_two : MethodName := ⟨RX9, "two", "(II)I"⟩
abbrev cX9_isOpenMeeting : ByteArray := prog_11_method_94_code
def yX9_isOpenMeeting : MethodName := ⟨RX9, "isOpenMeeting", "(IIIII)Z"⟩
abbrev cX9_meetings : ByteArray := prog_11_method_95_code
def yX9_meetings : MethodName := ⟨RX9, "meetings", "(IIIIII)J"⟩
abbrev cX9_fullest : ByteArray := prog_11_method_96_code
def yX9_fullest : MethodName := ⟨RX9, "fullest", "(I)I"⟩
abbrev cX9_thickest : ByteArray := prog_11_method_97_code
def yX9_thickest : MethodName := ⟨RX9, "thickest", "()I"⟩
abbrev cX9_hatesOf : ByteArray := prog_11_method_98_code
def yX9_hatesOf : MethodName := ⟨RX9, "hatesOf", "(I)I"⟩
abbrev cX9_mildest : ByteArray := prog_11_method_99_code
def yX9_mildest : MethodName := ⟨RX9, "mildest", "()I"⟩
abbrev cX9_bare : ByteArray := prog_11_method_100_code
def yX9_bare : MethodName := ⟨RX9, "bare", "()I"⟩
abbrev cX9_mean : ByteArray := prog_11_method_101_code
def yX9_mean : MethodName := ⟨RX9, "mean", "(I)J"⟩
abbrev cX9_used : ByteArray := prog_11_method_102_code
def yX9_used : MethodName := ⟨RX9, "used", "(III)I"⟩
abbrev cX9_manySwapped : ByteArray := prog_11_method_103_code
def yX9_manySwapped : MethodName := ⟨RX9, "manySwapped", "(III)I"⟩
abbrev cX9_swap : ByteArray := prog_11_method_104_code
def yX9_swap : MethodName := ⟨RX9, "swap", "(I)I"⟩
abbrev cX9_apart : ByteArray := prog_11_method_105_code
def yX9_apart : MethodName := ⟨RX9, "apart", "(I)I"⟩
abbrev cX9_enemy : ByteArray := prog_11_method_106_code
def yX9_enemy : MethodName := ⟨RX9, "enemy", "(I)I"⟩
abbrev cX9_can : ByteArray := prog_11_method_107_code
def yX9_can : MethodName := ⟨RX9, "can", "(I)I"⟩
abbrev cX9_row : ByteArray := prog_11_method_108_code
def yX9_row : MethodName := ⟨RX9, "row", "(I)I"⟩
abbrev cX9_judge : ByteArray := prog_11_method_109_code
def yX9_judge : MethodName := ⟨RX9, "judge", "(I)I"⟩
abbrev cX9_clear : ByteArray := prog_11_method_110_code
def yX9_clear : MethodName := ⟨RX9, "clear", "()I"⟩
abbrev cX9_draw : ByteArray := prog_11_method_111_code
def yX9_draw : MethodName := ⟨RX9, "draw", "(I)I"⟩
abbrev cX9_lots : ByteArray := prog_11_method_112_code
def yX9_lots : MethodName := ⟨RX9, "lots", "(III)I"⟩
abbrev cX9_count : ByteArray := prog_11_method_113_code
def yX9_count : MethodName := ⟨RX9, "count", "(I)I"⟩
def RJ6 : String := "java/lang/Integer"
def TJ6 : u_T := fun k => match k with
  | _ => ("", "", "", false)
def tyJ6 : Nat → FieldType := fun k => match k with
  | _ => .int
abbrev wsJ60 : List Cond := u_ws RJ6 TJ6 0
theorem nmJ6 : ∀ a, a < 0 → ∀ b, b < 0 → a ≠ b → (TJ6 a).2.1 ≠ (TJ6 b).2.1 := by decide +kernel
theorem tyJ6_ok : ∀ k, k < 0 → parseFieldDescriptor (TJ6 k).2.2.1 = some (tyJ6 k) := by decide +kernel
abbrev cJ6_bitCount_0f7a4 : ByteArray := prog_12_method_49_code
def yJ6_bitCount_0f7a4 : MethodName := ⟨RJ6, "bitCount", "(I)I"⟩
def RJ9 : String := "java/lang/Math"
def TJ9 : u_T := fun k => match k with
  | _ => ("", "", "", false)
def tyJ9 : Nat → FieldType := fun k => match k with
  | _ => .int
abbrev wsJ90 : List Cond := u_ws RJ9 TJ9 0
theorem nmJ9 : ∀ a, a < 0 → ∀ b, b < 0 → a ≠ b → (TJ9 a).2.1 ≠ (TJ9 b).2.1 := by decide +kernel
theorem tyJ9_ok : ∀ k, k < 0 → parseFieldDescriptor (TJ9 k).2.2.1 = some (tyJ9 k) := by decide +kernel
abbrev cJ9_max_7cf53 : ByteArray := prog_13_method_65_code
def yJ9_max_7cf53 : MethodName := ⟨RJ9, "max", "(II)I"⟩
abbrev cJ9_min_7cf53 : ByteArray := prog_13_method_69_code
def yJ9_min_7cf53 : MethodName := ⟨RJ9, "min", "(II)I"⟩
def RJ10 : String := "java/lang/System"
def TJ10 : u_T := fun k => match k with
  | _ => ("", "", "", false)
def tyJ10 : Nat → FieldType := fun k => match k with
  | _ => .int
abbrev wsJ100 : List Cond := u_ws RJ10 TJ10 0
theorem nmJ10 : ∀ a, a < 0 → ∀ b, b < 0 → a ≠ b → (TJ10 a).2.1 ≠ (TJ10 b).2.1 := by decide +kernel
theorem tyJ10_ok : ∀ k, k < 0 → parseFieldDescriptor (TJ10 k).2.2.1 = some (tyJ10 k) := by decide +kernel
def RJ7 : String := "java/util/Arrays"
def TJ7 : u_T := fun k => match k with
  | _ => ("", "", "", false)
def tyJ7 : Nat → FieldType := fun k => match k with
  | _ => .int
abbrev wsJ70 : List Cond := u_ws RJ7 TJ7 0
theorem nmJ7 : ∀ a, a < 0 → ∀ b, b < 0 → a ≠ b → (TJ7 a).2.1 ≠ (TJ7 b).2.1 := by decide +kernel
theorem tyJ7_ok : ∀ k, k < 0 → parseFieldDescriptor (TJ7 k).2.2.1 = some (tyJ7 k) := by decide +kernel
abbrev cJ7_fill_53178 : ByteArray := prog_15_method_103_code
def yJ7_fill_53178 : MethodName := ⟨RJ7, "fill", "([II)V"⟩
def RL : String := "OnlyTwoEnemiesLaw"
abbrev cL_law : ByteArray := code
def yL_law : MethodName := ⟨RL, "law", "([I)Z"⟩
abbrev vwCl : List vw_C := [(RX1, TX1, 11), (RX3, TX3, 2), (RX4, TX4, 2), (RX5, TX5, 3), (RX6, TX6, 2), (RX7, TX7, 2), (RX8, TX8, 10), (RX9, TX9, 31)]
end
section
/-! the world: cells by number; st k j: the int in place j of cell k -/
abbrev St : Type := Nat → Nat → Int32
def u1 (st : St) (k : Nat) (f : Nat → Int32) : St := fun j => if j = k then f else st j
def u2 (st : St) (k j : Nat) (v : Int32) : St := u1 st k (upd (st k) j v)
abbrev Sy : Type := va_G × ClassId × ClassId × (Nat → Nat)
abbrev En : Type := Sy → Nat → (Nat → Int32) → va_E
abbrev ad (y : Sy) (k : Nat) : Nat := y.2.2.2 k
def gW (N : Nat) (en : En) (y : Sy) (st : St) : va_W := (List.range N).map fun k => (ad y k, en y k (st k))
theorem gW_at {N : Nat} {en : En} {y : Sy} {st : St} {k : Nat} (hk : k < N) : (gW N en y st)[k]? = some (ad y k, en y k (st k)) := by
  simp [gW, hk]
theorem gW_set {N : Nat} {en : En} {y : Sy} {st : St} {k : Nat} (hk : k < N) (f : Nat → Int32) : (gW N en y st).set k (ad y k, en y k f) = gW N en y (u1 st k f) := by
  apply List.ext_getElem?
  intro i
  by_cases hi : i = k
  · subst hi
    rw [List.getElem?_set_self (by simp [gW, hk]), gW_at hk]
    simp [u1]
  · rw [List.getElem?_set_ne (fun h => hi h.symm)]
    by_cases hl : i < N
    · rw [gW_at hl, gW_at hl]; simp [u1, hi]
    · simp [gW, hl]
def gA (N : Nat) (y : Sy) : Nat → Prop := fun q => ∃ k, k < N ∧ q = ad y k
abbrev gT (y : Sy) : List (ClassId × FieldType) := [(y.2.1, .int), (y.2.2.1, .object "OnlyTwoEnemies$Country")]
def gB (N : Nat) (en : En) (y : Sy) (st : St) (U : State) : Prop := va_P y.1 vwCl (gW N en y st) U.heap ∧ va_K y.1 vwCl (gT y) U ∧ va_D (gA N y) (gW N en y st)
def gH (N : Nat) (en : En) (y : Sy) (st : St) (s : State) (H : Heap) (locs : List Loc) : Prop := va_P y.1 vwCl (gW N en y st) H ∧ va_D (gA N y) (gW N en y st) ∧ va_S (gA N y) s.heap H locs
def isNest : Cond → Bool
  | .methodLinkNest .. => true
  | _ => false
def nW (U : State) : Prop := ∀ w ∈ lw_tbl, isNest w = true → va_Nw w U
theorem nW.warm {s U : State} (hW : s.WarmedH U.vm) (h : nW s) : nW U := by
  intro w hw hn
  cases w <;> first | (cases hn; done) | exact va_Nw.warmM hW (h _ hw hn)
theorem nW.same {s U : State} (hv : s.vm = U.vm) (h : nW s) : nW U := by
  intro w hw hn
  cases w <;> first | (cases hn; done) | exact va_Nw.same rfl hv (h _ hw hn)
def gP (N : Nat) (en : En) (y : Sy) (st : St) (U : State) : Prop := gB N en y st U ∧ nW U
def cw (Y : MethodName) (b : ByteArray) (n : Nat) (ret : Option FieldType) : List Cond := .code Y b n ret :: lw_g
abbrev rmm (fr lo : Nat) : Room := { frames := fr, cells := 0, slots := 0, locals := lo }
abbrev Ci (N : Nat) (en : En) (l : Launch) (Y : MethodName) (b : ByteArray) (n : Nat) (ret : Option FieldType) (fr lo : Nat) (y : Sy) (av : List Value) (st : St) (K : Int32 → St → Prop) : Prop :=
  Met l Y (cw Y b n ret) (rmm fr lo) (va_Pc av (gP N en y st)) (va_Qi K (gB N en y) (gA N y)) 0 0 (gA N y)
abbrev Cl (N : Nat) (en : En) (l : Launch) (Y : MethodName) (b : ByteArray) (n : Nat) (ret : Option FieldType) (fr lo : Nat) (y : Sy) (av : List Value) (st : St) (K : Int64 → St → Prop) : Prop :=
  Met l Y (cw Y b n ret) (rmm fr lo) (va_Pc av (gP N en y st)) (va_Ql K (gB N en y) (gA N y)) 0 0 (gA N y)
abbrev Cv (N : Nat) (en : En) (l : Launch) (Y : MethodName) (b : ByteArray) (n : Nat) (ret : Option FieldType) (fr lo : Nat) (y : Sy) (av : List Value) (st : St) (K : St → Prop) : Prop :=
  Met l Y (cw Y b n ret) (rmm fr lo) (va_Pc av (gP N en y st)) (va_Qv K (gB N en y) (gA N y)) 0 0 (gA N y)
/-- what every row of a method's body needs -/
def Sd (p : Program) (s : State) (m : MethodId) (args : Array Value) (meth : Method) (c : Code) (cc : ByteArray) (nL : Nat) (own : String) (ret : Option FieldType) (y : Sy) : Prop :=
  p.tables.exec = Jvm.exec ∧ c.code = cc ∧ c.maxLocals = nL ∧ s.vm.findClass own = some m.cls ∧ (∀ w ∈ lw_g, w.before args s = true) ∧ meth.sig.returnType = ret ∧ meth.locks = false ∧ va_K y.1 vwCl (gT y) s ∧ nW s
theorem gB_blind {N : Nat} {en : En} {y : Sy} {st : St} {av : List Value} : FrameBlind (va_Pc av (gP N en y st)) := fun a U g mk q => by
  obtain ⟨e, ⟨qP, qK, qD⟩, qN⟩ := q
  exact ⟨e, ⟨qP, va_K.moved (u := U) (U := U.calling g mk a) (Vm.Alike.refl U.vm) qK, qD⟩, nW.same (s := U) (U := U.calling g mk a) rfl qN⟩
theorem ent {l : Launch} {Y : MethodName} {cc : ByteArray} {n : Nat} {ret : Option FieldType} {fr lo N : Nat} {en : En} {y : Sy} {av : List Value} {st : St} {Qc : Array Value → State → Outcome → State → Prop} (hcls : plainName Y.cls = true) (hlen : (lg_sl av).length ≤ n)
    (body : ∀ (p : Program) (e : Env) (s : State) (m : MethodId) (below : List Frame) (meth : Method) (c : Code), Sd p s m av.toArray meth c cc n Y.cls ret y → gH N en y st s s.heap [] → ∀ ls : Array Slot, lv_has ls n (lv_args 0 av) →
      W p l e (rmm fr lo) s m av.toArray below meth c s.heap [] 0 0 (MQ below Qc av.toArray s 0 0 (gA N y)) (F0 m 0 ls [])) :
    Met l Y (cw Y cc n ret) (rmm fr lo) (va_Pc av (gP N en y st)) Qc 0 0 (gA N y) := by
  refine Met.ofW (cc := cc) (maxL := n) (ret := ret) hcls rfl ?_
  intro p e s m args below meth c s₁ B hml hv
  obtain ⟨rfl, ⟨hP, hK, hD⟩, hN⟩ := hv
  have hts := atoms_spec (ws := cw Y cc n ret) B.pre
  have hown : s.vm.findClass Y.cls = some m.cls := findClass_of_methodNamed B.named
  rw [lg_entry_eq]
  exact body p e s m below meth c ⟨B.exec, B.bytes, hml, hown, fun w h => hts w (List.mem_cons_of_mem _ h), B.returns, B.notSynchronized, hK, hN⟩ ⟨hP, hD, va_S.rf⟩ _ (lv_entry av hlen)
section Rows
variable {p : Program} {l : Launch} {e : Env} {R : Room} {s : State} {m : MethodId} {args : Array Value} {below : List Frame} {meth : Method} {c : Code} {H : Heap} {locs : List Loc} {Q : State → Prop} {cc : ByteArray} {pc : Nat} {ls : Array Slot} {rest : List Value} {N : Nat} {en : En} {y : Sy} {st : St} {own : String}
theorem r_get (hx : p.tables.exec = Jvm.exec) (hb : c.code = cc) (hts : ∀ w ∈ lw_g, w.before args s = true) (hown : s.vm.findClass own = some m.cls) (hK : va_K y.1 vwCl (gT y) s) (hG : gH N en y st s H locs) {k ci idx Nf : Nat} {C : String} {T : u_T} {fs : List Value} {v : Value} (hk : k < N) (he : en y k (st k) = .inr (ci, fs)) (hc : vwCl[ci]? = some (C, T, Nf)) (hin : ∀ w ∈ u_ws C T Nf, w ∈ lw_g) (j : Nat) (hj : j < Nf)
    (hl : Cond.fieldLink own idx (T j).1 (T j).2.1 (T j).2.2.1 ∈ lw_g) (hv : fs[j]? = some v) (d : decode cc pc = .ok (.getfield idx, 3)) (kk : W p l e R s m args below meth c H locs 0 0 Q (F0 m (pc + 3) ls (v :: rest))) : W p l e R s m args below meth c H locs 0 0 Q (F0 m pc ls (.ref (ad y k) :: rest)) :=
  va_get hx hb hts hin hown hK hG.1 k (by rw [gW_at hk, he]) hc j hj (hts _ hl) (fun x h => h) hv d kk
theorem r_put (hx : p.tables.exec = Jvm.exec) (hb : c.code = cc) (hts : ∀ w ∈ lw_g, w.before args s = true) (hown : s.vm.findClass own = some m.cls) (hK : va_K y.1 vwCl (gT y) s) (hG : gH N en y st s H locs) {k ci idx Nf : Nat} {C : String} {T : u_T} {fs : List Value} {ty0 : Nat → FieldType} (hk : k < N) (he : en y k (st k) = .inr (ci, fs)) (hc : vwCl[ci]? = some (C, T, Nf)) (hin : ∀ w ∈ u_ws C T Nf, w ∈ lw_g) (hty : ∀ k, k < Nf → parseFieldDescriptor (T k).2.2.1 = some (ty0 k)) (hnm : ∀ a, a < Nf → ∀ b, b < Nf → a ≠ b → (T a).2.1 ≠ (T b).2.1) (j : Nat) (hj : j < Nf)
    (hl : Cond.fieldLink own idx (T j).1 (T j).2.1 (T j).2.2.1 ∈ lw_g) (hfin : (T j).2.2.2 = false) (v : Int32) (hes : en y k (upd (st k) j v) = .inr (ci, fs.set j (.int v))) (hn : narrow (ty0 j) (.int v) = .int v) (hfit : fits (ty0 j) (.int v) = true) (hl2 : j < fs.length) (d : decode cc pc = .ok (.putfield idx, 3))
    (kk : ∀ (H1 : Heap) (locs1 : List Loc), gH N en y (u2 st k j v) s H1 locs1 → W p l e R s m args below meth c H1 locs1 0 0 Q (F0 m (pc + 3) ls rest)) : W p l e R s m args below meth c H locs 0 0 Q (F0 m pc ls (.int v :: .ref (ad y k) :: rest)) :=
  va_put hx hb hts hin ty0 hty hnm hown hK hG.1 hG.2.1 hG.2.2 k (by rw [gW_at hk, he]) hc j hj (hts _ hl) (fun x h => h) hfin (hty j hj) hn hfit hl2 d fun H1 locs1 h1 h2 h3 => kk H1 locs1 (by
    rw [← hes, gW_set hk] at h1 h2
    exact ⟨h1, h2, h3⟩)
theorem r_iald (hx : p.tables.exec = Jvm.exec) (hb : c.code = cc) (hK : va_K y.1 vwCl (gT y) s) (hG : gH N en y st s H locs) {k n : Nat} (hk : k < N) (he : en y k (st k) = .inl (y.2.1, n, .inl (st k))) {i : Int32} (hi : vp_in i n) (d : decode cc pc = .ok (.iaload, 1))
    (kk : W p l e R s m args below meth c H locs 0 0 Q (F0 m (pc + 1) ls (.int (st k i.toNatClampNeg) :: rest))) : W p l e R s m args below meth c H locs 0 0 Q (F0 m pc ls (.int i :: .ref (ad y k) :: rest)) :=
  va_iald hx hb hK hG.1 k 0 (by rw [gW_at hk, he]) rfl hi d kk
theorem r_iast (hx : p.tables.exec = Jvm.exec) (hb : c.code = cc) (hK : va_K y.1 vwCl (gT y) s) (hG : gH N en y st s H locs) {k n : Nat} (hk : k < N) (he : ∀ f, en y k f = .inl (y.2.1, n, .inl f)) {i v : Int32} (hi : vp_in i n) (d : decode cc pc = .ok (.iastore, 1))
    (kk : ∀ (H1 : Heap) (locs1 : List Loc), gH N en y (u2 st k i.toNatClampNeg v) s H1 locs1 → W p l e R s m args below meth c H1 locs1 0 0 Q (F0 m (pc + 1) ls rest)) : W p l e R s m args below meth c H locs 0 0 Q (F0 m pc ls (.int v :: .int i :: .ref (ad y k) :: rest)) :=
  va_iast hx hb hK hG.1 hG.2.1 hG.2.2 k 0 (by rw [gW_at hk, he]) rfl hi d fun H1 locs1 h1 h2 h3 => kk H1 locs1 (by
    rw [← he, gW_set hk] at h1 h2
    exact ⟨h1, h2, h3⟩)
theorem r_alen (hx : p.tables.exec = Jvm.exec) (hb : c.code = cc) (hK : va_K y.1 vwCl (gT y) s) (hG : gH N en y st s H locs) {k n : Nat} {v : Int32} (hk : k < N) (he : en y k (st k) = .inl (y.2.1, n, .inl (st k))) (hv : Int32.ofNat n = v) (d : decode cc pc = .ok (.arraylength, 1))
    (kk : W p l e R s m args below meth c H locs 0 0 Q (F0 m (pc + 1) ls (.int v :: rest))) : W p l e R s m args below meth c H locs 0 0 Q (F0 m pc ls (.ref (ad y k) :: rest)) :=
  va_alen hx hb hK hG.1 k 0 (by rw [gW_at hk, he]) rfl hv d kk
theorem r_iret (hx : p.tables.exec = Jvm.exec) (hb : c.code = cc) {ty : FieldType} (hr : meth.sig.returnType = some ty) (hlk : meth.locks = false) (hK : va_K y.1 vwCl (gT y) s) (hG : gH N en y st s H locs) {K : Int32 → St → Prop} {v : Int32} (hn : narrow ty (.int v) = .int v) (hw : K v st) (d : decode cc pc = .ok (.ireturn, 1)) :
    W p l e R s m args below meth c H locs 0 0 (MQ below (va_Qi K (gB N en y) (gA N y)) args s 0 0 (gA N y)) (F0 m pc ls [.int v]) :=
  W.zret hx hb hr hn (fun t ht hW => ⟨⟨v, st, rfl, hw, by rw [ht]; exact hG.1, va_K.moved hW.alike hK, hG.2.1⟩, hG.2.2.F ht⟩) hG.2.2.2.2 d hlk
theorem r_lret (hx : p.tables.exec = Jvm.exec) (hb : c.code = cc) (hr : meth.sig.returnType = some .long) (hlk : meth.locks = false) (hK : va_K y.1 vwCl (gT y) s) (hG : gH N en y st s H locs) {K : Int64 → St → Prop} {v : Int64} (hw : K v st) (d : decode cc pc = .ok (.lreturn, 1)) :
    W p l e R s m args below meth c H locs 0 0 (MQ below (va_Ql K (gB N en y) (gA N y)) args s 0 0 (gA N y)) (F0 m pc ls [.long v]) :=
  W.lret hx hb hr (fun t ht hW => ⟨⟨v, st, rfl, hw, by rw [ht]; exact hG.1, va_K.moved hW.alike hK, hG.2.1⟩, hG.2.2.F ht⟩) hG.2.2.2.2 d hlk
theorem r_vret (hx : p.tables.exec = Jvm.exec) (hb : c.code = cc) (hr : meth.sig.returnType = none) (hlk : meth.locks = false) (hK : va_K y.1 vwCl (gT y) s) (hG : gH N en y st s H locs) {K : St → Prop} (hw : K st) (d : decode cc pc = .ok (.return_, 1)) :
    W p l e R s m args below meth c H locs 0 0 (MQ below (va_Qv K (gB N en y) (gA N y)) args s 0 0 (gA N y)) (F0 m pc ls []) :=
  W.vret hx hb hr (fun t ht hW => ⟨⟨st, rfl, hw, by rw [ht]; exact hG.1, va_K.moved hW.alike hK, hG.2.1⟩, hG.2.2.F ht⟩) hG.2.2.2.2 d hlk
/-- what a call gives back, by the world -/
theorem g_back {H1 : Heap} {locs1 : List Loc} {t : State} {st' : St} (ht : t.heap = H1) (hB : gB N en y st' t) (hS : va_S (gA N y) s.heap H1 locs1) : gH N en y st' s H1 locs1 := by
  obtain ⟨h1, -, h3⟩ := hB
  rw [ht] at h1
  exact ⟨h1, h3, hS⟩
theorem g_pre {av : List Value} (hK : va_K y.1 vwCl (gT y) s) (hN : nW s) (hG : gH N en y st s H locs) : ∀ U : State, U.heap = H → s.WarmedH U.vm → va_Pc av (gP N en y st) av.toArray U := fun U hU hW => ⟨rfl, ⟨by rw [hU]; exact hG.1, va_K.moved hW.alike hK, hG.2.1⟩, hN.warm hW⟩
variable {Y : MethodName} {b : ByteArray} {nY idx fr lo nL : Nat} {rt : Option FieldType} {As stk : List Value}
theorem r_run_V {k ci : Nat} {q : vw_C} {fs : List Value} {Qc : Array Value → State → Outcome → State → Prop} (hx : p.tables.exec = Jvm.exec) (hb : c.code = cc) (hml : c.maxLocals = nL) (hown : s.vm.findClass own = some m.cls) (hts : ∀ w ∈ lw_g, w.before args s = true) (hK : va_K y.1 vwCl (gT y) s) (hN : nW s) (hG : gH N en y st s H locs)
    (hM : Met l Y (cw Y b nY rt) (rmm fr lo) (va_Pc (.ref (ad y k) :: As) (gP N en y st)) Qc 0 0 (gA N y)) (hk : k < N) (he : en y k (st k) = .inr (ci, fs)) (hc : vwCl[ci]? = some q) (hq : q.1 = Y.cls)
    (q1 : Cond.methodLink own idx Y ∈ lw_g) (q2 : Cond.instanceMethod Y ∈ lw_g) (q3 : Cond.selects Y.cls Y Y ∈ lw_g) (q4 : Cond.initialized Y.cls ∈ lw_g) (q5 : Cond.code Y b nY rt ∈ lw_g)
    (hd : Y.cls ≠ "java/lang/invoke/MethodHandle" ∧ Y.cls ≠ "java/lang/invoke/VarHandle" ∧ (parseMethodDescriptor Y.desc).map (fun d => d.parameters.length) = some As.length) (hR : fr + 1 ≤ R.frames ∧ 8 + (nY + 11) + lo ≤ R.locals)
    (hsize : ls.size = nL) (hstk : stk = As.reverse ++ .ref (ad y k) :: rest) (hW : (rest.map fun v => v.category).sum ≤ 8) (d : decode cc pc = .ok (.invokevirtual idx, 3)) :
    va_Run p l e R s m args below meth c H locs 0 0 0 0 (F0 m pc ls stk) rest (Qc (Value.ref (ad y k) :: As).toArray) (gA N y) :=
  va_runV (As := As) (rest := rest) ⟨hx, hb, hml, hown, hts⟩ hM
    (cwV (C := Y.cls) As.length hts (lw_gi (by
      intro w hw
      simp only [wsV, List.mem_append, List.mem_cons, List.not_mem_nil, or_false, cw] at hw
      rcases hw with (rfl | rfl | rfl | rfl) | (rfl | h)
      · exact q1
      · exact q2
      · exact q3
      · exact q4
      · exact q5
      · exact h)) rfl rfl rfl ⟨rfl, hd⟩ hR)
    ⟨gB_blind, by rw [← hq]; exact va_recv hK hG.1 (ci := ci) (q0 := k) hc (by rw [gW_at hk, he]), g_pre hK hN hG⟩ rfl rfl hsize hstk (lv_room hW) d ⟨Nat.zero_le _, Nat.zero_le _⟩
theorem r_run_S {Qc : Array Value → State → Outcome → State → Prop} (hx : p.tables.exec = Jvm.exec) (hb : c.code = cc) (hml : c.maxLocals = nL) (hown : s.vm.findClass own = some m.cls) (hts : ∀ w ∈ lw_g, w.before args s = true) (hK : va_K y.1 vwCl (gT y) s) (hN : nW s) (hG : gH N en y st s H locs)
    (hM : Met l Y (cw Y b nY rt) (rmm fr lo) (va_Pc As (gP N en y st)) Qc 0 0 (gA N y))
    (q1 : Cond.methodLink own idx Y ∈ lw_g) (q2 : Cond.static Y ∈ lw_g) (q4 : Cond.initialized Y.cls ∈ lw_g) (q5 : Cond.code Y b nY rt ∈ lw_g)
    (hd : Y.cls ≠ "java/lang/invoke/MethodHandle" ∧ Y.cls ≠ "java/lang/invoke/VarHandle" ∧ (parseMethodDescriptor Y.desc).map (fun d => d.parameters.length) = some As.length) (hR : fr + 1 ≤ R.frames ∧ 8 + (nY + 11) + lo ≤ R.locals)
    (hsize : ls.size = nL) (hstk : stk = As.reverse ++ rest) (hW : (rest.map fun v => v.category).sum ≤ 8) (d : decode cc pc = .ok (.invokestatic idx, 3)) :
    va_Run p l e R s m args below meth c H locs 0 0 0 0 (F0 m pc ls stk) rest (Qc As.toArray) (gA N y) :=
  va_runS (As := As) (rest := rest) ⟨hx, hb, hml, hown, hts⟩ hM
    (va_cwS As.length hts (lw_gi (by
      intro w hw
      simp only [va_wsS, List.mem_append, List.mem_cons, List.not_mem_nil, or_false, cw] at hw
      rcases hw with (rfl | rfl | rfl) | (rfl | h)
      · exact q1
      · exact q2
      · exact q4
      · exact q5
      · exact h)) rfl rfl rfl hd hR)
    ⟨gB_blind, g_pre hK hN hG⟩ rfl rfl hsize hstk (lv_room hW) d ⟨Nat.zero_le _, Nat.zero_le _⟩
theorem r_run_N {host : String} {Qc : Array Value → State → Outcome → State → Prop} (hx : p.tables.exec = Jvm.exec) (hb : c.code = cc) (hml : c.maxLocals = nL) (hown : s.vm.findClass own = some m.cls) (hts : ∀ w ∈ lw_g, w.before args s = true) (hK : va_K y.1 vwCl (gT y) s) (hN : nW s) (hG : gH N en y st s H locs)
    (hM : Met l Y (cw Y b nY rt) (rmm fr lo) (va_Pc As (gP N en y st)) Qc 0 0 (gA N y))
    (q1 : Cond.methodLinkNest own idx Y host ∈ lw_tbl) (q2 : Cond.static Y ∈ lw_g) (q4 : Cond.initialized Y.cls ∈ lw_g) (q5 : Cond.code Y b nY rt ∈ lw_g)
    (hd : Y.cls ≠ "java/lang/invoke/MethodHandle" ∧ Y.cls ≠ "java/lang/invoke/VarHandle" ∧ (parseMethodDescriptor Y.desc).map (fun d => d.parameters.length) = some As.length) (hR : fr + 1 ≤ R.frames ∧ 8 + (nY + 11) + lo ≤ R.locals)
    (hsize : ls.size = nL) (hstk : stk = As.reverse ++ rest) (hW : (rest.map fun v => v.category).sum ≤ 8) (d : decode cc pc = .ok (.invokestatic idx, 3)) :
    va_Run p l e R s m args below meth c H locs 0 0 0 0 (F0 m pc ls stk) rest (Qc As.toArray) (gA N y) :=
  va_runSN (As := As) (rest := rest) ⟨hx, hb, hml, hown, hts⟩ hM
    ⟨va_cnB (ws' := lw_g) As.length hts (lw_gi (by
      intro w hw
      simp only [List.mem_cons, cw] at hw
      rcases hw with rfl | h
      · exact q5
      · exact h)) rfl rfl rfl (hN _ q1 rfl) (hts _ q4) hd hR, hts _ q2, trivial⟩
    ⟨gB_blind, g_pre hK hN hG⟩ rfl rfl hsize hstk (lv_room hW) d ⟨Nat.zero_le _, Nat.zero_le _⟩
theorem r_ki {K : Int32 → St → Prop} {a : Array Value} (hr : va_Run p l e R s m args below meth c H locs 0 0 0 0 (F0 m pc ls stk) rest (va_Qi K (gB N en y) (gA N y) a) (gA N y)) (hG : gH N en y st s H locs)
    (kk : ∀ (r : Int32) (st' : St) (H1 : Heap) (locs1 : List Loc), K r st' → gH N en y st' s H1 locs1 → W p l e R s m args below meth c H1 locs1 0 0 Q (F0 m (pc + 3) ls (.int r :: rest))) : W p l e R s m args below meth c H locs 0 0 Q (F0 m pc ls stk) :=
  va_calli hr hG.2.2 (fun _ _ h => h) (fun _ h => h) fun r u t H1 locs1 ht _ hp hB _ _ hS => kk r u H1 locs1 hp (g_back ht hB hS)
theorem r_kl {K : Int64 → St → Prop} {a : Array Value} (hr : va_Run p l e R s m args below meth c H locs 0 0 0 0 (F0 m pc ls stk) rest (va_Ql K (gB N en y) (gA N y) a) (gA N y)) (hG : gH N en y st s H locs)
    (kk : ∀ (r : Int64) (st' : St) (H1 : Heap) (locs1 : List Loc), K r st' → gH N en y st' s H1 locs1 → W p l e R s m args below meth c H1 locs1 0 0 Q (F0 m (pc + 3) ls (.long r :: rest))) : W p l e R s m args below meth c H locs 0 0 Q (F0 m pc ls stk) :=
  va_calll hr hG.2.2 (fun _ _ h => h) (fun _ h => h) fun r u t H1 locs1 ht _ hp hB _ _ hS => kk r u H1 locs1 hp (g_back ht hB hS)
theorem r_kv {K : St → Prop} {a : Array Value} (hr : va_Run p l e R s m args below meth c H locs 0 0 0 0 (F0 m pc ls stk) rest (va_Qv K (gB N en y) (gA N y) a) (gA N y)) (hG : gH N en y st s H locs)
    (kk : ∀ (st' : St) (H1 : Heap) (locs1 : List Loc), K st' → gH N en y st' s H1 locs1 → W p l e R s m args below meth c H1 locs1 0 0 Q (F0 m (pc + 3) ls rest)) : W p l e R s m args below meth c H locs 0 0 Q (F0 m pc ls stk) :=
  va_callv hr hG.2.2 (fun _ _ h => h) (fun _ h => h) fun u t H1 locs1 ht _ hp hB _ _ hS => kk u H1 locs1 hp (g_back ht hB hS)
end Rows
end
section
/-! the class's cells: 0 the object, 1 refusals, 2 past, 3 earlier, 4 telling, 5 signs, 6 row, 7 numbers, 8 look, 9 twosAmong, 10 mind, 11 + 8 i .. : country i (0 now, 1 draft, 2 kept, 3 .. 10 earlier, 11 ahead); the check's: 0 the object, 1 .. 16 its rows -/
def eC (y : Sy) (k : Nat) (f : Nat → Int32) : va_E := .inr (0, [.ref (ad y (k + 1)), .ref (ad y (k + 2)), .ref (ad y (k + 3)), .ref (ad y (k + 4)), .ref (ad y (k + 5)), .ref (ad y (k + 6)), .ref (ad y (k + 7)), .int (f 7), .int (f 8), .int (f 9), .int (f 10)])
def eA (y : Sy) (n : Nat) (f : Nat → Int32) : va_E := .inl (y.2.1, n, .inl f)
def enX (y : Sy) (k : Nat) (f : Nat → Int32) : va_E :=
  match k with
  | 0 => .inr (6, [.ref (ad y 11), .ref (ad y 19), .ref (ad y 27), .int (f 3), .ref (ad y 2), .ref (ad y 4), .ref (ad y 6), .ref (ad y 8), .ref (ad y 10), .ref (ad y 1)])
  | 1 => eA y 7 f
  | 2 => .inr (3, [.ref (ad y 3), .int (f 1), .int (f 2)])
  | 3 => .inl (y.2.2.1, 8, .inr (.inr (.inr (.inr (fun j => some (ad y (35 + 8 * j)))))))
  | 4 => .inr (5, [.ref (ad y 5), .int (f 1)])
  | 5 => eA y 96 f
  | 6 => .inr (4, [.ref (ad y 7), .int (f 1)])
  | 7 => eA y 12 f
  | 8 => .inr (1, [.ref (ad y 11), .ref (ad y 9)])
  | 9 => eA y 64 f
  | 10 => .inr (2, [.ref (ad y 11), .ref (ad y 99)])
  | n + 11 => match n % 8 with
    | 0 => eC y (n + 11) f
    | 4 => eA y 36 f
    | _ => eA y 6 f
def isC (k : Nat) : Prop := ∃ i, i < 12 ∧ k = 8 * i + 11
theorem isC_at {i : Nat} (h : i < 12) : isC (8 * i + 11) := ⟨i, h, rfl⟩
theorem isC.lt {k : Nat} (h : isC k) : k < 107 := by obtain ⟨i, h1, rfl⟩ := h; omega
theorem isC.e {k : Nat} (h : isC k) (y : Sy) (f : Nat → Int32) : enX y k f = eC y k f := by
  obtain ⟨i, h1, rfl⟩ := h
  show (match (8 * i) % 8 with | 0 => _ | 4 => _ | _ => _) = _
  rw [Nat.mul_mod_right]
  rfl
def isA (k n : Nat) : Prop := k < 107 ∧ ∀ (y : Sy) (f : Nat → Int32), enX y k f = .inl (y.2.1, n, .inl f)
theorem isC.a1 {k : Nat} (h : isC k) : isA (k + 1) 6 := by
  obtain ⟨i, h1, rfl⟩ := h
  refine ⟨by omega, fun y f => ?_⟩
  show (match (8 * i + 1) % 8 with | 0 => _ | 4 => _ | _ => _) = _
  rw [Nat.mul_add_mod]
  rfl
theorem isC.a2 {k : Nat} (h : isC k) : isA (k + 2) 6 := by
  obtain ⟨i, h1, rfl⟩ := h
  refine ⟨by omega, fun y f => ?_⟩
  show (match (8 * i + 2) % 8 with | 0 => _ | 4 => _ | _ => _) = _
  rw [Nat.mul_add_mod]
  rfl
theorem isC.a3 {k : Nat} (h : isC k) : isA (k + 3) 6 := by
  obtain ⟨i, h1, rfl⟩ := h
  refine ⟨by omega, fun y f => ?_⟩
  show (match (8 * i + 3) % 8 with | 0 => _ | 4 => _ | _ => _) = _
  rw [Nat.mul_add_mod]
  rfl
theorem isC.a4 {k : Nat} (h : isC k) : isA (k + 4) 36 := by
  obtain ⟨i, h1, rfl⟩ := h
  refine ⟨by omega, fun y f => ?_⟩
  show (match (8 * i + 4) % 8 with | 0 => _ | 4 => _ | _ => _) = _
  rw [Nat.mul_add_mod]
  rfl
theorem isC.a5 {k : Nat} (h : isC k) : isA (k + 5) 6 := by
  obtain ⟨i, h1, rfl⟩ := h
  refine ⟨by omega, fun y f => ?_⟩
  show (match (8 * i + 5) % 8 with | 0 => _ | 4 => _ | _ => _) = _
  rw [Nat.mul_add_mod]
  rfl
theorem isC.a6 {k : Nat} (h : isC k) : isA (k + 6) 6 := by
  obtain ⟨i, h1, rfl⟩ := h
  refine ⟨by omega, fun y f => ?_⟩
  show (match (8 * i + 6) % 8 with | 0 => _ | 4 => _ | _ => _) = _
  rw [Nat.mul_add_mod]
  rfl
theorem isC.a7 {k : Nat} (h : isC k) : isA (k + 7) 6 := by
  obtain ⟨i, h1, rfl⟩ := h
  refine ⟨by omega, fun y f => ?_⟩
  show (match (8 * i + 7) % 8 with | 0 => _ | 4 => _ | _ => _) = _
  rw [Nat.mul_add_mod]
  rfl
theorem isC.p7 {k : Nat} (h : isC k) (y : Sy) (f : Nat → Int32) (v : Int32) : enX y k (upd f 7 v) = .inr (0, ([.ref (ad y (k + 1)), .ref (ad y (k + 2)), .ref (ad y (k + 3)), .ref (ad y (k + 4)), .ref (ad y (k + 5)), .ref (ad y (k + 6)), .ref (ad y (k + 7)), .int (f 7), .int (f 8), .int (f 9), .int (f 10)] : List Value).set 7 (.int v)) := by rw [h.e]; rfl
theorem isC.p8 {k : Nat} (h : isC k) (y : Sy) (f : Nat → Int32) (v : Int32) : enX y k (upd f 8 v) = .inr (0, ([.ref (ad y (k + 1)), .ref (ad y (k + 2)), .ref (ad y (k + 3)), .ref (ad y (k + 4)), .ref (ad y (k + 5)), .ref (ad y (k + 6)), .ref (ad y (k + 7)), .int (f 7), .int (f 8), .int (f 9), .int (f 10)] : List Value).set 8 (.int v)) := by rw [h.e]; rfl
theorem isC.p9 {k : Nat} (h : isC k) (y : Sy) (f : Nat → Int32) (v : Int32) : enX y k (upd f 9 v) = .inr (0, ([.ref (ad y (k + 1)), .ref (ad y (k + 2)), .ref (ad y (k + 3)), .ref (ad y (k + 4)), .ref (ad y (k + 5)), .ref (ad y (k + 6)), .ref (ad y (k + 7)), .int (f 7), .int (f 8), .int (f 9), .int (f 10)] : List Value).set 9 (.int v)) := by rw [h.e]; rfl
theorem isC.p10 {k : Nat} (h : isC k) (y : Sy) (f : Nat → Int32) (v : Int32) : enX y k (upd f 10 v) = .inr (0, ([.ref (ad y (k + 1)), .ref (ad y (k + 2)), .ref (ad y (k + 3)), .ref (ad y (k + 4)), .ref (ad y (k + 5)), .ref (ad y (k + 6)), .ref (ad y (k + 7)), .int (f 7), .int (f 8), .int (f 9), .int (f 10)] : List Value).set 10 (.int v)) := by rw [h.e]; rfl
theorem isA_1 : isA 1 7 := ⟨by decide, fun _ _ => rfl⟩
theorem isA_5 : isA 5 96 := ⟨by decide, fun _ _ => rfl⟩
theorem isA_7 : isA 7 12 := ⟨by decide, fun _ _ => rfl⟩
theorem isA_9 : isA 9 64 := ⟨by decide, fun _ _ => rfl⟩
theorem isC_11 : isC 11 := ⟨0, by decide, rfl⟩
theorem isC_19 : isC 19 := ⟨1, by decide, rfl⟩
theorem isC_27 : isC 27 := ⟨2, by decide, rfl⟩
theorem isC_99 : isC 99 := ⟨11, by decide, rfl⟩
theorem isC_past {j : Nat} (h : j < 8) : isC (35 + 8 * j) := ⟨j + 3, by omega, by omega⟩
def enM (y : Sy) (k : Nat) (f : Nat → Int32) : va_E :=
  match k with
  | 0 => .inr (7, [.ref (ad y 1), .ref (ad y 2), .ref (ad y 3), .ref (ad y 4), .ref (ad y 5), .ref (ad y 6), .ref (ad y 7), .ref (ad y 8), .int (f 8), .int (f 9), .int (f 10), .int (f 11), .ref (ad y 9), .ref (ad y 10), .ref (ad y 11), .ref (ad y 12), .int (f 16), .int (f 17), .int (f 18), .ref (ad y 13), .int (f 20), .int (f 21), .int (f 22), .int (f 23), .ref (ad y 14), .int (f 25), .int (f 26), .ref (ad y 15), .ref (ad y 16), .int (f 29), .int (f 30)])
  | 1 => eA y 7 f
  | 2 => eA y 6 f
  | 3 => eA y 6 f
  | 4 => eA y 6 f
  | 5 => eA y 36 f
  | 6 => eA y 6 f
  | 7 => eA y 6 f
  | 8 => eA y 6 f
  | 9 => eA y 96 f
  | 10 => eA y 48 f
  | 11 => eA y 48 f
  | 12 => eA y 144 f
  | 13 => eA y 825 f
  | 14 => eA y 6 f
  | 15 => eA y 64 f
  | _ => eA y 12 f
def isB (k n : Nat) : Prop := k < 17 ∧ ∀ (y : Sy) (f : Nat → Int32), enM y k f = .inl (y.2.1, n, .inl f)
theorem isB_1 : isB 1 7 := ⟨by decide, fun _ _ => rfl⟩
theorem isB_2 : isB 2 6 := ⟨by decide, fun _ _ => rfl⟩
theorem isB_3 : isB 3 6 := ⟨by decide, fun _ _ => rfl⟩
theorem isB_4 : isB 4 6 := ⟨by decide, fun _ _ => rfl⟩
theorem isB_5 : isB 5 36 := ⟨by decide, fun _ _ => rfl⟩
theorem isB_6 : isB 6 6 := ⟨by decide, fun _ _ => rfl⟩
theorem isB_7 : isB 7 6 := ⟨by decide, fun _ _ => rfl⟩
theorem isB_8 : isB 8 6 := ⟨by decide, fun _ _ => rfl⟩
theorem isB_9 : isB 9 96 := ⟨by decide, fun _ _ => rfl⟩
theorem isB_10 : isB 10 48 := ⟨by decide, fun _ _ => rfl⟩
theorem isB_11 : isB 11 48 := ⟨by decide, fun _ _ => rfl⟩
theorem isB_12 : isB 12 144 := ⟨by decide, fun _ _ => rfl⟩
theorem isB_13 : isB 13 825 := ⟨by decide, fun _ _ => rfl⟩
theorem isB_14 : isB 14 6 := ⟨by decide, fun _ _ => rfl⟩
theorem isB_15 : isB 15 64 := ⟨by decide, fun _ _ => rfl⟩
theorem isB_16 : isB 16 12 := ⟨by decide, fun _ _ => rfl⟩
end
section
def w_X0_power_L5q (x0 : Int32) (x1 : Int32)  (K : Int64 → St → Prop) (c5 : Int64 → Int32 → St → Prop) (v2 : Int64) (v4 : Int32) (st : St) : Prop :=
  (x1 ≤ v4 → K v2 st) ∧ (¬ x1 ≤ v4 → c5 (v2 * ((x0).toInt64)) (v4 + 1) st)
def w_X0_power_L5 (x0 : Int32) (x1 : Int32)  (K : Int64 → St → Prop) : Nat → Int64 → Int32 → St → Prop
  | 0, _, _, _ => False
  | n + 1, v2, v4, st => w_X0_power_L5q x0 x1  K (fun v2 v4 st => w_X0_power_L5 x0 x1  K n v2 v4 st) v2 v4 st
def w_X0_power (x0 : Int32) (x1 : Int32) (st : St) (K : Int64 → St → Prop) : Prop :=
  ∃ n, w_X0_power_L5 x0 x1  K n 1 0 st
def w_J6_bitCount_0f7a4 (x0 : Int32) (st : St) (K : Int32 → St → Prop) : Prop :=
  K ((((((((x0 - (((x0.toUInt32 >>> ((1 : Int32).toUInt32 &&& Int32.toUInt32 31)).toInt32) &&& 1431655765)) &&& 858993459) + ((((x0 - (((x0.toUInt32 >>> ((1 : Int32).toUInt32 &&& Int32.toUInt32 31)).toInt32) &&& 1431655765)).toUInt32 >>> ((2 : Int32).toUInt32 &&& Int32.toUInt32 31)).toInt32) &&& 858993459)) + (((((x0 - (((x0.toUInt32 >>> ((1 : Int32).toUInt32 &&& Int32.toUInt32 31)).toInt32) &&& 1431655765)) &&& 858993459) + ((((x0 - (((x0.toUInt32 >>> ((1 : Int32).toUInt32 &&& Int32.toUInt32 31)).toInt32) &&& 1431655765)).toUInt32 >>> ((2 : Int32).toUInt32 &&& Int32.toUInt32 31)).toInt32) &&& 858993459)).toUInt32 >>> ((4 : Int32).toUInt32 &&& Int32.toUInt32 31)).toInt32)) &&& 252645135) + (((((((x0 - (((x0.toUInt32 >>> ((1 : Int32).toUInt32 &&& Int32.toUInt32 31)).toInt32) &&& 1431655765)) &&& 858993459) + ((((x0 - (((x0.toUInt32 >>> ((1 : Int32).toUInt32 &&& Int32.toUInt32 31)).toInt32) &&& 1431655765)).toUInt32 >>> ((2 : Int32).toUInt32 &&& Int32.toUInt32 31)).toInt32) &&& 858993459)) + (((((x0 - (((x0.toUInt32 >>> ((1 : Int32).toUInt32 &&& Int32.toUInt32 31)).toInt32) &&& 1431655765)) &&& 858993459) + ((((x0 - (((x0.toUInt32 >>> ((1 : Int32).toUInt32 &&& Int32.toUInt32 31)).toInt32) &&& 1431655765)).toUInt32 >>> ((2 : Int32).toUInt32 &&& Int32.toUInt32 31)).toInt32) &&& 858993459)).toUInt32 >>> ((4 : Int32).toUInt32 &&& Int32.toUInt32 31)).toInt32)) &&& 252645135).toUInt32 >>> ((8 : Int32).toUInt32 &&& Int32.toUInt32 31)).toInt32)) + ((((((((x0 - (((x0.toUInt32 >>> ((1 : Int32).toUInt32 &&& Int32.toUInt32 31)).toInt32) &&& 1431655765)) &&& 858993459) + ((((x0 - (((x0.toUInt32 >>> ((1 : Int32).toUInt32 &&& Int32.toUInt32 31)).toInt32) &&& 1431655765)).toUInt32 >>> ((2 : Int32).toUInt32 &&& Int32.toUInt32 31)).toInt32) &&& 858993459)) + (((((x0 - (((x0.toUInt32 >>> ((1 : Int32).toUInt32 &&& Int32.toUInt32 31)).toInt32) &&& 1431655765)) &&& 858993459) + ((((x0 - (((x0.toUInt32 >>> ((1 : Int32).toUInt32 &&& Int32.toUInt32 31)).toInt32) &&& 1431655765)).toUInt32 >>> ((2 : Int32).toUInt32 &&& Int32.toUInt32 31)).toInt32) &&& 858993459)).toUInt32 >>> ((4 : Int32).toUInt32 &&& Int32.toUInt32 31)).toInt32)) &&& 252645135) + (((((((x0 - (((x0.toUInt32 >>> ((1 : Int32).toUInt32 &&& Int32.toUInt32 31)).toInt32) &&& 1431655765)) &&& 858993459) + ((((x0 - (((x0.toUInt32 >>> ((1 : Int32).toUInt32 &&& Int32.toUInt32 31)).toInt32) &&& 1431655765)).toUInt32 >>> ((2 : Int32).toUInt32 &&& Int32.toUInt32 31)).toInt32) &&& 858993459)) + (((((x0 - (((x0.toUInt32 >>> ((1 : Int32).toUInt32 &&& Int32.toUInt32 31)).toInt32) &&& 1431655765)) &&& 858993459) + ((((x0 - (((x0.toUInt32 >>> ((1 : Int32).toUInt32 &&& Int32.toUInt32 31)).toInt32) &&& 1431655765)).toUInt32 >>> ((2 : Int32).toUInt32 &&& Int32.toUInt32 31)).toInt32) &&& 858993459)).toUInt32 >>> ((4 : Int32).toUInt32 &&& Int32.toUInt32 31)).toInt32)) &&& 252645135).toUInt32 >>> ((8 : Int32).toUInt32 &&& Int32.toUInt32 31)).toInt32)).toUInt32 >>> ((16 : Int32).toUInt32 &&& Int32.toUInt32 31)).toInt32)) &&& 63) st
def w_X0_ways_b38 (x0 : Int32) (x1 : Int32) (x2 : Int32) (c5 : Int64 → Int32 → St → Prop) (K : Int64 → St → Prop) (v3 : Int64) (v5 : Int32) (st : St) : Prop :=
  c5 v3 (v5 + 1) st
def w_X0_ways_L5q (x0 : Int32) (x1 : Int32) (x2 : Int32)  (K : Int64 → St → Prop) (c5 : Int64 → Int32 → St → Prop) (v3 : Int64) (v5 : Int32) (st : St) : Prop :=
  (((1 : Int32) <<< (x0 &&& 31)) ≤ v5 → K v3 st) ∧ (¬ ((1 : Int32) <<< (x0 &&& 31)) ≤ v5 → w_J6_bitCount_0f7a4 v5 st (fun r15 st15 => (r15 < x1 → w_X0_ways_b38 x0 x1 x2 c5 K v3 v5 st15) ∧ (¬ r15 < x1 → w_J6_bitCount_0f7a4 v5 st15 (fun r29 st29 => w_X0_power (x2 - 1) (x0 - r29) st29 (fun r33 st33 => w_X0_ways_b38 x0 x1 x2 c5 K (v3 + r33) v5 st33)))))
def w_X0_ways_L5 (x0 : Int32) (x1 : Int32) (x2 : Int32)  (K : Int64 → St → Prop) : Nat → Int64 → Int32 → St → Prop
  | 0, _, _, _ => False
  | n + 1, v3, v5, st => w_X0_ways_L5q x0 x1 x2  K (fun v3 v5 st => w_X0_ways_L5 x0 x1 x2  K n v3 v5 st) v3 v5 st
def w_X0_ways (x0 : Int32) (x1 : Int32) (x2 : Int32) (st : St) (K : Int64 → St → Prop) : Prop :=
  ∃ n, w_X0_ways_L5 x0 x1 x2  K n 0 0 st
def w_X0_commonDivisor_L9q (x0 : Int64) (x2 : Int64)  (K : Int64 → St → Prop) (c9 : Int64 → Int64 → Int32 → St → Prop) (v4 : Int64) (v6 : Int64) (v8 : Int32) (st : St) : Prop :=
  (100 ≤ v8 → K v4 st) ∧ (¬ 100 ≤ v8 → ((lg_cmp v6 0) = 0 → K v4 st) ∧ (¬ (lg_cmp v6 0) = 0 → ¬ v6 = 0 ∧ (c9 v6 (v4 - v4 / v6 * v6) (v8 + 1) st)))
def w_X0_commonDivisor_L9 (x0 : Int64) (x2 : Int64)  (K : Int64 → St → Prop) : Nat → Int64 → Int64 → Int32 → St → Prop
  | 0, _, _, _, _ => False
  | n + 1, v4, v6, v8, st => w_X0_commonDivisor_L9q x0 x2  K (fun v4 v6 v8 st => w_X0_commonDivisor_L9 x0 x2  K n v4 v6 v8 st) v4 v6 v8 st
def w_X0_commonDivisor (x0 : Int64) (x2 : Int64) (st : St) (K : Int64 → St → Prop) : Prop :=
  ∃ n, w_X0_commonDivisor_L9 x0 x2  K n x0 x2 0 st
def w_X0_part_b17 (x0 : Int64) (x2 : Int64) (x4 : Int32)  (K : Int64 → St → Prop) (v5 : Int64) (s0 : Int64) (st : St) : Prop :=
  ((lg_cmp v5 0) ≤ 0 → K s0 st) ∧ (¬ (lg_cmp v5 0) ≤ 0 → ¬ v5 = 0 ∧ (K (s0 / v5) st))
def w_X0_part (x0 : Int64) (x2 : Int64) (x4 : Int32) (st : St) (K : Int64 → St → Prop) : Prop :=
  w_X0_commonDivisor x0 x2 st (fun r2 st2 => (¬ x4 = 0 → w_X0_part_b17 x0 x2 x4  K r2 x2 st2) ∧ (x4 = 0 → w_X0_part_b17 x0 x2 x4  K r2 x0 st2))
def w_X8_copy (k0 : Nat) (n0 : Nat) (k1 : Nat) (n1 : Nat) (st : St) (K : St → Prop) : Prop :=
  (¬ (if (nI n1) < (nI n0) then (nI n1) else (nI n0)) < 0 ∧ ((if (nI n1) < (nI n0) then (nI n1) else (nI n0))).toNatClampNeg ≤ n0 ∧ ((if (nI n1) < (nI n0) then (nI n1) else (nI n0))).toNatClampNeg ≤ n1) ∧ (K (u1 st k1 (va_cpy (st k0) (st k1) 0 0 ((if (nI n1) < (nI n0) then (nI n1) else (nI n0))).toNatClampNeg)))
def w_J7_fill_53178_L5q (k0 : Nat) (n0 : Nat) (x1 : Int32)  (K : St → Prop) (c5 : Int32 → Int32 → St → Prop) (v2 : Int32) (v3 : Int32) (st : St) : Prop :=
  (v3 ≤ v2 → K st) ∧ (¬ v3 ≤ v2 → vp_in v2 n0 ∧ (c5 (v2 + 1) v3 (u2 st k0 (v2).toNatClampNeg x1)))
def w_J7_fill_53178_L5 (k0 : Nat) (n0 : Nat) (x1 : Int32)  (K : St → Prop) : Nat → Int32 → Int32 → St → Prop
  | 0, _, _, _ => False
  | n + 1, v2, v3, st => w_J7_fill_53178_L5q k0 n0 x1  K (fun v2 v3 st => w_J7_fill_53178_L5 k0 n0 x1  K n v2 v3 st) v2 v3 st
def w_J7_fill_53178 (k0 : Nat) (n0 : Nat) (x1 : Int32) (st : St) (K : St → Prop) : Prop :=
  ∃ n, w_J7_fill_53178_L5 k0 n0 x1  K n 0 (nI n0) st
def w_X1_become (k0 : Nat) (k1 : Nat) (st : St) (K : St → Prop) : Prop :=
  w_X8_copy (k1 + 1) 6 (k0 + 1) 6 st (fun st13 => w_X8_copy (k1 + 2) 6 (k0 + 2) 6 st13 (fun st24 => w_X8_copy (k1 + 3) 6 (k0 + 3) 6 st24 (fun st35 => w_X8_copy (k1 + 4) 36 (k0 + 4) 36 st35 (fun st46 => w_X8_copy (k1 + 5) 6 (k0 + 5) 6 st46 (fun st57 => w_X8_copy (k1 + 6) 6 (k0 + 6) 6 st57 (fun st68 => w_J7_fill_53178 (k0 + 7) 6 (-9) st68 (fun st77 => K (u2 (u2 (u2 (u2 st77 k0 7 (st77 k1 7)) k0 8 ((u2 st77 k0 7 (st77 k1 7)) k1 8)) k0 9 ((u2 (u2 st77 k0 7 (st77 k1 7)) k0 8 ((u2 st77 k0 7 (st77 k1 7)) k1 8)) k1 9)) k0 10 ((u2 (u2 (u2 st77 k0 7 (st77 k1 7)) k0 8 ((u2 st77 k0 7 (st77 k1 7)) k1 8)) k0 9 ((u2 (u2 st77 k0 7 (st77 k1 7)) k0 8 ((u2 st77 k0 7 (st77 k1 7)) k1 8)) k1 9)) k1 10)))))))))
def w_X1_keeperCount (k0 : Nat) (st : St) (K : Int32 → St → Prop) : Prop :=
  K (st k0 7) st
def w_X1_letterCount (k0 : Nat) (st : St) (K : Int32 → St → Prop) : Prop :=
  K (st k0 8) st
def w_X1_weekNow (k0 : Nat) (st : St) (K : Int32 → St → Prop) : Prop :=
  K (st k0 10) st
def w_X1_openBits (k0 : Nat) (st : St) (K : Int32 → St → Prop) : Prop :=
  K (st k0 9) st
def w_X1_openCount (k0 : Nat) (st : St) (K : Int32 → St → Prop) : Prop :=
  w_J6_bitCount_0f7a4 (st k0 9) st (fun r4 st4 => K r4 st4)
def w_X1_hasKeeper (k0 : Nat) (x1 : Int32) (st : St) (K : Int32 → St → Prop) : Prop :=
  (x1 < 0 → K 0 st) ∧ (¬ x1 < 0 → ((st k0 7) ≤ x1 → K 0 st) ∧ (¬ (st k0 7) ≤ x1 → K 1 st))
def w_X1_hasLetter (k0 : Nat) (x1 : Int32) (st : St) (K : Int32 → St → Prop) : Prop :=
  (x1 < 0 → K 0 st) ∧ (¬ x1 < 0 → ((st k0 8) ≤ x1 → K 0 st) ∧ (¬ (st k0 8) ≤ x1 → K 1 st))
def w_X1_areTwo (k0 : Nat) (x1 : Int32) (x2 : Int32) (st : St) (K : Int32 → St → Prop) : Prop :=
  w_X1_hasKeeper k0 x1 st (fun r2 st2 => (r2 = 0 → K 0 st2) ∧ (¬ r2 = 0 → w_X1_hasKeeper k0 x2 st2 (fun r10 st10 => (r10 = 0 → K 0 st10) ∧ (¬ r10 = 0 → (x1 = x2 → K 0 st10) ∧ (¬ x1 = x2 → K 1 st10)))))
def w_X8_at (k0 : Nat) (n0 : Nat) (x1 : Int32) (st : St) (K : Int32 → St → Prop) : Prop :=
  (x1 < 0 → K 0 st) ∧ (¬ x1 < 0 → ((nI n0) ≤ x1 → K 0 st) ∧ (¬ (nI n0) ≤ x1 → vp_in x1 n0 ∧ (K (st k0 (x1).toNatClampNeg) st)))
def w_X1_areBothIn (k0 : Nat) (x1 : Int32) (x2 : Int32) (x3 : Int32) (st : St) (K : Int32 → St → Prop) : Prop :=
  w_X8_at (k0 + 3) 6 x2 st (fun r5 st5 => (¬ r5 = x1 → K 0 st5) ∧ (r5 = x1 → w_X8_at (k0 + 3) 6 x3 st5 (fun r17 st17 => (¬ r17 = x1 → K 0 st17) ∧ (r17 = x1 → K 1 st17))))
def w_X1_hasKeeperRoom (k0 : Nat) (st : St) (K : Int32 → St → Prop) : Prop :=
  (6 ≤ (st k0 7) → K 0 st) ∧ (¬ 6 ≤ (st k0 7) → K 1 st)
def w_X1_hasLetterRoom (k0 : Nat) (st : St) (K : Int32 → St → Prop) : Prop :=
  (6 ≤ (st k0 8) → K 0 st) ∧ (¬ 6 ≤ (st k0 8) → K 1 st)
def w_X1_kindOf (k0 : Nat) (x1 : Int32) (st : St) (K : Int32 → St → Prop) : Prop :=
  w_X8_at (k0 + 1) 6 x1 st (fun r5 st5 => K r5 st5)
def w_X1_figureOf (k0 : Nat) (x1 : Int32) (st : St) (K : Int32 → St → Prop) : Prop :=
  w_X8_at (k0 + 2) 6 x1 st (fun r5 st5 => K r5 st5)
def w_X1_townOf (k0 : Nat) (x1 : Int32) (st : St) (K : Int32 → St → Prop) : Prop :=
  w_X8_at (k0 + 3) 6 x1 st (fun r5 st5 => K r5 st5)
def w_X2_fading (x0 : Int32) (x1 : Int32) (st : St) (K : Int32 → St → Prop) : Prop :=
  (x0 = 1 → K 0 st) ∧ (¬ x0 = 1 → (x0 = 2 → K 2 st) ∧ (¬ x0 = 2 → (x0 = 3 → K ((x1 / 2) + 1) st) ∧ (¬ x0 = 3 → (x0 = 4 → K 0 st) ∧ (¬ x0 = 4 → (x0 = 5 → K 3 st) ∧ (¬ x0 = 5 → K 1 st)))))
def w_X1_fadeOf (k0 : Nat) (x1 : Int32) (st : St) (K : Int32 → St → Prop) : Prop :=
  w_X8_at (k0 + 1) 6 x1 st (fun r5 st5 => w_X8_at (k0 + 2) 6 x1 st5 (fun r13 st13 => w_X2_fading r5 r13 st13 (fun r16 st16 => K r16 st16)))
def w_X2_stirring (x0 : Int32) (x1 : Int32) (st : St) (K : Int32 → St → Prop) : Prop :=
  (x0 = 1 → K 1 st) ∧ (¬ x0 = 1 → (x0 = 4 → K (1 + (x1 / 4)) st) ∧ (¬ x0 = 4 → K 0 st))
def w_X1_stirOf (k0 : Nat) (x1 : Int32) (st : St) (K : Int32 → St → Prop) : Prop :=
  w_X8_at (k0 + 1) 6 x1 st (fun r5 st5 => w_X8_at (k0 + 2) 6 x1 st5 (fun r13 st13 => w_X2_stirring r5 r13 st13 (fun r16 st16 => K r16 st16)))
def w_X2_wage (x0 : Int32) (x1 : Int32) (st : St) (K : Int32 → St → Prop) : Prop :=
  (x0 = 1 → K (2 * (x1 + 1)) st) ∧ (¬ x0 = 1 → (x0 = 2 → K 5 st) ∧ (¬ x0 = 2 → (x0 = 3 → K 0 st) ∧ (¬ x0 = 3 → (x0 = 4 → K ((2 * (x1 + 1)) - 1) st) ∧ (¬ x0 = 4 → (x0 = 5 → K 2 st) ∧ (¬ x0 = 5 → K (x1 + 1) st)))))
def w_X1_wageOf (k0 : Nat) (x1 : Int32) (st : St) (K : Int32 → St → Prop) : Prop :=
  w_X8_at (k0 + 1) 6 x1 st (fun r5 st5 => w_X8_at (k0 + 2) 6 x1 st5 (fun r13 st13 => w_X2_wage r5 r13 st13 (fun r16 st16 => K r16 st16)))
def w_X1_depthOf (k0 : Nat) (x1 : Int32) (st : St) (K : Int32 → St → Prop) : Prop :=
  w_X8_at (k0 + 5) 6 x1 st (fun r5 st5 => K r5 st5)
def w_X1_letterTownOf (k0 : Nat) (x1 : Int32) (st : St) (K : Int32 → St → Prop) : Prop :=
  w_X8_at (k0 + 6) 6 x1 st (fun r5 st5 => K r5 st5)
def w_X8_bit (x0 : Int32) (x1 : Int32) (st : St) (K : Int32 → St → Prop) : Prop :=
  (x1 < 0 → K 0 st) ∧ (¬ x1 < 0 → (31 ≤ x1 → K 0 st) ∧ (¬ 31 ≤ x1 → K ((x0 >>> (x1 &&& 31)) &&& 1) st))
def w_X1_isOpen (k0 : Nat) (x1 : Int32) (st : St) (K : Int32 → St → Prop) : Prop :=
  w_X8_bit (st k0 9) x1 st (fun r5 st5 => (¬ r5 = 1 → K 0 st5) ∧ (r5 = 1 → K 1 st5))
def w_X1_openedBy (k0 : Nat) (x1 : Int32) (st : St) (K : Int32 → St → Prop) : Prop :=
  w_X8_at (k0 + 7) 6 x1 st (fun r5 st5 => K r5 st5)
def w_X1_hateOf (k0 : Nat) (x1 : Int32) (x2 : Int32) (st : St) (K : Int32 → St → Prop) : Prop :=
  w_X8_at (k0 + 4) 36 (((if x2 < x1 then x2 else x1) * 6) + (if x1 < x2 then x2 else x1)) st (fun r18 st18 => K r18 st18)
def w_X1_allHate_b39 (k0 : Nat) (c4 : Int32 → Int32 → St → Prop) (K : Int32 → St → Prop) (v1 : Int32) (v2 : Int32) (st : St) : Prop :=
  c4 v1 (v2 + 1) st
def w_X1_allHate_L16q (k0 : Nat) (c4 : Int32 → Int32 → St → Prop) (K : Int32 → St → Prop) (c16 : Int32 → Int32 → Int32 → St → Prop) (v1 : Int32) (v2 : Int32) (v3 : Int32) (st : St) : Prop :=
  ((st k0 7) ≤ v3 → w_X1_allHate_b39 k0 c4 K v1 v2 st) ∧ (¬ (st k0 7) ≤ v3 → w_X1_hateOf k0 v2 v3 st (fun r28 st28 => c16 (v1 + r28) v2 (v3 + 1) st28))
def w_X1_allHate_L16 (k0 : Nat) (c4 : Int32 → Int32 → St → Prop) (K : Int32 → St → Prop) : Nat → Int32 → Int32 → Int32 → St → Prop
  | 0, _, _, _, _ => False
  | n + 1, v1, v2, v3, st => w_X1_allHate_L16q k0 c4 K (fun v1 v2 v3 st => w_X1_allHate_L16 k0 c4 K n v1 v2 v3 st) v1 v2 v3 st
def w_X1_allHate_L4q (k0 : Nat)  (K : Int32 → St → Prop) (c4 : Int32 → Int32 → St → Prop) (v1 : Int32) (v2 : Int32) (st : St) : Prop :=
  ((st k0 7) ≤ v2 → K v1 st) ∧ (¬ (st k0 7) ≤ v2 → ∃ n, w_X1_allHate_L16 k0 c4 K n v1 v2 (v2 + 1) st)
def w_X1_allHate_L4 (k0 : Nat)  (K : Int32 → St → Prop) : Nat → Int32 → Int32 → St → Prop
  | 0, _, _, _ => False
  | n + 1, v1, v2, st => w_X1_allHate_L4q k0  K (fun v1 v2 st => w_X1_allHate_L4 k0  K n v1 v2 st) v1 v2 st
def w_X1_allHate (k0 : Nat) (st : St) (K : Int32 → St → Prop) : Prop :=
  ∃ n, w_X1_allHate_L4 k0  K n 0 0 st
def w_X8_put (k0 : Nat) (n0 : Nat) (x1 : Int32) (x2 : Int32) (st : St) (K : St → Prop) : Prop :=
  (x1 < 0 → K st) ∧ (¬ x1 < 0 → ((nI n0) ≤ x1 → K st) ∧ (¬ (nI n0) ≤ x1 → vp_in x1 n0 ∧ (K (u2 st k0 (x1).toNatClampNeg x2))))
def w_X1_setHate (k0 : Nat) (x1 : Int32) (x2 : Int32) (x3 : Int32) (st : St) (K : St → Prop) : Prop :=
  w_X8_put (k0 + 4) 36 (((if x2 < x1 then x2 else x1) * 6) + (if x1 < x2 then x2 else x1)) (if 0 < (if x3 < 99 then x3 else 99) then (if x3 < 99 then x3 else 99) else 0) st (fun st32 => K st32)
def w_X1_addKeeper_b62 (k0 : Nat) (x1 : Int32) (x2 : Int32) (x3 : Int32)  (K : Int32 → St → Prop) (v4 : Int32) (st : St) : Prop :=
  K v4 (u2 st k0 7 ((st k0 7) + 1))
def w_X1_addKeeper_L39q (k0 : Nat) (x1 : Int32) (x2 : Int32) (x3 : Int32)  (K : Int32 → St → Prop) (c39 : Int32 → Int32 → St → Prop) (v4 : Int32) (v5 : Int32) (st : St) : Prop :=
  (v4 ≤ v5 → w_X1_addKeeper_b62 k0 x1 x2 x3  K v4 st) ∧ (¬ v4 ≤ v5 → w_X1_setHate k0 v5 v4 20 st (fun st53 => c39 v4 (v5 + 1) st53))
def w_X1_addKeeper_L39 (k0 : Nat) (x1 : Int32) (x2 : Int32) (x3 : Int32)  (K : Int32 → St → Prop) : Nat → Int32 → Int32 → St → Prop
  | 0, _, _, _ => False
  | n + 1, v4, v5, st => w_X1_addKeeper_L39q k0 x1 x2 x3  K (fun v4 v5 st => w_X1_addKeeper_L39 k0 x1 x2 x3  K n v4 v5 st) v4 v5 st
def w_X1_addKeeper (k0 : Nat) (x1 : Int32) (x2 : Int32) (x3 : Int32) (st : St) (K : Int32 → St → Prop) : Prop :=
  w_X8_put (k0 + 1) 6 (st k0 7) x1 st (fun st13 => w_X8_put (k0 + 2) 6 (st k0 7) x2 st13 (fun st23 => w_X8_put (k0 + 3) 6 (st k0 7) x3 st23 (fun st33 => ∃ n, w_X1_addKeeper_L39 k0 x1 x2 x3  K n (st k0 7) 0 st33)))
def w_X1_addLetter (k0 : Nat) (x1 : Int32) (x2 : Int32) (st : St) (K : Int32 → St → Prop) : Prop :=
  w_X8_put (k0 + 5) 6 (st k0 8) x2 st (fun st11 => w_X8_put (k0 + 6) 6 (st k0 8) x1 st11 (fun st20 => K (st k0 8) (u2 st20 k0 8 ((st20 k0 8) + 1))))
def w_X1_setKind (k0 : Nat) (x1 : Int32) (x2 : Int32) (st : St) (K : St → Prop) : Prop :=
  w_X8_put (k0 + 1) 6 x1 x2 st (fun st6 => K st6)
def w_X1_setFigure (k0 : Nat) (x1 : Int32) (x2 : Int32) (st : St) (K : St → Prop) : Prop :=
  w_X8_put (k0 + 2) 6 x1 x2 st (fun st6 => K st6)
def w_X1_move (k0 : Nat) (x1 : Int32) (x2 : Int32) (st : St) (K : St → Prop) : Prop :=
  w_X8_put (k0 + 3) 6 x1 x2 st (fun st6 => K st6)
def w_X1_turnSeal (k0 : Nat) (x1 : Int32) (st : St) (K : St → Prop) : Prop :=
  w_X1_hasLetter k0 x1 st (fun r2 st2 => (r2 = 0 → K st2) ∧ (¬ r2 = 0 → K (u2 st2 k0 9 ((st2 k0 9) ^^^ ((1 : Int32) <<< (x1 &&& 31))))))
def w_X8_twoName (x0 : Int32) (x1 : Int32) (st : St) (K : Int32 → St → Prop) : Prop :=
  K ((10 * (if x1 < x0 then x1 else x0)) + (if x0 < x1 then x1 else x0)) st
def w_X1_opener_b106 (k0 : Nat) (x1 : Int32) (c29 : Int32 → Int32 → Int32 → Int32 → Int32 → St → Prop) (c44 : Int32 → Int32 → Int32 → Int32 → Int32 → Int32 → St → Prop) (K : Int32 → St → Prop) (v2 : Int32) (v3 : Int32) (v4 : Int32) (v5 : Int32) (v6 : Int32) (v7 : Int32) (st : St) : Prop :=
  c44 v2 v3 v4 v5 v6 (v7 + 1) st
def w_X1_opener_b78 (k0 : Nat) (x1 : Int32) (c29 : Int32 → Int32 → Int32 → Int32 → Int32 → St → Prop) (c44 : Int32 → Int32 → Int32 → Int32 → Int32 → Int32 → St → Prop) (K : Int32 → St → Prop) (v2 : Int32) (v3 : Int32) (v4 : Int32) (v5 : Int32) (v6 : Int32) (v7 : Int32) (s0 : Int32) (st : St) : Prop :=
  (s0 < v3 → w_X1_opener_b106 k0 x1 c29 c44 K v2 v3 v4 v5 v6 v7 st) ∧ (¬ s0 < v3 → (v5 ≤ s0 → w_X1_opener_b106 k0 x1 c29 c44 K v2 v3 v4 v5 v6 v7 st) ∧ (¬ v5 ≤ s0 → w_X8_twoName v6 v7 st (fun r97 st97 => w_X1_opener_b106 k0 x1 c29 c44 K v2 v3 r97 s0 v6 v7 st97)))
def w_X1_opener_b112 (k0 : Nat) (x1 : Int32) (c29 : Int32 → Int32 → Int32 → Int32 → Int32 → St → Prop) (K : Int32 → St → Prop) (v2 : Int32) (v3 : Int32) (v4 : Int32) (v5 : Int32) (v6 : Int32) (st : St) : Prop :=
  c29 v2 v3 v4 v5 (v6 + 1) st
def w_X1_opener_L44q (k0 : Nat) (x1 : Int32) (c29 : Int32 → Int32 → Int32 → Int32 → Int32 → St → Prop) (K : Int32 → St → Prop) (c44 : Int32 → Int32 → Int32 → Int32 → Int32 → Int32 → St → Prop) (v2 : Int32) (v3 : Int32) (v4 : Int32) (v5 : Int32) (v6 : Int32) (v7 : Int32) (st : St) : Prop :=
  ((st k0 7) ≤ v7 → w_X1_opener_b112 k0 x1 c29 K v2 v3 v4 v5 v6 st) ∧ (¬ (st k0 7) ≤ v7 → w_X1_areBothIn k0 v2 v6 v7 st (fun r59 st59 => (r59 = 0 → w_X1_opener_b78 k0 x1 c29 c44 K v2 v3 v4 v5 v6 v7 (-9) st59) ∧ (¬ r59 = 0 → w_X1_hateOf k0 v6 v7 st59 (fun r70 st70 => w_X1_opener_b78 k0 x1 c29 c44 K v2 v3 v4 v5 v6 v7 r70 st70))))
def w_X1_opener_L44 (k0 : Nat) (x1 : Int32) (c29 : Int32 → Int32 → Int32 → Int32 → Int32 → St → Prop) (K : Int32 → St → Prop) : Nat → Int32 → Int32 → Int32 → Int32 → Int32 → Int32 → St → Prop
  | 0, _, _, _, _, _, _, _ => False
  | n + 1, v2, v3, v4, v5, v6, v7, st => w_X1_opener_L44q k0 x1 c29 K (fun v2 v3 v4 v5 v6 v7 st => w_X1_opener_L44 k0 x1 c29 K n v2 v3 v4 v5 v6 v7 st) v2 v3 v4 v5 v6 v7 st
def w_X1_opener_L29q (k0 : Nat) (x1 : Int32)  (K : Int32 → St → Prop) (c29 : Int32 → Int32 → Int32 → Int32 → Int32 → St → Prop) (v2 : Int32) (v3 : Int32) (v4 : Int32) (v5 : Int32) (v6 : Int32) (st : St) : Prop :=
  ((st k0 7) ≤ v6 → K v4 st) ∧ (¬ (st k0 7) ≤ v6 → ∃ n, w_X1_opener_L44 k0 x1 c29 K n v2 v3 v4 v5 v6 (v6 + 1) st)
def w_X1_opener_L29 (k0 : Nat) (x1 : Int32)  (K : Int32 → St → Prop) : Nat → Int32 → Int32 → Int32 → Int32 → Int32 → St → Prop
  | 0, _, _, _, _, _, _ => False
  | n + 1, v2, v3, v4, v5, v6, st => w_X1_opener_L29q k0 x1  K (fun v2 v3 v4 v5 v6 st => w_X1_opener_L29 k0 x1  K n v2 v3 v4 v5 v6 st) v2 v3 v4 v5 v6 st
def w_X1_opener (k0 : Nat) (x1 : Int32) (st : St) (K : Int32 → St → Prop) : Prop :=
  w_X8_at (k0 + 6) 6 x1 st (fun r5 st5 => w_X8_at (k0 + 5) 6 x1 st5 (fun r14 st14 => ∃ n, w_X1_opener_L29 k0 x1  K n r5 r14 (-9) 100 0 st14))
def w_X1_change (k0 : Nat) (x1 : Int32) (x2 : Int32) (st : St) (K : Int32 → St → Prop) : Prop :=
  w_X8_at (k0 + 3) 6 x1 st (fun r5 st5 => w_X8_at (k0 + 3) 6 x2 st5 (fun r14 st14 => (r5 = (-1) → K 0 st14) ∧ (¬ r5 = (-1) → (¬ r14 = (-1) → (¬ r5 = r14 → w_X1_stirOf k0 x1 st14 (fun r55 st55 => w_X1_stirOf k0 x2 st55 (fun r60 st60 => K (r55 + r60) st60))) ∧ (r5 = r14 → w_X1_fadeOf k0 x1 st14 (fun r40 st40 => w_X1_fadeOf k0 x2 st40 (fun r46 st46 => K ((-r40) - r46) st46)))) ∧ (r14 = (-1) → K 0 st14))))
def w_X1_passWeek_b57 (k0 : Nat) (c12 : Int32 → St → Prop) (K : Int32 → St → Prop) (v1 : Int32) (st : St) : Prop :=
  c12 (v1 + 1) st
def w_X1_passWeek_L24q (k0 : Nat) (c12 : Int32 → St → Prop) (K : Int32 → St → Prop) (c24 : Int32 → Int32 → St → Prop) (v1 : Int32) (v2 : Int32) (st : St) : Prop :=
  ((st k0 7) ≤ v2 → w_X1_passWeek_b57 k0 c12 K v1 st) ∧ (¬ (st k0 7) ≤ v2 → w_X1_hateOf k0 v1 v2 st (fun r38 st38 => w_X1_change k0 v1 v2 st38 (fun r44 st44 => w_X1_setHate k0 v1 v2 (r38 + r44) st44 (fun st48 => c24 v1 (v2 + 1) st48))))
def w_X1_passWeek_L24 (k0 : Nat) (c12 : Int32 → St → Prop) (K : Int32 → St → Prop) : Nat → Int32 → Int32 → St → Prop
  | 0, _, _, _ => False
  | n + 1, v1, v2, st => w_X1_passWeek_L24q k0 c12 K (fun v1 v2 st => w_X1_passWeek_L24 k0 c12 K n v1 v2 st) v1 v2 st
def w_X1_passWeek_b153 (k0 : Nat) (c67 : Int32 → Int32 → St → Prop) (K : Int32 → St → Prop) (v1 : Int32) (v2 : Int32) (st : St) : Prop :=
  c67 v1 (v2 + 1) st
def w_X1_passWeek_b93 (k0 : Nat) (c67 : Int32 → Int32 → St → Prop) (K : Int32 → St → Prop) (v1 : Int32) (v2 : Int32) (s0 : Int32) (st : St) : Prop :=
  (s0 = (-9) → w_X1_passWeek_b153 k0 c67 K v1 v2 st) ∧ (¬ s0 = (-9) → w_X8_put (k0 + 7) 6 v2 s0 (u2 st k0 9 ((st k0 9) ||| ((1 : Int32) <<< (v2 &&& 31)))) (fun st124 => w_X1_hateOf k0 (s0 / 10) (s0 - s0 / 10 * 10) st124 (fun r145 st145 => w_X1_setHate k0 (s0 / 10) (s0 - s0 / 10 * 10) (r145 - 5) st145 (fun st150 => w_X1_passWeek_b153 k0 c67 K (v1 ||| ((1 : Int32) <<< (v2 &&& 31))) v2 st150))))
def w_X1_passWeek_L67q (k0 : Nat)  (K : Int32 → St → Prop) (c67 : Int32 → Int32 → St → Prop) (v1 : Int32) (v2 : Int32) (st : St) : Prop :=
  ((st k0 8) ≤ v2 → K v1 st) ∧ (¬ (st k0 8) ≤ v2 → w_X1_isOpen k0 v2 st (fun r77 st77 => (r77 = 0 → w_X1_opener k0 v2 st77 (fun r90 st90 => w_X1_passWeek_b93 k0 c67 K v1 v2 r90 st90)) ∧ (¬ r77 = 0 → w_X1_passWeek_b93 k0 c67 K v1 v2 (-9) st77)))
def w_X1_passWeek_L67 (k0 : Nat)  (K : Int32 → St → Prop) : Nat → Int32 → Int32 → St → Prop
  | 0, _, _, _ => False
  | n + 1, v1, v2, st => w_X1_passWeek_L67q k0  K (fun v1 v2 st => w_X1_passWeek_L67 k0  K n v1 v2 st) v1 v2 st
def w_X1_passWeek_b63 (k0 : Nat)  (K : Int32 → St → Prop)  (st : St) : Prop :=
  ∃ n, w_X1_passWeek_L67 k0  K n 0 0 st
def w_X1_passWeek_L12q (k0 : Nat)  (K : Int32 → St → Prop) (c12 : Int32 → St → Prop) (v1 : Int32) (st : St) : Prop :=
  ((st k0 7) ≤ v1 → w_X1_passWeek_b63 k0  K st) ∧ (¬ (st k0 7) ≤ v1 → ∃ n, w_X1_passWeek_L24 k0 c12 K n v1 (v1 + 1) st)
def w_X1_passWeek_L12 (k0 : Nat)  (K : Int32 → St → Prop) : Nat → Int32 → St → Prop
  | 0, _, _ => False
  | n + 1, v1, st => w_X1_passWeek_L12q k0  K (fun v1 st => w_X1_passWeek_L12 k0  K n v1 st) v1 st
def w_X1_passWeek (k0 : Nat) (st : St) (K : Int32 → St → Prop) : Prop :=
  ∃ n, w_X1_passWeek_L12 k0  K n 0 (u2 st k0 10 ((st k0 10) + 1))
def w_X1_passWeeks_b18 (k0 : Nat) (x1 : Int32)  (K : Int32 → St → Prop)  (st : St) : Prop :=
  w_X1_openCount k0 st (fun r19 st19 => K r19 st19)
def w_X1_passWeeks_L2q (k0 : Nat) (x1 : Int32)  (K : Int32 → St → Prop) (c2 : Int32 → St → Prop) (v2 : Int32) (st : St) : Prop :=
  (x1 ≤ v2 → w_X1_passWeeks_b18 k0 x1  K st) ∧ (¬ x1 ≤ v2 → w_X1_passWeek k0 st (fun r8 st8 => c2 (v2 + 1) st8))
def w_X1_passWeeks_L2 (k0 : Nat) (x1 : Int32)  (K : Int32 → St → Prop) : Nat → Int32 → St → Prop
  | 0, _, _ => False
  | n + 1, v2, st => w_X1_passWeeks_L2q k0 x1  K (fun v2 st => w_X1_passWeeks_L2 k0 x1  K n v2 st) v2 st
def w_X1_passWeeks (k0 : Nat) (x1 : Int32) (st : St) (K : Int32 → St → Prop) : Prop :=
  ∃ n, w_X1_passWeeks_L2 k0 x1  K n 0 st
def w_X3_keepersIn_b38 (x1 : Int32) (c4 : Int32 → Int32 → St → Prop) (K : Int32 → St → Prop) (v2 : Int32) (v3 : Int32) (st : St) : Prop :=
  c4 v2 (v3 + 1) st
def w_X3_keepersIn_b32 (x1 : Int32) (c4 : Int32 → Int32 → St → Prop) (K : Int32 → St → Prop) (v2 : Int32) (v3 : Int32) (st : St) : Prop :=
  w_X3_keepersIn_b38 x1 c4 K (v2 ||| ((1 : Int32) <<< (v3 &&& 31))) v3 st
def w_X3_keepersIn_L4q (x1 : Int32)  (K : Int32 → St → Prop) (c4 : Int32 → Int32 → St → Prop) (v2 : Int32) (v3 : Int32) (st : St) : Prop :=
  w_X1_keeperCount 11 st (fun r9 st9 => (r9 ≤ v3 → K v2 st9) ∧ (¬ r9 ≤ v3 → (x1 = (-1) → w_X3_keepersIn_b32 x1 c4 K v2 v3 st9) ∧ (¬ x1 = (-1) → w_X1_townOf 11 v3 st9 (fun r25 st25 => (¬ r25 = x1 → w_X3_keepersIn_b38 x1 c4 K v2 v3 st25) ∧ (r25 = x1 → w_X3_keepersIn_b32 x1 c4 K v2 v3 st25)))))
def w_X3_keepersIn_L4 (x1 : Int32)  (K : Int32 → St → Prop) : Nat → Int32 → Int32 → St → Prop
  | 0, _, _, _ => False
  | n + 1, v2, v3, st => w_X3_keepersIn_L4q x1  K (fun v2 v3 st => w_X3_keepersIn_L4 x1  K n v2 v3 st) v2 v3 st
def w_X3_keepersIn (x1 : Int32) (st : St) (K : Int32 → St → Prop) : Prop :=
  ∃ n, w_X3_keepersIn_L4 x1  K n 0 0 st
def w_X3_wages_b35 (x1 : Int32) (c4 : Int32 → Int32 → St → Prop) (K : Int32 → St → Prop) (v2 : Int32) (v3 : Int32) (st : St) : Prop :=
  c4 v2 (v3 + 1) st
def w_X3_wages_L4q (x1 : Int32)  (K : Int32 → St → Prop) (c4 : Int32 → Int32 → St → Prop) (v2 : Int32) (v3 : Int32) (st : St) : Prop :=
  w_X1_keeperCount 11 st (fun r9 st9 => (r9 ≤ v3 → K v2 st9) ∧ (¬ r9 ≤ v3 → w_X8_bit x1 v3 st9 (fun r17 st17 => (¬ r17 = 1 → w_X3_wages_b35 x1 c4 K v2 v3 st17) ∧ (r17 = 1 → w_X1_wageOf 11 v3 st17 (fun r30 st30 => w_X3_wages_b35 x1 c4 K (v2 + r30) v3 st30)))))
def w_X3_wages_L4 (x1 : Int32)  (K : Int32 → St → Prop) : Nat → Int32 → Int32 → St → Prop
  | 0, _, _, _ => False
  | n + 1, v2, v3, st => w_X3_wages_L4q x1  K (fun v2 v3 st => w_X3_wages_L4 x1  K n v2 v3 st) v2 v3 st
def w_X3_wages (x1 : Int32) (st : St) (K : Int32 → St → Prop) : Prop :=
  ∃ n, w_X3_wages_L4 x1  K n 0 0 st
def w_X3_crowd (x1 : Int32) (st : St) (K : Int32 → St → Prop) : Prop :=
  w_X3_keepersIn x1 st (fun r2 st2 => w_J6_bitCount_0f7a4 r2 st2 (fun r5 st5 => K r5 st5))
def w_X3_townOfMost_b24  (c4 : Int32 → Int32 → St → Prop) (K : Int32 → St → Prop) (v1 : Int32) (v2 : Int32) (st : St) : Prop :=
  c4 v1 (v2 + 1) st
def w_X3_townOfMost_L4q   (K : Int32 → St → Prop) (c4 : Int32 → Int32 → St → Prop) (v1 : Int32) (v2 : Int32) (st : St) : Prop :=
  (4 ≤ v2 → K v1 st) ∧ (¬ 4 ≤ v2 → w_X3_crowd v2 st (fun r11 st11 => w_X3_crowd v1 st11 (fun r16 st16 => (r11 ≤ r16 → w_X3_townOfMost_b24  c4 K v1 v2 st16) ∧ (¬ r11 ≤ r16 → w_X3_townOfMost_b24  c4 K v2 v2 st16))))
def w_X3_townOfMost_L4   (K : Int32 → St → Prop) : Nat → Int32 → Int32 → St → Prop
  | 0, _, _, _ => False
  | n + 1, v1, v2, st => w_X3_townOfMost_L4q   K (fun v1 v2 st => w_X3_townOfMost_L4   K n v1 v2 st) v1 v2 st
def w_X3_townOfMost  (st : St) (K : Int32 → St → Prop) : Prop :=
  ∃ n, w_X3_townOfMost_L4   K n 0 1 st
def w_X3_mostHateIn_b62 (x1 : Int32) (c5 : Int32 → Int32 → St → Prop) (c21 : Int32 → Int32 → Int32 → St → Prop) (K : Int32 → St → Prop) (v2 : Int32) (v3 : Int32) (v4 : Int32) (st : St) : Prop :=
  c21 v2 v3 (v4 + 1) st
def w_X3_mostHateIn_b68 (x1 : Int32) (c5 : Int32 → Int32 → St → Prop) (K : Int32 → St → Prop) (v2 : Int32) (v3 : Int32) (st : St) : Prop :=
  c5 v2 (v3 + 1) st
def w_X3_mostHateIn_L21q (x1 : Int32) (c5 : Int32 → Int32 → St → Prop) (K : Int32 → St → Prop) (c21 : Int32 → Int32 → Int32 → St → Prop) (v2 : Int32) (v3 : Int32) (v4 : Int32) (st : St) : Prop :=
  w_X1_keeperCount 11 st (fun r27 st27 => (r27 ≤ v4 → w_X3_mostHateIn_b68 x1 c5 K v2 v3 st27) ∧ (¬ r27 ≤ v4 → w_X1_areBothIn 11 x1 v3 v4 st27 (fun r41 st41 => (r41 = 0 → w_X3_mostHateIn_b62 x1 c5 c21 K v2 v3 v4 st41) ∧ (¬ r41 = 0 → w_X1_hateOf 11 v3 v4 st41 (fun r55 st55 => w_X3_mostHateIn_b62 x1 c5 c21 K (if v2 < r55 then r55 else v2) v3 v4 st55)))))
def w_X3_mostHateIn_L21 (x1 : Int32) (c5 : Int32 → Int32 → St → Prop) (K : Int32 → St → Prop) : Nat → Int32 → Int32 → Int32 → St → Prop
  | 0, _, _, _, _ => False
  | n + 1, v2, v3, v4, st => w_X3_mostHateIn_L21q x1 c5 K (fun v2 v3 v4 st => w_X3_mostHateIn_L21 x1 c5 K n v2 v3 v4 st) v2 v3 v4 st
def w_X3_mostHateIn_L5q (x1 : Int32)  (K : Int32 → St → Prop) (c5 : Int32 → Int32 → St → Prop) (v2 : Int32) (v3 : Int32) (st : St) : Prop :=
  w_X1_keeperCount 11 st (fun r10 st10 => (r10 ≤ v3 → K v2 st10) ∧ (¬ r10 ≤ v3 → ∃ n, w_X3_mostHateIn_L21 x1 c5 K n v2 v3 (v3 + 1) st10))
def w_X3_mostHateIn_L5 (x1 : Int32)  (K : Int32 → St → Prop) : Nat → Int32 → Int32 → St → Prop
  | 0, _, _, _ => False
  | n + 1, v2, v3, st => w_X3_mostHateIn_L5q x1  K (fun v2 v3 st => w_X3_mostHateIn_L5 x1  K n v2 v3 st) v2 v3 st
def w_X3_mostHateIn (x1 : Int32) (st : St) (K : Int32 → St → Prop) : Prop :=
  ∃ n, w_X3_mostHateIn_L5 x1  K n (-9) 0 st
def w_X3_townsThatOpen_b24 (x1 : Int32) (c4 : Int32 → Int32 → St → Prop) (K : Int32 → St → Prop) (v2 : Int32) (v3 : Int32) (st : St) : Prop :=
  c4 v2 (v3 + 1) st
def w_X3_townsThatOpen_L4q (x1 : Int32)  (K : Int32 → St → Prop) (c4 : Int32 → Int32 → St → Prop) (v2 : Int32) (v3 : Int32) (st : St) : Prop :=
  (4 ≤ v3 → K v2 st) ∧ (¬ 4 ≤ v3 → w_X3_mostHateIn v3 st (fun r11 st11 => (r11 < x1 → w_X3_townsThatOpen_b24 x1 c4 K v2 v3 st11) ∧ (¬ r11 < x1 → w_X3_townsThatOpen_b24 x1 c4 K (v2 ||| ((1 : Int32) <<< (v3 &&& 31))) v3 st11)))
def w_X3_townsThatOpen_L4 (x1 : Int32)  (K : Int32 → St → Prop) : Nat → Int32 → Int32 → St → Prop
  | 0, _, _, _ => False
  | n + 1, v2, v3, st => w_X3_townsThatOpen_L4q x1  K (fun v2 v3 st => w_X3_townsThatOpen_L4 x1  K n v2 v3 st) v2 v3 st
def w_X3_townsThatOpen (x1 : Int32) (st : St) (K : Int32 → St → Prop) : Prop :=
  ∃ n, w_X3_townsThatOpen_L4 x1  K n 0 0 st
def w_X3_mostTwosWith_b99 (x1 : Int32) (x2 : Int32) (x3 : Int32) (c13 : Int32 → Int32 → St → Prop) (K : Int32 → St → Prop) (v4 : Int32) (v5 : Int32) (st : St) : Prop :=
  c13 v4 (v5 + 1) st
def w_X3_mostTwosWith_b44 (x1 : Int32) (x2 : Int32) (x3 : Int32) (c13 : Int32 → Int32 → St → Prop) (K : Int32 → St → Prop) (v4 : Int32) (v5 : Int32) (s0 : Int32) (st : St) : Prop :=
  w_X8_bit x2 v5 st (fun r49 st49 => (¬ r49 = 1 → w_X3_mostTwosWith_b99 x1 x2 x3 c13 K v4 v5 st49) ∧ (r49 = 1 → (s0 = 0 → w_X3_mostTwosWith_b99 x1 x2 x3 c13 K v4 v5 st49) ∧ (¬ s0 = 0 → w_X1_hateOf 11 v5 x1 st49 (fun r68 st68 => (r68 < x3 → w_X3_mostTwosWith_b99 x1 x2 x3 c13 K v4 v5 st68) ∧ (¬ r68 < x3 → w_X8_at 9 64 (x2 &&& (((1 : Int32) <<< (v5 &&& 31)) ^^^ (-1))) st68 (fun r90 st90 => w_X3_mostTwosWith_b99 x1 x2 x3 c13 K (if v4 < (1 + r90) then (1 + r90) else v4) v5 st90))))))
def w_X3_mostTwosWith_L13q (x1 : Int32) (x2 : Int32) (x3 : Int32)  (K : Int32 → St → Prop) (c13 : Int32 → Int32 → St → Prop) (v4 : Int32) (v5 : Int32) (st : St) : Prop :=
  (x1 ≤ v5 → K v4 st) ∧ (¬ x1 ≤ v5 → w_X1_townOf 11 v5 st (fun r25 st25 => w_X1_townOf 11 x1 st25 (fun r33 st33 => (¬ r25 = r33 → w_X3_mostTwosWith_b44 x1 x2 x3 c13 K v4 v5 0 st33) ∧ (r25 = r33 → w_X3_mostTwosWith_b44 x1 x2 x3 c13 K v4 v5 1 st33))))
def w_X3_mostTwosWith_L13 (x1 : Int32) (x2 : Int32) (x3 : Int32)  (K : Int32 → St → Prop) : Nat → Int32 → Int32 → St → Prop
  | 0, _, _, _ => False
  | n + 1, v4, v5, st => w_X3_mostTwosWith_L13q x1 x2 x3  K (fun v4 v5 st => w_X3_mostTwosWith_L13 x1 x2 x3  K n v4 v5 st) v4 v5 st
def w_X3_mostTwosWith (x1 : Int32) (x2 : Int32) (x3 : Int32) (st : St) (K : Int32 → St → Prop) : Prop :=
  w_X8_at 9 64 x2 st (fun r5 st5 => ∃ n, w_X3_mostTwosWith_L13 x1 x2 x3  K n r5 0 st5)
def w_X3_mostTwos_b47 (x1 : Int32) (c2 : Int32 → St → Prop) (K : Int32 → St → Prop) (v2 : Int32) (st : St) : Prop :=
  c2 (v2 + 1) st
def w_X3_mostTwos_L15q (x1 : Int32) (c2 : Int32 → St → Prop) (K : Int32 → St → Prop) (c15 : Int32 → Int32 → St → Prop) (v2 : Int32) (v3 : Int32) (st : St) : Prop :=
  (((1 : Int32) <<< (v2 &&& 31)) ≤ v3 → w_X3_mostTwos_b47 x1 c2 K v2 st) ∧ (¬ ((1 : Int32) <<< (v2 &&& 31)) ≤ v3 → w_X3_mostTwosWith v2 v3 x1 st (fun r35 st35 => w_X8_put 9 64 (v3 ||| ((1 : Int32) <<< (v2 &&& 31))) r35 st35 (fun st38 => c15 v2 (v3 + 1) st38)))
def w_X3_mostTwos_L15 (x1 : Int32) (c2 : Int32 → St → Prop) (K : Int32 → St → Prop) : Nat → Int32 → Int32 → St → Prop
  | 0, _, _, _ => False
  | n + 1, v2, v3, st => w_X3_mostTwos_L15q x1 c2 K (fun v2 v3 st => w_X3_mostTwos_L15 x1 c2 K n v2 v3 st) v2 v3 st
def w_X3_mostTwos_b53 (x1 : Int32)  (K : Int32 → St → Prop)  (st : St) : Prop :=
  w_X1_keeperCount 11 st (fun r62 st62 => w_X8_at 9 64 (((1 : Int32) <<< (r62 &&& 31)) - 1) st62 (fun r68 st68 => K r68 st68))
def w_X3_mostTwos_L2q (x1 : Int32)  (K : Int32 → St → Prop) (c2 : Int32 → St → Prop) (v2 : Int32) (st : St) : Prop :=
  w_X1_keeperCount 11 st (fun r7 st7 => (r7 ≤ v2 → w_X3_mostTwos_b53 x1  K st7) ∧ (¬ r7 ≤ v2 → ∃ n, w_X3_mostTwos_L15 x1 c2 K n v2 0 st7))
def w_X3_mostTwos_L2 (x1 : Int32)  (K : Int32 → St → Prop) : Nat → Int32 → St → Prop
  | 0, _, _ => False
  | n + 1, v2, st => w_X3_mostTwos_L2q x1  K (fun v2 st => w_X3_mostTwos_L2 x1  K n v2 st) v2 st
def w_X3_mostTwos (x1 : Int32) (st : St) (K : Int32 → St → Prop) : Prop :=
  ∃ n, w_X3_mostTwos_L2 x1  K n 0 st
def w_X3_worstTwo_b74 (x1 : Int32) (c9 : Int32 → Int32 → Int32 → St → Prop) (c27 : Int32 → Int32 → Int32 → Int32 → St → Prop) (K : Int32 → St → Prop) (v2 : Int32) (v3 : Int32) (v4 : Int32) (v5 : Int32) (st : St) : Prop :=
  c27 v2 v3 v4 (v5 + 1) st
def w_X3_worstTwo_b80 (x1 : Int32) (c9 : Int32 → Int32 → Int32 → St → Prop) (K : Int32 → St → Prop) (v2 : Int32) (v3 : Int32) (v4 : Int32) (st : St) : Prop :=
  c9 v2 v3 (v4 + 1) st
def w_X3_worstTwo_L27q (x1 : Int32) (c9 : Int32 → Int32 → Int32 → St → Prop) (K : Int32 → St → Prop) (c27 : Int32 → Int32 → Int32 → Int32 → St → Prop) (v2 : Int32) (v3 : Int32) (v4 : Int32) (v5 : Int32) (st : St) : Prop :=
  w_X1_keeperCount 11 st (fun r33 st33 => (r33 ≤ v5 → w_X3_worstTwo_b80 x1 c9 K v2 v3 v4 st33) ∧ (¬ r33 ≤ v5 → w_X1_hateOf 11 v4 v5 st33 (fun r47 st47 => (r47 ≤ v3 → w_X3_worstTwo_b74 x1 c9 c27 K v2 v3 v4 v5 st47) ∧ (¬ r47 ≤ v3 → w_X1_hateOf 11 v4 v5 st47 (fun r62 st62 => w_X8_twoName v4 v5 st62 (fun r70 st70 => w_X3_worstTwo_b74 x1 c9 c27 K r70 r62 v4 v5 st70))))))
def w_X3_worstTwo_L27 (x1 : Int32) (c9 : Int32 → Int32 → Int32 → St → Prop) (K : Int32 → St → Prop) : Nat → Int32 → Int32 → Int32 → Int32 → St → Prop
  | 0, _, _, _, _, _ => False
  | n + 1, v2, v3, v4, v5, st => w_X3_worstTwo_L27q x1 c9 K (fun v2 v3 v4 v5 st => w_X3_worstTwo_L27 x1 c9 K n v2 v3 v4 v5 st) v2 v3 v4 v5 st
def w_X3_worstTwo_b86 (x1 : Int32)  (K : Int32 → St → Prop) (v2 : Int32) (v3 : Int32) (st : St) : Prop :=
  (x1 = 0 → K v3 st) ∧ (¬ x1 = 0 → K v2 st)
def w_X3_worstTwo_L9q (x1 : Int32)  (K : Int32 → St → Prop) (c9 : Int32 → Int32 → Int32 → St → Prop) (v2 : Int32) (v3 : Int32) (v4 : Int32) (st : St) : Prop :=
  w_X1_keeperCount 11 st (fun r15 st15 => (r15 ≤ v4 → w_X3_worstTwo_b86 x1  K v2 v3 st15) ∧ (¬ r15 ≤ v4 → ∃ n, w_X3_worstTwo_L27 x1 c9 K n v2 v3 v4 (v4 + 1) st15))
def w_X3_worstTwo_L9 (x1 : Int32)  (K : Int32 → St → Prop) : Nat → Int32 → Int32 → Int32 → St → Prop
  | 0, _, _, _, _ => False
  | n + 1, v2, v3, v4, st => w_X3_worstTwo_L9q x1  K (fun v2 v3 v4 st => w_X3_worstTwo_L9 x1  K n v2 v3 v4 st) v2 v3 v4 st
def w_X3_worstTwo (x1 : Int32) (st : St) (K : Int32 → St → Prop) : Prop :=
  ∃ n, w_X3_worstTwo_L9 x1  K n (-9) (-9) 0 st
def w_X3_friends_b45  (c4 : Int32 → Int32 → St → Prop) (c19 : Int32 → Int32 → Int32 → St → Prop) (K : Int32 → St → Prop) (v1 : Int32) (v2 : Int32) (v3 : Int32) (st : St) : Prop :=
  c19 v1 v2 (v3 + 1) st
def w_X3_friends_b51  (c4 : Int32 → Int32 → St → Prop) (K : Int32 → St → Prop) (v1 : Int32) (v2 : Int32) (st : St) : Prop :=
  c4 v1 (v2 + 1) st
def w_X3_friends_L19q  (c4 : Int32 → Int32 → St → Prop) (K : Int32 → St → Prop) (c19 : Int32 → Int32 → Int32 → St → Prop) (v1 : Int32) (v2 : Int32) (v3 : Int32) (st : St) : Prop :=
  w_X1_keeperCount 11 st (fun r24 st24 => (r24 ≤ v3 → w_X3_friends_b51  c4 K v1 v2 st24) ∧ (¬ r24 ≤ v3 → w_X1_hateOf 11 v2 v3 st24 (fun r36 st36 => (¬ r36 = 0 → w_X3_friends_b45  c4 c19 K v1 v2 v3 st36) ∧ (r36 = 0 → w_X3_friends_b45  c4 c19 K (v1 + 1) v2 v3 st36))))
def w_X3_friends_L19  (c4 : Int32 → Int32 → St → Prop) (K : Int32 → St → Prop) : Nat → Int32 → Int32 → Int32 → St → Prop
  | 0, _, _, _, _ => False
  | n + 1, v1, v2, v3, st => w_X3_friends_L19q  c4 K (fun v1 v2 v3 st => w_X3_friends_L19  c4 K n v1 v2 v3 st) v1 v2 v3 st
def w_X3_friends_L4q   (K : Int32 → St → Prop) (c4 : Int32 → Int32 → St → Prop) (v1 : Int32) (v2 : Int32) (st : St) : Prop :=
  w_X1_keeperCount 11 st (fun r9 st9 => (r9 ≤ v2 → K v1 st9) ∧ (¬ r9 ≤ v2 → ∃ n, w_X3_friends_L19  c4 K n v1 v2 (v2 + 1) st9))
def w_X3_friends_L4   (K : Int32 → St → Prop) : Nat → Int32 → Int32 → St → Prop
  | 0, _, _, _ => False
  | n + 1, v1, v2, st => w_X3_friends_L4q   K (fun v1 v2 st => w_X3_friends_L4   K n v1 v2 st) v1 v2 st
def w_X3_friends  (st : St) (K : Int32 → St → Prop) : Prop :=
  ∃ n, w_X3_friends_L4   K n 0 0 st
def w_X3_deepestSealed_b64  (c5 : Int32 → Int32 → St → Prop) (K : Int32 → St → Prop) (v1 : Int32) (v2 : Int32) (st : St) : Prop :=
  c5 v1 (v2 + 1) st
def w_X3_deepestSealed_b46  (c5 : Int32 → Int32 → St → Prop) (K : Int32 → St → Prop) (v1 : Int32) (v2 : Int32) (s0 : Int32) (st : St) : Prop :=
  w_X1_isOpen 11 v2 st (fun r52 st52 => (¬ r52 = 0 → w_X3_deepestSealed_b64  c5 K v1 v2 st52) ∧ (r52 = 0 → (s0 = 0 → w_X3_deepestSealed_b64  c5 K v1 v2 st52) ∧ (¬ s0 = 0 → w_X3_deepestSealed_b64  c5 K v2 v2 st52)))
def w_X3_deepestSealed_b41  (c5 : Int32 → Int32 → St → Prop) (K : Int32 → St → Prop) (v1 : Int32) (v2 : Int32) (st : St) : Prop :=
  w_X3_deepestSealed_b46  c5 K v1 v2 1 st
def w_X3_deepestSealed_L5q   (K : Int32 → St → Prop) (c5 : Int32 → Int32 → St → Prop) (v1 : Int32) (v2 : Int32) (st : St) : Prop :=
  w_X1_letterCount 11 st (fun r10 st10 => (r10 ≤ v2 → K v1 st10) ∧ (¬ r10 ≤ v2 → (v1 = (-9) → w_X3_deepestSealed_b41  c5 K v1 v2 st10) ∧ (¬ v1 = (-9) → w_X1_depthOf 11 v2 st10 (fun r27 st27 => w_X1_depthOf 11 v1 st27 (fun r35 st35 => (r27 ≤ r35 → w_X3_deepestSealed_b46  c5 K v1 v2 0 st35) ∧ (¬ r27 ≤ r35 → w_X3_deepestSealed_b41  c5 K v1 v2 st35))))))
def w_X3_deepestSealed_L5   (K : Int32 → St → Prop) : Nat → Int32 → Int32 → St → Prop
  | 0, _, _, _ => False
  | n + 1, v1, v2, st => w_X3_deepestSealed_L5q   K (fun v1 v2 st => w_X3_deepestSealed_L5   K n v1 v2 st) v1 v2 st
def w_X3_deepestSealed  (st : St) (K : Int32 → St → Prop) : Prop :=
  ∃ n, w_X3_deepestSealed_L5   K n (-9) 0 st
def w_X3_hateOrSelf (x1 : Int32) (x2 : Int32) (st : St) (K : Int32 → St → Prop) : Prop :=
  (¬ x1 = x2 → w_X1_hateOf 11 x1 x2 st (fun r15 st15 => K r15 st15)) ∧ (x1 = x2 → K 0 st)
def w_X3_hatesTogether_L4q (x1 : Int32)  (K : Int32 → St → Prop) (c4 : Int32 → Int32 → St → Prop) (v2 : Int32) (v3 : Int32) (st : St) : Prop :=
  w_X1_keeperCount 11 st (fun r9 st9 => (r9 ≤ v3 → K v2 st9) ∧ (¬ r9 ≤ v3 → w_X3_hateOrSelf x1 v3 st9 (fun r19 st19 => c4 (v2 + r19) (v3 + 1) st19)))
def w_X3_hatesTogether_L4 (x1 : Int32)  (K : Int32 → St → Prop) : Nat → Int32 → Int32 → St → Prop
  | 0, _, _, _ => False
  | n + 1, v2, v3, st => w_X3_hatesTogether_L4q x1  K (fun v2 v3 st => w_X3_hatesTogether_L4 x1  K n v2 v3 st) v2 v3 st
def w_X3_hatesTogether (x1 : Int32) (st : St) (K : Int32 → St → Prop) : Prop :=
  ∃ n, w_X3_hatesTogether_L4 x1  K n 0 0 st
def w_X3_leastHating_b37  (c5 : Int32 → Int32 → St → Prop) (K : Int32 → St → Prop) (v1 : Int32) (v2 : Int32) (st : St) : Prop :=
  c5 v1 (v2 + 1) st
def w_X3_leastHating_b35  (c5 : Int32 → Int32 → St → Prop) (K : Int32 → St → Prop) (v2 : Int32) (st : St) : Prop :=
  w_X3_leastHating_b37  c5 K v2 v2 st
def w_X3_leastHating_L5q   (K : Int32 → St → Prop) (c5 : Int32 → Int32 → St → Prop) (v1 : Int32) (v2 : Int32) (st : St) : Prop :=
  w_X1_keeperCount 11 st (fun r10 st10 => (r10 ≤ v2 → K v1 st10) ∧ (¬ r10 ≤ v2 → (v1 = (-9) → w_X3_leastHating_b35  c5 K v2 st10) ∧ (¬ v1 = (-9) → w_X3_hatesTogether v2 st10 (fun r24 st24 => w_X3_hatesTogether v1 st24 (fun r29 st29 => (r29 ≤ r24 → w_X3_leastHating_b37  c5 K v1 v2 st29) ∧ (¬ r29 ≤ r24 → w_X3_leastHating_b35  c5 K v2 st29))))))
def w_X3_leastHating_L5   (K : Int32 → St → Prop) : Nat → Int32 → Int32 → St → Prop
  | 0, _, _, _ => False
  | n + 1, v1, v2, st => w_X3_leastHating_L5q   K (fun v1 v2 st => w_X3_leastHating_L5   K n v1 v2 st) v1 v2 st
def w_X3_leastHating  (st : St) (K : Int32 → St → Prop) : Prop :=
  ∃ n, w_X3_leastHating_L5   K n (-9) 0 st
def w_X3_mostHated_b62 (x1 : Int32) (c5 : Int32 → Int32 → St → Prop) (K : Int32 → St → Prop) (v2 : Int32) (v3 : Int32) (st : St) : Prop :=
  c5 v2 (v3 + 1) st
def w_X3_mostHated_b48 (x1 : Int32) (c5 : Int32 → Int32 → St → Prop) (K : Int32 → St → Prop) (v2 : Int32) (v3 : Int32) (s0 : Int32) (st : St) : Prop :=
  (v3 = x1 → w_X3_mostHated_b62 x1 c5 K v2 v3 st) ∧ (¬ v3 = x1 → (s0 = 0 → w_X3_mostHated_b62 x1 c5 K v2 v3 st) ∧ (¬ s0 = 0 → w_X3_mostHated_b62 x1 c5 K v3 v3 st))
def w_X3_mostHated_b43 (x1 : Int32) (c5 : Int32 → Int32 → St → Prop) (K : Int32 → St → Prop) (v2 : Int32) (v3 : Int32) (st : St) : Prop :=
  w_X3_mostHated_b48 x1 c5 K v2 v3 1 st
def w_X3_mostHated_L5q (x1 : Int32)  (K : Int32 → St → Prop) (c5 : Int32 → Int32 → St → Prop) (v2 : Int32) (v3 : Int32) (st : St) : Prop :=
  w_X1_keeperCount 11 st (fun r10 st10 => (r10 ≤ v3 → K v2 st10) ∧ (¬ r10 ≤ v3 → (v2 = (-9) → w_X3_mostHated_b43 x1 c5 K v2 v3 st10) ∧ (¬ v2 = (-9) → w_X1_hateOf 11 x1 v3 st10 (fun r28 st28 => w_X1_hateOf 11 x1 v2 st28 (fun r37 st37 => (r28 ≤ r37 → w_X3_mostHated_b48 x1 c5 K v2 v3 0 st37) ∧ (¬ r28 ≤ r37 → w_X3_mostHated_b43 x1 c5 K v2 v3 st37))))))
def w_X3_mostHated_L5 (x1 : Int32)  (K : Int32 → St → Prop) : Nat → Int32 → Int32 → St → Prop
  | 0, _, _, _ => False
  | n + 1, v2, v3, st => w_X3_mostHated_L5q x1  K (fun v2 v3 st => w_X3_mostHated_L5 x1  K n v2 v3 st) v2 v3 st
def w_X3_mostHated (x1 : Int32) (st : St) (K : Int32 → St → Prop) : Prop :=
  ∃ n, w_X3_mostHated_L5 x1  K n (-9) 0 st
def w_X3_bareTowns_b55  (c4 : Int32 → Int32 → St → Prop) (K : Int32 → St → Prop) (v1 : Int32) (v2 : Int32) (st : St) : Prop :=
  c4 v1 (v2 + 1) st
def w_X3_bareTowns_L4q   (K : Int32 → St → Prop) (c4 : Int32 → Int32 → St → Prop) (v1 : Int32) (v2 : Int32) (st : St) : Prop :=
  w_X1_letterCount 11 st (fun r9 st9 => (r9 ≤ v2 → K v1 st9) ∧ (¬ r9 ≤ v2 → w_X1_isOpen 11 v2 st9 (fun r20 st20 => (¬ r20 = 0 → w_X3_bareTowns_b55  c4 K v1 v2 st20) ∧ (r20 = 0 → w_X1_letterTownOf 11 v2 st20 (fun r32 st32 => w_X3_crowd r32 st32 (fun r35 st35 => (2 ≤ r35 → w_X3_bareTowns_b55  c4 K v1 v2 st35) ∧ (¬ 2 ≤ r35 → w_X1_letterTownOf 11 v2 st35 (fun r49 st49 => w_X3_bareTowns_b55  c4 K (v1 ||| ((1 : Int32) <<< (r49 &&& 31))) v2 st49))))))))
def w_X3_bareTowns_L4   (K : Int32 → St → Prop) : Nat → Int32 → Int32 → St → Prop
  | 0, _, _, _ => False
  | n + 1, v1, v2, st => w_X3_bareTowns_L4q   K (fun v1 v2 st => w_X3_bareTowns_L4   K n v1 v2 st) v1 v2 st
def w_X3_bareTowns  (st : St) (K : Int32 → St → Prop) : Prop :=
  ∃ n, w_X3_bareTowns_L4   K n 0 0 st
def w_X6_size  (st : St) (K : Int32 → St → Prop) : Prop :=
  K (st 6 1) st
def w_X6_number (x1 : Int32) (st : St) (K : Int32 → St → Prop) : Prop :=
  w_X8_at 7 12 x1 st (fun r5 st5 => K r5 st5)
def w_X3_firstMisjudged_L9q (x1 : Int32)  (K : Int32 → St → Prop) (c9 : Int32 → St → Prop) (v3 : Int32) (st : St) : Prop :=
  w_X6_size  st (fun r11 st11 => (r11 ≤ v3 → K (-9) st11) ∧ (¬ r11 ≤ v3 → w_X1_hasKeeper 11 v3 st11 (fun r22 st22 => (r22 = 0 → K v3 st22) ∧ (¬ r22 = 0 → w_X6_number v3 st22 (fun r30 st30 => w_X3_hateOrSelf x1 v3 st30 (fun r36 st36 => (r30 = r36 → c9 (v3 + 1) st36) ∧ (¬ r30 = r36 → K v3 st36)))))))
def w_X3_firstMisjudged_L9 (x1 : Int32)  (K : Int32 → St → Prop) : Nat → Int32 → St → Prop
  | 0, _, _ => False
  | n + 1, v3, st => w_X3_firstMisjudged_L9q x1  K (fun v3 st => w_X3_firstMisjudged_L9 x1  K n v3 st) v3 st
def w_X3_firstMisjudged (x1 : Int32) (st : St) (K : Int32 → St → Prop) : Prop :=
  ∃ n, w_X3_firstMisjudged_L9 x1  K n 0 st
def w_X4_hateAfter (x1 : Int32) (x2 : Int32) (x3 : Int32) (st : St) (K : Int32 → St → Prop) : Prop :=
  w_X1_become 99 11 st (fun st8 => w_X1_passWeeks 99 x3 st8 (fun r16 st16 => w_X1_hateOf 99 x1 x2 st16 (fun r26 st26 => K r26 st26)))
def w_X4_openBitsAfter (x1 : Int32) (st : St) (K : Int32 → St → Prop) : Prop :=
  w_X1_become 99 11 st (fun st8 => w_X1_passWeeks 99 x1 st8 (fun r16 st16 => w_X1_openBits 99 st16 (fun r24 st24 => K r24 st24)))
def w_X4_allHateAfter (x1 : Int32) (st : St) (K : Int32 → St → Prop) : Prop :=
  w_X1_become 99 11 st (fun st8 => w_X1_passWeeks 99 x1 st8 (fun r16 st16 => w_X1_allHate 99 st16 (fun r24 st24 => K r24 st24)))
def w_X4_weekOpened_L13q (x1 : Int32)  (K : Int32 → St → Prop) (c13 : Int32 → St → Prop) (v2 : Int32) (st : St) : Prop :=
  (60 < v2 → K (-9) st) ∧ (¬ 60 < v2 → w_X1_isOpen 99 x1 st (fun r24 st24 => (r24 = 0 → w_X1_passWeek 99 st24 (fun r36 st36 => c13 (v2 + 1) st36)) ∧ (¬ r24 = 0 → K v2 st24)))
def w_X4_weekOpened_L13 (x1 : Int32)  (K : Int32 → St → Prop) : Nat → Int32 → St → Prop
  | 0, _, _ => False
  | n + 1, v2, st => w_X4_weekOpened_L13q x1  K (fun v2 st => w_X4_weekOpened_L13 x1  K n v2 st) v2 st
def w_X4_weekOpened (x1 : Int32) (st : St) (K : Int32 → St → Prop) : Prop :=
  w_X1_become 99 11 st (fun st8 => ∃ n, w_X4_weekOpened_L13 x1  K n 0 st8)
def w_X4_openedBy (x1 : Int32) (st : St) (K : Int32 → St → Prop) : Prop :=
  w_X1_become 99 11 st (fun st8 => w_X1_passWeeks 99 60 st8 (fun r17 st17 => w_X1_openedBy 99 x1 st17 (fun r26 st26 => K r26 st26)))
def w_X4_weekBelow_L14q (x1 : Int32) (x2 : Int32) (x3 : Int32)  (K : Int32 → St → Prop) (c14 : Int32 → St → Prop) (v4 : Int32) (st : St) : Prop :=
  (60 < v4 → K (-9) st) ∧ (¬ 60 < v4 → w_X1_hateOf 99 x1 x2 st (fun r27 st27 => (x3 ≤ r27 → w_X1_passWeek 99 st27 (fun r41 st41 => c14 (v4 + 1) st41)) ∧ (¬ x3 ≤ r27 → K v4 st27)))
def w_X4_weekBelow_L14 (x1 : Int32) (x2 : Int32) (x3 : Int32)  (K : Int32 → St → Prop) : Nat → Int32 → St → Prop
  | 0, _, _ => False
  | n + 1, v4, st => w_X4_weekBelow_L14q x1 x2 x3  K (fun v4 st => w_X4_weekBelow_L14 x1 x2 x3  K n v4 st) v4 st
def w_X4_weekBelow (x1 : Int32) (x2 : Int32) (x3 : Int32) (st : St) (K : Int32 → St → Prop) : Prop :=
  w_X1_become 99 11 st (fun st8 => ∃ n, w_X4_weekBelow_L14 x1 x2 x3  K n 0 st8)
def w_X4_sealedFar  (st : St) (K : Int32 → St → Prop) : Prop :=
  w_X1_letterCount 11 st (fun r5 st5 => w_X4_openBitsAfter 60 st5 (fun r14 st14 => K ((((1 : Int32) <<< (r5 &&& 31)) - 1) &&& (r14 ^^^ (-1))) st14))
def w_X4_firstOpened_b52  (c13 : Int32 → St → Prop) (K : Int32 → St → Prop) (v1 : Int32) (st : St) : Prop :=
  c13 (v1 + 1) st
def w_X4_firstOpened_L29q  (c13 : Int32 → St → Prop) (K : Int32 → St → Prop) (c29 : Int32 → Int32 → Int32 → St → Prop) (v1 : Int32) (v2 : Int32) (v3 : Int32) (st : St) : Prop :=
  (6 ≤ v3 → w_X4_firstOpened_b52  c13 K v1 st) ∧ (¬ 6 ≤ v3 → w_X8_bit v2 v3 st (fun r37 st37 => (¬ r37 = 1 → c29 v1 v2 (v3 + 1) st37) ∧ (r37 = 1 → K v3 st37)))
def w_X4_firstOpened_L29  (c13 : Int32 → St → Prop) (K : Int32 → St → Prop) : Nat → Int32 → Int32 → Int32 → St → Prop
  | 0, _, _, _, _ => False
  | n + 1, v1, v2, v3, st => w_X4_firstOpened_L29q  c13 K (fun v1 v2 v3 st => w_X4_firstOpened_L29  c13 K n v1 v2 v3 st) v1 v2 v3 st
def w_X4_firstOpened_L13q   (K : Int32 → St → Prop) (c13 : Int32 → St → Prop) (v1 : Int32) (st : St) : Prop :=
  (60 < v1 → K (-9) st) ∧ (¬ 60 < v1 → w_X1_passWeek 99 st (fun r23 st23 => ∃ n, w_X4_firstOpened_L29  c13 K n v1 r23 0 st23))
def w_X4_firstOpened_L13   (K : Int32 → St → Prop) : Nat → Int32 → St → Prop
  | 0, _, _ => False
  | n + 1, v1, st => w_X4_firstOpened_L13q   K (fun v1 st => w_X4_firstOpened_L13   K n v1 st) v1 st
def w_X4_firstOpened  (st : St) (K : Int32 → St → Prop) : Prop :=
  w_X1_become 99 11 st (fun st8 => ∃ n, w_X4_firstOpened_L13   K n 1 st8)
def w_X4_leastInsult_L3q (x1 : Int32) (x2 : Int32) (x3 : Int32)  (K : Int32 → St → Prop) (c3 : Int32 → St → Prop) (v4 : Int32) (st : St) : Prop :=
  (99 < v4 → K (-9) st) ∧ (¬ 99 < v4 → w_X1_become 99 11 st (fun st18 => w_X1_hateOf 11 x1 x2 st18 (fun r33 st33 => w_X1_setHate 99 x1 x2 (r33 + v4) st33 (fun st39 => w_X1_passWeek 99 st39 (fun r46 st46 => w_X1_openedBy 99 x3 st46 (fun r55 st55 => w_X8_twoName x1 x2 st55 (fun r60 st60 => (¬ r55 = r60 → c3 (v4 + 1) st60) ∧ (r55 = r60 → K v4 st60))))))))
def w_X4_leastInsult_L3 (x1 : Int32) (x2 : Int32) (x3 : Int32)  (K : Int32 → St → Prop) : Nat → Int32 → St → Prop
  | 0, _, _ => False
  | n + 1, v4, st => w_X4_leastInsult_L3q x1 x2 x3  K (fun v4 st => w_X4_leastInsult_L3 x1 x2 x3  K n v4 st) v4 st
def w_X4_leastInsult (x1 : Int32) (x2 : Int32) (x3 : Int32) (st : St) (K : Int32 → St → Prop) : Prop :=
  ∃ n, w_X4_leastInsult_L3 x1 x2 x3  K n 0 st
def w_X4_idleWeeks_b33 (x1 : Int32) (c15 : Int32 → Int32 → St → Prop) (K : Int32 → St → Prop) (v2 : Int32) (v3 : Int32) (st : St) : Prop :=
  c15 v2 (v3 + 1) st
def w_X4_idleWeeks_L15q (x1 : Int32)  (K : Int32 → St → Prop) (c15 : Int32 → Int32 → St → Prop) (v2 : Int32) (v3 : Int32) (st : St) : Prop :=
  (x1 ≤ v3 → K v2 st) ∧ (¬ x1 ≤ v3 → w_X1_passWeek 99 st (fun r24 st24 => (¬ r24 = 0 → w_X4_idleWeeks_b33 x1 c15 K v2 v3 st24) ∧ (r24 = 0 → w_X4_idleWeeks_b33 x1 c15 K (v2 + 1) v3 st24)))
def w_X4_idleWeeks_L15 (x1 : Int32)  (K : Int32 → St → Prop) : Nat → Int32 → Int32 → St → Prop
  | 0, _, _, _ => False
  | n + 1, v2, v3, st => w_X4_idleWeeks_L15q x1  K (fun v2 v3 st => w_X4_idleWeeks_L15 x1  K n v2 v3 st) v2 v3 st
def w_X4_idleWeeks (x1 : Int32) (st : St) (K : Int32 → St → Prop) : Prop :=
  w_X1_become 99 11 st (fun st8 => ∃ n, w_X4_idleWeeks_L15 x1  K n 0 0 st8)
def w_X4_openAsAllIs (x1 : Int32) (st : St) (K : Int32 → St → Prop) : Prop :=
  w_X1_become 99 11 st (fun st8 => w_X1_passWeeks 99 x1 st8 (fun r16 st16 => K r16 st16))
def w_X4_bestSending_b97 (x1 : Int32) (c12 : Int32 → Int32 → Int32 → St → Prop) (c27 : Int32 → Int32 → Int32 → Int32 → St → Prop) (K : Int32 → St → Prop) (v2 : Int32) (v3 : Int32) (v4 : Int32) (v5 : Int32) (st : St) : Prop :=
  c27 v2 v3 v4 (v5 + 1) st
def w_X4_bestSending_b103 (x1 : Int32) (c12 : Int32 → Int32 → Int32 → St → Prop) (K : Int32 → St → Prop) (v2 : Int32) (v3 : Int32) (v4 : Int32) (st : St) : Prop :=
  c12 v2 v3 (v4 + 1) st
def w_X4_bestSending_L27q (x1 : Int32) (c12 : Int32 → Int32 → Int32 → St → Prop) (K : Int32 → St → Prop) (c27 : Int32 → Int32 → Int32 → Int32 → St → Prop) (v2 : Int32) (v3 : Int32) (v4 : Int32) (v5 : Int32) (st : St) : Prop :=
  (4 ≤ v5 → w_X4_bestSending_b103 x1 c12 K v2 v3 v4 st) ∧ (¬ 4 ≤ v5 → w_X1_townOf 11 v4 st (fun r41 st41 => (v5 = r41 → w_X4_bestSending_b97 x1 c12 c27 K v2 v3 v4 v5 st41) ∧ (¬ v5 = r41 → w_X1_become 99 11 st41 (fun st55 => w_X1_move 99 v4 v5 st55 (fun st66 => w_X1_passWeeks 99 x1 st66 (fun r74 st74 => (r74 ≤ v3 → w_X4_bestSending_b97 x1 c12 c27 K v2 v3 v4 v5 st74) ∧ (¬ r74 ≤ v3 → w_X4_bestSending_b97 x1 c12 c27 K ((10 * v4) + v5) r74 v4 v5 st74)))))))
def w_X4_bestSending_L27 (x1 : Int32) (c12 : Int32 → Int32 → Int32 → St → Prop) (K : Int32 → St → Prop) : Nat → Int32 → Int32 → Int32 → Int32 → St → Prop
  | 0, _, _, _, _, _ => False
  | n + 1, v2, v3, v4, v5, st => w_X4_bestSending_L27q x1 c12 K (fun v2 v3 v4 v5 st => w_X4_bestSending_L27 x1 c12 K n v2 v3 v4 v5 st) v2 v3 v4 v5 st
def w_X4_bestSending_L12q (x1 : Int32)  (K : Int32 → St → Prop) (c12 : Int32 → Int32 → Int32 → St → Prop) (v2 : Int32) (v3 : Int32) (v4 : Int32) (st : St) : Prop :=
  w_X1_keeperCount 11 st (fun r18 st18 => (r18 ≤ v4 → K v2 st18) ∧ (¬ r18 ≤ v4 → ∃ n, w_X4_bestSending_L27 x1 c12 K n v2 v3 v4 0 st18))
def w_X4_bestSending_L12 (x1 : Int32)  (K : Int32 → St → Prop) : Nat → Int32 → Int32 → Int32 → St → Prop
  | 0, _, _, _, _ => False
  | n + 1, v2, v3, v4, st => w_X4_bestSending_L12q x1  K (fun v2 v3 v4 st => w_X4_bestSending_L12 x1  K n v2 v3 v4 st) v2 v3 v4 st
def w_X4_bestSending (x1 : Int32) (st : St) (K : Int32 → St → Prop) : Prop :=
  w_X4_openAsAllIs x1 st (fun r5 st5 => ∃ n, w_X4_bestSending_L12 x1  K n (-9) r5 0 st5)
def w_X4_bestSwap_b137 (x1 : Int32) (c12 : Int32 → Int32 → Int32 → St → Prop) (c30 : Int32 → Int32 → Int32 → Int32 → St → Prop) (K : Int32 → St → Prop) (v2 : Int32) (v3 : Int32) (v4 : Int32) (v5 : Int32) (st : St) : Prop :=
  c30 v2 v3 v4 (v5 + 1) st
def w_X4_bestSwap_b143 (x1 : Int32) (c12 : Int32 → Int32 → Int32 → St → Prop) (K : Int32 → St → Prop) (v2 : Int32) (v3 : Int32) (v4 : Int32) (st : St) : Prop :=
  c12 v2 v3 (v4 + 1) st
def w_X4_bestSwap_L30q (x1 : Int32) (c12 : Int32 → Int32 → Int32 → St → Prop) (K : Int32 → St → Prop) (c30 : Int32 → Int32 → Int32 → Int32 → St → Prop) (v2 : Int32) (v3 : Int32) (v4 : Int32) (v5 : Int32) (st : St) : Prop :=
  w_X1_keeperCount 11 st (fun r36 st36 => (r36 ≤ v5 → w_X4_bestSwap_b143 x1 c12 K v2 v3 v4 st36) ∧ (¬ r36 ≤ v5 → w_X1_townOf 11 v4 st36 (fun r48 st48 => w_X1_townOf 11 v5 st48 (fun r57 st57 => (r48 = r57 → w_X4_bestSwap_b137 x1 c12 c30 K v2 v3 v4 v5 st57) ∧ (¬ r48 = r57 → w_X1_become 99 11 st57 (fun st71 => w_X1_townOf 11 v5 st71 (fun r86 st86 => w_X1_move 99 v4 r86 st86 (fun st89 => w_X1_townOf 11 v4 st89 (fun r104 st104 => w_X1_move 99 v5 r104 st104 (fun st107 => w_X1_passWeeks 99 x1 st107 (fun r115 st115 => (r115 ≤ v3 → w_X4_bestSwap_b137 x1 c12 c30 K v2 v3 v4 v5 st115) ∧ (¬ r115 ≤ v3 → w_X8_twoName v4 v5 st115 (fun r133 st133 => w_X4_bestSwap_b137 x1 c12 c30 K r133 r115 v4 v5 st133)))))))))))))
def w_X4_bestSwap_L30 (x1 : Int32) (c12 : Int32 → Int32 → Int32 → St → Prop) (K : Int32 → St → Prop) : Nat → Int32 → Int32 → Int32 → Int32 → St → Prop
  | 0, _, _, _, _, _ => False
  | n + 1, v2, v3, v4, v5, st => w_X4_bestSwap_L30q x1 c12 K (fun v2 v3 v4 v5 st => w_X4_bestSwap_L30 x1 c12 K n v2 v3 v4 v5 st) v2 v3 v4 v5 st
def w_X4_bestSwap_L12q (x1 : Int32)  (K : Int32 → St → Prop) (c12 : Int32 → Int32 → Int32 → St → Prop) (v2 : Int32) (v3 : Int32) (v4 : Int32) (st : St) : Prop :=
  w_X1_keeperCount 11 st (fun r18 st18 => (r18 ≤ v4 → K v2 st18) ∧ (¬ r18 ≤ v4 → ∃ n, w_X4_bestSwap_L30 x1 c12 K n v2 v3 v4 (v4 + 1) st18))
def w_X4_bestSwap_L12 (x1 : Int32)  (K : Int32 → St → Prop) : Nat → Int32 → Int32 → Int32 → St → Prop
  | 0, _, _, _, _ => False
  | n + 1, v2, v3, v4, st => w_X4_bestSwap_L12q x1  K (fun v2 v3 v4 st => w_X4_bestSwap_L12 x1  K n v2 v3 v4 st) v2 v3 v4 st
def w_X4_bestSwap (x1 : Int32) (st : St) (K : Int32 → St → Prop) : Prop :=
  w_X4_openAsAllIs x1 st (fun r5 st5 => ∃ n, w_X4_bestSwap_L12 x1  K n (-9) r5 0 st5)
def w_X4_openPlaced (x1 : Int32) (x2 : Int32) (x3 : Int32) (x4 : Int32) (x5 : Int32) (st : St) (K : Int32 → St → Prop) : Prop :=
  w_X1_become 99 11 st (fun st8 => w_X1_move 99 x1 (x5 / 100) st8 (fun st21 => w_X1_move 99 x2 ((x5 / 10) - (x5 / 10) / 10 * 10) st21 (fun st37 => w_X1_move 99 x3 (x5 - x5 / 10 * 10) st37 (fun st50 => w_X1_passWeeks 99 x4 st50 (fun r59 st59 => K r59 st59)))))
def w_X4_bestPlaces_b69 (x1 : Int32) (x2 : Int32) (x3 : Int32) (x4 : Int32) (c9 : Int32 → Int32 → Int32 → St → Prop) (K : Int32 → St → Prop) (v5 : Int32) (v6 : Int32) (v7 : Int32) (st : St) : Prop :=
  c9 v5 v6 (v7 + 1) st
def w_X4_bestPlaces_L9q (x1 : Int32) (x2 : Int32) (x3 : Int32) (x4 : Int32)  (K : Int32 → St → Prop) (c9 : Int32 → Int32 → Int32 → St → Prop) (v5 : Int32) (v6 : Int32) (v7 : Int32) (st : St) : Prop :=
  (64 ≤ v7 → K v5 st) ∧ (¬ 64 ≤ v7 → w_X4_openPlaced x1 x2 x3 x4 ((((v7 / 16) * 100) + (((v7 / 4) - (v7 / 4) / 4 * 4) * 10)) + (v7 - v7 / 4 * 4)) st (fun r49 st49 => (r49 ≤ v6 → w_X4_bestPlaces_b69 x1 x2 x3 x4 c9 K v5 v6 v7 st49) ∧ (¬ r49 ≤ v6 → w_X4_bestPlaces_b69 x1 x2 x3 x4 c9 K ((((v7 / 16) * 100) + (((v7 / 4) - (v7 / 4) / 4 * 4) * 10)) + (v7 - v7 / 4 * 4)) r49 v7 st49)))
def w_X4_bestPlaces_L9 (x1 : Int32) (x2 : Int32) (x3 : Int32) (x4 : Int32)  (K : Int32 → St → Prop) : Nat → Int32 → Int32 → Int32 → St → Prop
  | 0, _, _, _, _ => False
  | n + 1, v5, v6, v7, st => w_X4_bestPlaces_L9q x1 x2 x3 x4  K (fun v5 v6 v7 st => w_X4_bestPlaces_L9 x1 x2 x3 x4  K n v5 v6 v7 st) v5 v6 v7 st
def w_X4_bestPlaces (x1 : Int32) (x2 : Int32) (x3 : Int32) (x4 : Int32) (st : St) (K : Int32 → St → Prop) : Prop :=
  ∃ n, w_X4_bestPlaces_L9 x1 x2 x3 x4  K n 0 (-1) 0 st
def w_X4_openKept_b41 (x1 : Int32) (x2 : Int32) (c13 : Int32 → St → Prop) (K : Int32 → St → Prop) (v3 : Int32) (st : St) : Prop :=
  c13 (v3 + 1) st
def w_X4_openKept_b47 (x1 : Int32) (x2 : Int32)  (K : Int32 → St → Prop)  (st : St) : Prop :=
  w_X1_passWeeks 99 x2 st (fun r52 st52 => K r52 st52)
def w_X4_openKept_L13q (x1 : Int32) (x2 : Int32)  (K : Int32 → St → Prop) (c13 : Int32 → St → Prop) (v3 : Int32) (st : St) : Prop :=
  w_X1_keeperCount 11 st (fun r18 st18 => (r18 ≤ v3 → w_X4_openKept_b47 x1 x2  K st18) ∧ (¬ r18 ≤ v3 → w_X8_bit x1 v3 st18 (fun r26 st26 => (¬ r26 = 0 → w_X4_openKept_b41 x1 x2 c13 K v3 st26) ∧ (r26 = 0 → w_X1_move 99 v3 (-1) st26 (fun st38 => w_X4_openKept_b41 x1 x2 c13 K v3 st38)))))
def w_X4_openKept_L13 (x1 : Int32) (x2 : Int32)  (K : Int32 → St → Prop) : Nat → Int32 → St → Prop
  | 0, _, _ => False
  | n + 1, v3, st => w_X4_openKept_L13q x1 x2  K (fun v3 st => w_X4_openKept_L13 x1 x2  K n v3 st) v3 st
def w_X4_openKept (x1 : Int32) (x2 : Int32) (st : St) (K : Int32 → St → Prop) : Prop :=
  w_X1_become 99 11 st (fun st8 => ∃ n, w_X4_openKept_L13 x1 x2  K n 0 st8)
def w_X4_fewestKept_b70 (x1 : Int32) (c24 : Int32 → Int32 → Int32 → Int32 → St → Prop) (K : Int32 → St → Prop) (v2 : Int32) (v3 : Int32) (v4 : Int32) (v5 : Int32) (st : St) : Prop :=
  c24 v2 v3 v4 (v5 + 1) st
def w_X4_fewestKept_b48 (x1 : Int32) (c24 : Int32 → Int32 → Int32 → Int32 → St → Prop) (K : Int32 → St → Prop) (v2 : Int32) (v3 : Int32) (v4 : Int32) (v5 : Int32) (s0 : Int32) (st : St) : Prop :=
  (s0 = 0 → w_X4_fewestKept_b70 x1 c24 K v2 v3 v4 v5 st) ∧ (¬ s0 = 0 → w_X4_openKept v5 x1 st (fun r59 st59 => (r59 < v3 → w_X4_fewestKept_b70 x1 c24 K v2 v3 v4 v5 st59) ∧ (¬ r59 < v3 → w_X4_fewestKept_b70 x1 c24 K v2 v3 v5 v5 st59)))
def w_X4_fewestKept_L24q (x1 : Int32)  (K : Int32 → St → Prop) (c24 : Int32 → Int32 → Int32 → Int32 → St → Prop) (v2 : Int32) (v3 : Int32) (v4 : Int32) (v5 : Int32) (st : St) : Prop :=
  (v2 ≤ v5 → K v4 st) ∧ (¬ v2 ≤ v5 → w_J6_bitCount_0f7a4 v5 st (fun r32 st32 => w_J6_bitCount_0f7a4 v4 st32 (fun r37 st37 => (r37 ≤ r32 → w_X4_fewestKept_b48 x1 c24 K v2 v3 v4 v5 0 st37) ∧ (¬ r37 ≤ r32 → w_X4_fewestKept_b48 x1 c24 K v2 v3 v4 v5 1 st37))))
def w_X4_fewestKept_L24 (x1 : Int32)  (K : Int32 → St → Prop) : Nat → Int32 → Int32 → Int32 → Int32 → St → Prop
  | 0, _, _, _, _, _ => False
  | n + 1, v2, v3, v4, v5, st => w_X4_fewestKept_L24q x1  K (fun v2 v3 v4 v5 st => w_X4_fewestKept_L24 x1  K n v2 v3 v4 v5 st) v2 v3 v4 v5 st
def w_X4_fewestKept (x1 : Int32) (st : St) (K : Int32 → St → Prop) : Prop :=
  w_X1_keeperCount 11 st (fun r5 st5 => w_X4_openAsAllIs x1 st5 (fun r14 st14 => ∃ n, w_X4_fewestKept_L24 x1  K n (((1 : Int32) <<< (r5 &&& 31)) - 1) r14 (((1 : Int32) <<< (r5 &&& 31)) - 1) 0 st14))
def w_X4_opensAsTold_L8q   (K : Int32 → St → Prop) (c8 : Int32 → St → Prop) (v2 : Int32) (st : St) : Prop :=
  w_X6_size  st (fun r10 st10 => (r10 ≤ v2 → K 1 st10) ∧ (¬ r10 ≤ v2 → w_X1_openCount 99 st10 (fun r20 st20 => w_X6_number v2 st20 (fun r25 st25 => (r20 = r25 → w_X1_passWeek 99 st25 (fun r37 st37 => c8 (v2 + 1) st37)) ∧ (¬ r20 = r25 → K 0 st25)))))
def w_X4_opensAsTold_L8   (K : Int32 → St → Prop) : Nat → Int32 → St → Prop
  | 0, _, _ => False
  | n + 1, v2, st => w_X4_opensAsTold_L8q   K (fun v2 st => w_X4_opensAsTold_L8   K n v2 st) v2 st
def w_X4_opensAsTold  (st : St) (K : Int32 → St → Prop) : Prop :=
  ∃ n, w_X4_opensAsTold_L8   K n 0 st
def w_X4_fittingHate_b74 (x1 : Int32) (x2 : Int32) (x4 : Int32) (c14 : Int32 → Int32 → Int32 → Int32 → St → Prop) (K : Int32 → St → Prop) (v5 : Int32) (v6 : Int32) (v7 : Int32) (v8 : Int32) (st : St) : Prop :=
  c14 v5 v6 v7 (v8 + 1) st
def w_X4_fittingHate_b68 (x1 : Int32) (x2 : Int32) (x4 : Int32) (c14 : Int32 → Int32 → Int32 → Int32 → St → Prop) (K : Int32 → St → Prop) (v5 : Int32) (v8 : Int32) (s0 : Int32) (st : St) : Prop :=
  w_X4_fittingHate_b74 x1 x2 x4 c14 K v5 s0 v8 v8 st
def w_X4_fittingHate_b80 (x1 : Int32) (x2 : Int32) (x4 : Int32)  (K : Int32 → St → Prop) (v5 : Int32) (v6 : Int32) (v7 : Int32) (st : St) : Prop :=
  (¬ x4 = 0 → (¬ x4 = 1 → K v7 st) ∧ (x4 = 1 → K v6 st)) ∧ (x4 = 0 → K v5 st)
def w_X4_fittingHate_L14q (x1 : Int32) (x2 : Int32) (x4 : Int32)  (K : Int32 → St → Prop) (c14 : Int32 → Int32 → Int32 → Int32 → St → Prop) (v5 : Int32) (v6 : Int32) (v7 : Int32) (v8 : Int32) (st : St) : Prop :=
  (99 < v8 → w_X4_fittingHate_b80 x1 x2 x4  K v5 v6 v7 st) ∧ (¬ 99 < v8 → w_X1_become 99 11 st (fun st29 => w_X1_setHate 99 x1 x2 v8 st29 (fun st40 => w_X4_opensAsTold  st40 (fun r45 st45 => (r45 = 0 → w_X4_fittingHate_b74 x1 x2 x4 c14 K v5 v6 v7 v8 st45) ∧ (¬ r45 = 0 → (¬ v6 = (-9) → w_X4_fittingHate_b68 x1 x2 x4 c14 K (v5 + 1) v8 v6 st45) ∧ (v6 = (-9) → w_X4_fittingHate_b68 x1 x2 x4 c14 K (v5 + 1) v8 v8 st45))))))
def w_X4_fittingHate_L14 (x1 : Int32) (x2 : Int32) (x4 : Int32)  (K : Int32 → St → Prop) : Nat → Int32 → Int32 → Int32 → Int32 → St → Prop
  | 0, _, _, _, _, _ => False
  | n + 1, v5, v6, v7, v8, st => w_X4_fittingHate_L14q x1 x2 x4  K (fun v5 v6 v7 v8 st => w_X4_fittingHate_L14 x1 x2 x4  K n v5 v6 v7 v8 st) v5 v6 v7 v8 st
def w_X4_fittingHate (x1 : Int32) (x2 : Int32) (x4 : Int32) (st : St) (K : Int32 → St → Prop) : Prop :=
  ∃ n, w_X4_fittingHate_L14 x1 x2 x4  K n 0 (-9) (-9) 0 st
def w_X4_hatesAsTold_L9q (x1 : Int32) (x2 : Int32)  (K : Int32 → St → Prop) (c9 : Int32 → St → Prop) (v4 : Int32) (st : St) : Prop :=
  w_X6_size  st (fun r12 st12 => (r12 ≤ v4 → K 1 st12) ∧ (¬ r12 ≤ v4 → w_X1_hateOf 99 x1 x2 st12 (fun r24 st24 => w_X6_number v4 st24 (fun r30 st30 => (r24 = r30 → w_X1_passWeek 99 st30 (fun r42 st42 => c9 (v4 + 1) st42)) ∧ (¬ r24 = r30 → K 0 st30)))))
def w_X4_hatesAsTold_L9 (x1 : Int32) (x2 : Int32)  (K : Int32 → St → Prop) : Nat → Int32 → St → Prop
  | 0, _, _ => False
  | n + 1, v4, st => w_X4_hatesAsTold_L9q x1 x2  K (fun v4 st => w_X4_hatesAsTold_L9 x1 x2  K n v4 st) v4 st
def w_X4_hatesAsTold (x1 : Int32) (x2 : Int32) (st : St) (K : Int32 → St → Prop) : Prop :=
  ∃ n, w_X4_hatesAsTold_L9 x1 x2  K n 0 st
def w_X4_fittingKinds_b53 (x1 : Int32) (x2 : Int32) (c6 : Int32 → Int32 → St → Prop) (K : Int32 → St → Prop) (v4 : Int32) (v5 : Int32) (st : St) : Prop :=
  c6 v4 (v5 + 1) st
def w_X4_fittingKinds_L6q (x1 : Int32) (x2 : Int32)  (K : Int32 → St → Prop) (c6 : Int32 → Int32 → St → Prop) (v4 : Int32) (v5 : Int32) (st : St) : Prop :=
  (6 ≤ v5 → K v4 st) ∧ (¬ 6 ≤ v5 → w_X1_become 99 11 st (fun st21 => w_X1_setKind 99 x1 v5 st21 (fun st31 => w_X4_hatesAsTold x1 x2 st31 (fun r38 st38 => (r38 = 0 → w_X4_fittingKinds_b53 x1 x2 c6 K v4 v5 st38) ∧ (¬ r38 = 0 → w_X4_fittingKinds_b53 x1 x2 c6 K (v4 ||| ((1 : Int32) <<< (v5 &&& 31))) v5 st38)))))
def w_X4_fittingKinds_L6 (x1 : Int32) (x2 : Int32)  (K : Int32 → St → Prop) : Nat → Int32 → Int32 → St → Prop
  | 0, _, _, _ => False
  | n + 1, v4, v5, st => w_X4_fittingKinds_L6q x1 x2  K (fun v4 v5 st => w_X4_fittingKinds_L6 x1 x2  K n v4 v5 st) v4 v5 st
def w_X4_fittingKinds (x1 : Int32) (x2 : Int32) (st : St) (K : Int32 → St → Prop) : Prop :=
  ∃ n, w_X4_fittingKinds_L6 x1 x2  K n 0 0 st
def w_X4_fittingFigures_b53 (x1 : Int32) (x2 : Int32) (c6 : Int32 → Int32 → St → Prop) (K : Int32 → St → Prop) (v4 : Int32) (v5 : Int32) (st : St) : Prop :=
  c6 v4 (v5 + 1) st
def w_X4_fittingFigures_L6q (x1 : Int32) (x2 : Int32)  (K : Int32 → St → Prop) (c6 : Int32 → Int32 → St → Prop) (v4 : Int32) (v5 : Int32) (st : St) : Prop :=
  (9 < v5 → K v4 st) ∧ (¬ 9 < v5 → w_X1_become 99 11 st (fun st21 => w_X1_setFigure 99 x1 v5 st21 (fun st31 => w_X4_hatesAsTold x1 x2 st31 (fun r38 st38 => (r38 = 0 → w_X4_fittingFigures_b53 x1 x2 c6 K v4 v5 st38) ∧ (¬ r38 = 0 → w_X4_fittingFigures_b53 x1 x2 c6 K (v4 ||| ((1 : Int32) <<< (v5 &&& 31))) v5 st38)))))
def w_X4_fittingFigures_L6 (x1 : Int32) (x2 : Int32)  (K : Int32 → St → Prop) : Nat → Int32 → Int32 → St → Prop
  | 0, _, _, _ => False
  | n + 1, v4, v5, st => w_X4_fittingFigures_L6q x1 x2  K (fun v4 v5 st => w_X4_fittingFigures_L6 x1 x2  K n v4 v5 st) v4 v5 st
def w_X4_fittingFigures (x1 : Int32) (x2 : Int32) (st : St) (K : Int32 → St → Prop) : Prop :=
  ∃ n, w_X4_fittingFigures_L6 x1 x2  K n 0 0 st
def w_X4_hateMadeUp (x1 : Int32) (x2 : Int32) (st : St) (K : Int32 → St → Prop) : Prop :=
  w_X1_become 99 11 st (fun st8 => w_X1_hateOf 11 x1 x2 st8 (fun r23 st23 => w_X1_setHate 99 x1 x2 (r23 / 2) st23 (fun st28 => w_X1_passWeeks 99 4 st28 (fun r36 st36 => w_X1_hateOf 99 x1 x2 st36 (fun r46 st46 => K r46 st46)))))
def w_X4_gain_b33 (x1 : Int32) (x2 : Int32) (x3 : Int32) (x4 : Int32) (x5 : Int32)  (K : Int32 → St → Prop) (v6 : Int32) (s0 : Int32) (st : St) : Prop :=
  w_X1_wageOf 11 x1 st (fun r41 st41 => K (((4 * r41) - (v6 / 2)) - s0) st41)
def w_X4_gain_b32 (x1 : Int32) (x2 : Int32) (x3 : Int32) (x4 : Int32) (x5 : Int32)  (K : Int32 → St → Prop) (v6 : Int32) (st : St) : Prop :=
  w_X4_gain_b33 x1 x2 x3 x4 x5  K v6 0 st
def w_X4_gain_b17 (x1 : Int32) (x2 : Int32) (x3 : Int32) (x4 : Int32) (x5 : Int32)  (K : Int32 → St → Prop) (s0 : Int32) (st : St) : Prop :=
  (¬ x2 = 1 → w_X4_gain_b32 x1 x2 x3 x4 x5  K s0 st) ∧ (x2 = 1 → (¬ x3 = 0 → w_X4_gain_b32 x1 x2 x3 x4 x5  K s0 st) ∧ (x3 = 0 → w_X4_gain_b33 x1 x2 x3 x4 x5  K s0 3 st))
def w_X4_gain_b15 (x1 : Int32) (x2 : Int32) (x3 : Int32) (x4 : Int32) (x5 : Int32)  (K : Int32 → St → Prop)  (st : St) : Prop :=
  w_X4_gain_b17 x1 x2 x3 x4 x5  K x4 st
def w_X4_gain (x1 : Int32) (x2 : Int32) (x3 : Int32) (x4 : Int32) (x5 : Int32) (st : St) (K : Int32 → St → Prop) : Prop :=
  (¬ x2 = 1 → w_X4_gain_b15 x1 x2 x3 x4 x5  K st) ∧ (x2 = 1 → (¬ x3 = 1 → w_X4_gain_b15 x1 x2 x3 x4 x5  K st) ∧ (x3 = 1 → w_X4_gain_b17 x1 x2 x3 x4 x5  K x5 st))
def w_X4_settled_b119 (x1 : Int32) (x2 : Int32)  (K : Int32 → St → Prop) (v6 : Int32) (v7 : Int32) (st : St) : Prop :=
  K ((10 * v6) + v7) st
def w_X4_settled_b128 (x1 : Int32) (x2 : Int32) (c19 : Int32 → Int32 → Int32 → St → Prop) (K : Int32 → St → Prop) (v3 : Int32) (v4 : Int32) (v5 : Int32) (st : St) : Prop :=
  c19 v3 v4 (v5 + 1) st
def w_X4_settled_b107 (x1 : Int32) (x2 : Int32) (c19 : Int32 → Int32 → Int32 → St → Prop) (K : Int32 → St → Prop) (v3 : Int32) (v4 : Int32) (v5 : Int32) (v6 : Int32) (v7 : Int32) (v8 : Int32) (s0 : Int32) (st : St) : Prop :=
  (v8 = 0 → w_X4_settled_b128 x1 x2 c19 K v3 v4 v5 st) ∧ (¬ v8 = 0 → (s0 = 0 → w_X4_settled_b128 x1 x2 c19 K v3 v4 v5 st) ∧ (¬ s0 = 0 → w_X4_settled_b119 x1 x2  K v6 v7 st))
def w_X4_settled_b71 (x1 : Int32) (x2 : Int32) (c19 : Int32 → Int32 → Int32 → St → Prop) (K : Int32 → St → Prop) (v3 : Int32) (v4 : Int32) (v5 : Int32) (v6 : Int32) (v7 : Int32) (s0 : Int32) (st : St) : Prop :=
  w_X4_gain x2 v7 v6 v3 v4 st (fun r82 st82 => w_X4_gain x2 (1 - v7) v6 v3 v4 st82 (fun r96 st96 => (r82 < r96 → w_X4_settled_b107 x1 x2 c19 K v3 v4 v5 v6 v7 s0 0 st96) ∧ (¬ r82 < r96 → w_X4_settled_b107 x1 x2 c19 K v3 v4 v5 v6 v7 s0 1 st96)))
def w_X4_settled_L19q (x1 : Int32) (x2 : Int32)  (K : Int32 → St → Prop) (c19 : Int32 → Int32 → Int32 → St → Prop) (v3 : Int32) (v4 : Int32) (v5 : Int32) (st : St) : Prop :=
  (4 ≤ v5 → K (-9) st) ∧ (¬ 4 ≤ v5 → w_X4_gain x1 (v5 / 2) (v5 - v5 / 2 * 2) v3 v4 st (fun r46 st46 => w_X4_gain x1 (1 - (v5 / 2)) (v5 - v5 / 2 * 2) v3 v4 st46 (fun r60 st60 => (r46 < r60 → w_X4_settled_b71 x1 x2 c19 K v3 v4 v5 (v5 / 2) (v5 - v5 / 2 * 2) 0 st60) ∧ (¬ r46 < r60 → w_X4_settled_b71 x1 x2 c19 K v3 v4 v5 (v5 / 2) (v5 - v5 / 2 * 2) 1 st60))))
def w_X4_settled_L19 (x1 : Int32) (x2 : Int32)  (K : Int32 → St → Prop) : Nat → Int32 → Int32 → Int32 → St → Prop
  | 0, _, _, _, _ => False
  | n + 1, v3, v4, v5, st => w_X4_settled_L19q x1 x2  K (fun v3 v4 v5 st => w_X4_settled_L19 x1 x2  K n v3 v4 v5 st) v3 v4 v5 st
def w_X4_settled (x1 : Int32) (x2 : Int32) (st : St) (K : Int32 → St → Prop) : Prop :=
  w_X4_hateAfter x1 x2 4 st (fun r4 st4 => w_X4_hateMadeUp x1 x2 st4 (fun r11 st11 => ∃ n, w_X4_settled_L19 x1 x2  K n r4 r11 0 st11))
def w_X4_meetingWays_b68 (x1 : Int32) (x2 : Int32) (x3 : Int32) (x4 : Int32) (x5 : Int32) (c6 : Int64 → Int32 → St → Prop) (c29 : Int64 → Int32 → Int32 → St → Prop) (K : Int64 → St → Prop) (v6 : Int64) (v8 : Int32) (v9 : Int32) (st : St) : Prop :=
  w_X1_passWeek 99 st (fun r72 st72 => c29 v6 v8 (v9 + 1) st72)
def w_X4_meetingWays_b113 (x1 : Int32) (x2 : Int32) (x3 : Int32) (x4 : Int32) (x5 : Int32) (c6 : Int64 → Int32 → St → Prop) (K : Int64 → St → Prop) (v6 : Int64) (v8 : Int32) (st : St) : Prop :=
  c6 v6 (v8 + 1) st
def w_X4_meetingWays_b82 (x1 : Int32) (x2 : Int32) (x3 : Int32) (x4 : Int32) (x5 : Int32) (c6 : Int64 → Int32 → St → Prop) (K : Int64 → St → Prop) (v6 : Int64) (v8 : Int32) (st : St) : Prop :=
  w_X1_isOpen 99 x3 st (fun r87 st87 => (r87 = 0 → w_X4_meetingWays_b113 x1 x2 x3 x4 x5 c6 K v6 v8 st87) ∧ (¬ r87 = 0 → w_J6_bitCount_0f7a4 v8 st87 (fun r103 st103 => w_X0_power (x5 - 1) (x4 - r103) st103 (fun r107 st107 => w_X4_meetingWays_b113 x1 x2 x3 x4 x5 c6 K (v6 + r107) v8 st107))))
def w_X4_meetingWays_L29q (x1 : Int32) (x2 : Int32) (x3 : Int32) (x4 : Int32) (x5 : Int32) (c6 : Int64 → Int32 → St → Prop) (K : Int64 → St → Prop) (c29 : Int64 → Int32 → Int32 → St → Prop) (v6 : Int64) (v8 : Int32) (v9 : Int32) (st : St) : Prop :=
  (x4 ≤ v9 → w_X4_meetingWays_b82 x1 x2 x3 x4 x5 c6 K v6 v8 st) ∧ (¬ x4 ≤ v9 → w_X8_bit v8 v9 st (fun r40 st40 => (¬ r40 = 1 → w_X4_meetingWays_b68 x1 x2 x3 x4 x5 c6 c29 K v6 v8 v9 st40) ∧ (r40 = 1 → w_X1_hateOf 99 x1 x2 st40 (fun r59 st59 => w_X1_setHate 99 x1 x2 (r59 - 10) st59 (fun st65 => w_X4_meetingWays_b68 x1 x2 x3 x4 x5 c6 c29 K v6 v8 v9 st65)))))
def w_X4_meetingWays_L29 (x1 : Int32) (x2 : Int32) (x3 : Int32) (x4 : Int32) (x5 : Int32) (c6 : Int64 → Int32 → St → Prop) (K : Int64 → St → Prop) : Nat → Int64 → Int32 → Int32 → St → Prop
  | 0, _, _, _, _ => False
  | n + 1, v6, v8, v9, st => w_X4_meetingWays_L29q x1 x2 x3 x4 x5 c6 K (fun v6 v8 v9 st => w_X4_meetingWays_L29 x1 x2 x3 x4 x5 c6 K n v6 v8 v9 st) v6 v8 v9 st
def w_X4_meetingWays_L6q (x1 : Int32) (x2 : Int32) (x3 : Int32) (x4 : Int32) (x5 : Int32)  (K : Int64 → St → Prop) (c6 : Int64 → Int32 → St → Prop) (v6 : Int64) (v8 : Int32) (st : St) : Prop :=
  (((1 : Int32) <<< (x4 &&& 31)) ≤ v8 → K v6 st) ∧ (¬ ((1 : Int32) <<< (x4 &&& 31)) ≤ v8 → w_X1_become 99 11 st (fun st23 => ∃ n, w_X4_meetingWays_L29 x1 x2 x3 x4 x5 c6 K n v6 v8 0 st23))
def w_X4_meetingWays_L6 (x1 : Int32) (x2 : Int32) (x3 : Int32) (x4 : Int32) (x5 : Int32)  (K : Int64 → St → Prop) : Nat → Int64 → Int32 → St → Prop
  | 0, _, _, _ => False
  | n + 1, v6, v8, st => w_X4_meetingWays_L6q x1 x2 x3 x4 x5  K (fun v6 v8 st => w_X4_meetingWays_L6 x1 x2 x3 x4 x5  K n v6 v8 st) v6 v8 st
def w_X4_meetingWays (x1 : Int32) (x2 : Int32) (x3 : Int32) (x4 : Int32) (x5 : Int32) (st : St) (K : Int64 → St → Prop) : Prop :=
  ∃ n, w_X4_meetingWays_L6 x1 x2 x3 x4 x5  K n 0 0 st
def w_X4_byLot_b101 (x1 : Int32) (x2 : Int32) (x3 : Int32) (c12 : Int32 → Int32 → Int32 → Int32 → St → Prop) (c32 : Int32 → Int32 → Int32 → Int32 → Int32 → St → Prop) (K : Int32 → St → Prop) (v4 : Int32) (v5 : Int32) (v6 : Int32) (v7 : Int32) (v8 : Int32) (st : St) : Prop :=
  c32 v4 v5 v6 v7 (v8 + 1) st
def w_X4_byLot_L50q (x1 : Int32) (x2 : Int32) (x3 : Int32) (c12 : Int32 → Int32 → Int32 → Int32 → St → Prop) (c32 : Int32 → Int32 → Int32 → Int32 → Int32 → St → Prop) (K : Int32 → St → Prop) (c50 : Int32 → Int32 → Int32 → Int32 → Int32 → Int32 → St → Prop) (v4 : Int32) (v5 : Int32) (v6 : Int32) (v7 : Int32) (v8 : Int32) (v9 : Int32) (st : St) : Prop :=
  w_X1_keeperCount 11 st (fun r56 st56 => (r56 ≤ v9 → w_X4_byLot_b101 x1 x2 x3 c12 c32 K v4 v5 v6 v7 v8 st56) ∧ (¬ r56 ≤ v9 → w_X1_setHate 99 v8 v9 (((((v4 * 1103515245) + 12345) &&& 2147483647) / 65536) - ((((v4 * 1103515245) + 12345) &&& 2147483647) / 65536) / 60 * 60) st56 (fun st92 => c50 ((v4 * 1103515245) + 12345) v5 v6 v7 v8 (v9 + 1) st92)))
def w_X4_byLot_L50 (x1 : Int32) (x2 : Int32) (x3 : Int32) (c12 : Int32 → Int32 → Int32 → Int32 → St → Prop) (c32 : Int32 → Int32 → Int32 → Int32 → Int32 → St → Prop) (K : Int32 → St → Prop) : Nat → Int32 → Int32 → Int32 → Int32 → Int32 → Int32 → St → Prop
  | 0, _, _, _, _, _, _, _ => False
  | n + 1, v4, v5, v6, v7, v8, v9, st => w_X4_byLot_L50q x1 x2 x3 c12 c32 K (fun v4 v5 v6 v7 v8 v9 st => w_X4_byLot_L50 x1 x2 x3 c12 c32 K n v4 v5 v6 v7 v8 v9 st) v4 v5 v6 v7 v8 v9 st
def w_X4_byLot_b107 (x1 : Int32) (x2 : Int32) (x3 : Int32) (c12 : Int32 → Int32 → Int32 → Int32 → St → Prop) (K : Int32 → St → Prop) (v4 : Int32) (v5 : Int32) (v6 : Int32) (v7 : Int32) (st : St) : Prop :=
  w_X1_passWeeks 99 10 st (fun r115 st115 => w_X1_openCount 11 st115 (fun r122 st122 => w_X1_allHate 99 st122 (fun r135 st135 => c12 v4 (v5 + (r115 - r122)) (v6 + r135) (v7 + 1) st135)))
def w_X4_byLot_L32q (x1 : Int32) (x2 : Int32) (x3 : Int32) (c12 : Int32 → Int32 → Int32 → Int32 → St → Prop) (K : Int32 → St → Prop) (c32 : Int32 → Int32 → Int32 → Int32 → Int32 → St → Prop) (v4 : Int32) (v5 : Int32) (v6 : Int32) (v7 : Int32) (v8 : Int32) (st : St) : Prop :=
  w_X1_keeperCount 11 st (fun r38 st38 => (r38 ≤ v8 → w_X4_byLot_b107 x1 x2 x3 c12 K v4 v5 v6 v7 st38) ∧ (¬ r38 ≤ v8 → ∃ n, w_X4_byLot_L50 x1 x2 x3 c12 c32 K n v4 v5 v6 v7 v8 (v8 + 1) st38))
def w_X4_byLot_L32 (x1 : Int32) (x2 : Int32) (x3 : Int32) (c12 : Int32 → Int32 → Int32 → Int32 → St → Prop) (K : Int32 → St → Prop) : Nat → Int32 → Int32 → Int32 → Int32 → Int32 → St → Prop
  | 0, _, _, _, _, _, _ => False
  | n + 1, v4, v5, v6, v7, v8, st => w_X4_byLot_L32q x1 x2 x3 c12 K (fun v4 v5 v6 v7 v8 st => w_X4_byLot_L32 x1 x2 x3 c12 K n v4 v5 v6 v7 v8 st) v4 v5 v6 v7 v8 st
def w_X4_byLot_b147 (x1 : Int32) (x2 : Int32) (x3 : Int32)  (K : Int32 → St → Prop) (v5 : Int32) (v6 : Int32) (st : St) : Prop :=
  (¬ x3 = 0 → K v6 st) ∧ (x3 = 0 → K v5 st)
def w_X4_byLot_L12q (x1 : Int32) (x2 : Int32) (x3 : Int32)  (K : Int32 → St → Prop) (c12 : Int32 → Int32 → Int32 → Int32 → St → Prop) (v4 : Int32) (v5 : Int32) (v6 : Int32) (v7 : Int32) (st : St) : Prop :=
  (x1 ≤ v7 → w_X4_byLot_b147 x1 x2 x3  K v5 v6 st) ∧ (¬ x1 ≤ v7 → w_X1_become 99 11 st (fun st26 => ∃ n, w_X4_byLot_L32 x1 x2 x3 c12 K n v4 v5 v6 v7 0 st26))
def w_X4_byLot_L12 (x1 : Int32) (x2 : Int32) (x3 : Int32)  (K : Int32 → St → Prop) : Nat → Int32 → Int32 → Int32 → Int32 → St → Prop
  | 0, _, _, _, _, _ => False
  | n + 1, v4, v5, v6, v7, st => w_X4_byLot_L12q x1 x2 x3  K (fun v4 v5 v6 v7 st => w_X4_byLot_L12 x1 x2 x3  K n v4 v5 v6 v7 st) v4 v5 v6 v7 st
def w_X4_byLot (x1 : Int32) (x2 : Int32) (x3 : Int32) (st : St) (K : Int32 → St → Prop) : Prop :=
  ∃ n, w_X4_byLot_L12 x1 x2 x3  K n x2 0 0 0 st
def w_X5_size  (st : St) (K : Int32 → St → Prop) : Prop :=
  K (st 2 2) st
def w_X5_forget  (st : St) (K : St → Prop) : Prop :=
  K (u2 st 2 2 0)
def w_X5_country (x1 : Int32) (st : St) (K : Option Nat → St → Prop) : Prop :=
  (x1 < 0 → K none st) ∧ (¬ x1 < 0 → (8 ≤ x1 → K none st) ∧ (¬ 8 ≤ x1 → vp_in x1 8 ∧ (K (some (35 + 8 * (x1).toNatClampNeg)) st)))
def w_X5_remember (k1 : Nat) (st : St) (K : St → Prop) : Prop :=
  w_X5_country (st 2 1) st (fun r5 st5 => (r5 = none → K st5) ∧ (∀ q5 : Nat, r5 = some q5 → w_X1_become q5 k1 st5 (fun st15 => K (u2 (u2 st15 2 1 (((st15 2 1) + 1) - ((st15 2 1) + 1) / 8 * 8)) 2 2 (if (((u2 st15 2 1 (((st15 2 1) + 1) - ((st15 2 1) + 1) / 8 * 8)) 2 2) + 1) < 8 then (((u2 st15 2 1 (((st15 2 1) + 1) - ((st15 2 1) + 1) / 8 * 8)) 2 2) + 1) else 8)))))
def w_X5_takeBack (k1 : Nat) (st : St) (K : St → Prop) : Prop :=
  w_X5_country ((((st 2 1) + 8) - 1) - (((st 2 1) + 8) - 1) / 8 * 8) st (fun r15 st15 => (r15 = none → ((st15 2 2) ≤ 0 → K st15) ∧ (¬ (st15 2 2) ≤ 0 → K st15)) ∧ (∀ q15 : Nat, r15 = some q15 → ((st15 2 2) ≤ 0 → K st15) ∧ (¬ (st15 2 2) ≤ 0 → w_X1_become k1 q15 st15 (fun st36 => K (u2 (u2 st36 2 1 ((((st 2 1) + 8) - 1) - (((st 2 1) + 8) - 1) / 8 * 8)) 2 2 (((u2 st36 2 1 ((((st 2 1) + 8) - 1) - (((st 2 1) + 8) - 1) / 8 * 8)) 2 2) - 1))))))
def w_X6_isFull  (st : St) (K : Int32 → St → Prop) : Prop :=
  ((st 6 1) < 12 → K 0 st) ∧ (¬ (st 6 1) < 12 → K 1 st)
def w_X6_add (x1 : Int32) (st : St) (K : Int32 → St → Prop) : Prop :=
  w_X8_put 7 12 (st 6 1) x1 st (fun st9 => K ((u2 st9 6 1 (if ((st9 6 1) + 1) < 12 then ((st9 6 1) + 1) else 12)) 6 1) (u2 st9 6 1 (if ((st9 6 1) + 1) < 12 then ((st9 6 1) + 1) else 12)))
def w_X6_empty  (st : St) (K : St → Prop) : Prop :=
  K (u2 st 6 1 0)
def w_X7_size  (st : St) (K : Int32 → St → Prop) : Prop :=
  K (st 4 1) st
def w_X7_isFull  (st : St) (K : Int32 → St → Prop) : Prop :=
  ((st 4 1) < 96 → K 0 st) ∧ (¬ (st 4 1) < 96 → K 1 st)
def w_X7_add (x1 : Int32) (st : St) (K : Int32 → St → Prop) : Prop :=
  w_X8_put 5 96 (st 4 1) x1 st (fun st9 => K ((u2 st9 4 1 (if ((st9 4 1) + 1) < 96 then ((st9 4 1) + 1) else 96)) 4 1) (u2 st9 4 1 (if ((st9 4 1) + 1) < 96 then ((st9 4 1) + 1) else 96)))
def w_X7_empty  (st : St) (K : St → Prop) : Prop :=
  K (u2 st 4 1 0)
def w_X7_sign (x1 : Int32) (st : St) (K : Int32 → St → Prop) : Prop :=
  ((st 4 1) ≤ x1 → K (-1) st) ∧ (¬ (st 4 1) ≤ x1 → w_X8_at 5 96 x1 st (fun r13 st13 => K r13 st13))
def w_X7_digitsBehind (x0 : Int32) (st : St) (K : Int32 → St → Prop) : Prop :=
  (x0 = 103 → K 2 st) ∧ (¬ x0 = 103 → (x0 = 104 → K 4 st) ∧ (¬ x0 = 104 → (x0 = 107 → K 3 st) ∧ (¬ x0 = 107 → (x0 = 108 → K 3 st) ∧ (¬ x0 = 108 → (x0 = 115 → K 1 st) ∧ (¬ x0 = 115 → (x0 = 119 → K 2 st) ∧ (¬ x0 = 119 → K 0 st))))))
def w_X7_isDigit (x1 : Int32) (st : St) (K : Int32 → St → Prop) : Prop :=
  w_X7_sign x1 st (fun r2 st2 => (r2 < 48 → K 0 st2) ∧ (¬ r2 < 48 → w_X7_sign x1 st2 (fun r12 st12 => (57 < r12 → K 0 st12) ∧ (¬ 57 < r12 → K 1 st12))))
def w_X7_brokenPlace_b79  (c13 : Int32 → Int32 → St → Prop) (K : Int32 → St → Prop) (v2 : Int32) (v4 : Int32) (st : St) : Prop :=
  w_X7_sign v4 st (fun r82 st82 => (r82 = 59 → c13 (v4 + 1) (v2 + 1) st82) ∧ (¬ r82 = 59 → K v4 st82))
def w_X7_brokenPlace_L54q  (c13 : Int32 → Int32 → St → Prop) (K : Int32 → St → Prop) (c54 : Int32 → Int32 → Int32 → St → Prop) (v2 : Int32) (v4 : Int32) (v5 : Int32) (st : St) : Prop :=
  (v4 ≤ v5 → w_X7_brokenPlace_b79  c13 K v2 v4 st) ∧ (¬ v4 ≤ v5 → w_X7_isDigit v5 st (fun r64 st64 => (¬ r64 = 0 → c54 v2 v4 (v5 + 1) st64) ∧ (r64 = 0 → K v5 st64)))
def w_X7_brokenPlace_L54  (c13 : Int32 → Int32 → St → Prop) (K : Int32 → St → Prop) : Nat → Int32 → Int32 → Int32 → St → Prop
  | 0, _, _, _, _ => False
  | n + 1, v2, v4, v5, st => w_X7_brokenPlace_L54q  c13 K (fun v2 v4 v5 st => w_X7_brokenPlace_L54  c13 K n v2 v4 v5 st) v2 v4 v5 st
def w_X7_brokenPlace_L13q   (K : Int32 → St → Prop) (c13 : Int32 → Int32 → St → Prop) (v1 : Int32) (v2 : Int32) (st : St) : Prop :=
  (96 ≤ v2 → K (-1) st) ∧ (¬ 96 ≤ v2 → ((st 4 1) ≤ v1 → K (-1) st) ∧ (¬ (st 4 1) ≤ v1 → w_X7_sign v1 st (fun r29 st29 => w_X7_digitsBehind r29 st29 (fun r32 st32 => (¬ r32 = 0 → ∃ n, w_X7_brokenPlace_L54  c13 K n v2 ((v1 + r32) + 1) (v1 + 1) st32) ∧ (r32 = 0 → K v1 st32)))))
def w_X7_brokenPlace_L13   (K : Int32 → St → Prop) : Nat → Int32 → Int32 → St → Prop
  | 0, _, _, _ => False
  | n + 1, v1, v2, st => w_X7_brokenPlace_L13q   K (fun v1 v2 st => w_X7_brokenPlace_L13   K n v1 v2 st) v1 v2 st
def w_X7_brokenPlace  (st : St) (K : Int32 → St → Prop) : Prop :=
  (¬ (st 4 1) = 0 → ∃ n, w_X7_brokenPlace_L13   K n 0 0 st) ∧ ((st 4 1) = 0 → K 0 st)
def w_X7_digit (x1 : Int32) (st : St) (K : Int32 → St → Prop) : Prop :=
  w_X7_sign x1 st (fun r2 st2 => K (r2 - 48) st2)
def w_X7_twoDigits (x1 : Int32) (st : St) (K : Int32 → St → Prop) : Prop :=
  w_X7_digit x1 st (fun r4 st4 => w_X7_digit (x1 + 1) st4 (fun r12 st12 => K ((10 * r4) + r12) st12))
def w_X8_isTown (x0 : Int32) (st : St) (K : Int32 → St → Prop) : Prop :=
  (x0 < 0 → K 0 st) ∧ (¬ x0 < 0 → (4 ≤ x0 → K 0 st) ∧ (¬ 4 ≤ x0 → K 1 st))
def w_X7_isRight (x1 : Int32) (k2 : Nat) (st : St) (K : Int32 → St → Prop) : Prop :=
  w_X7_digit (x1 + 1) st (fun r4 st4 => w_X7_digit (x1 + 2) st4 (fun r12 st12 => w_X7_digit (x1 + 3) st12 (fun r21 st21 => w_X7_twoDigits (x1 + 1) st21 (fun r30 st30 => w_X7_sign x1 st30 (fun r37 st37 => (r37 = 103 → w_X1_hasKeeper k2 r4 st37 (fun r166 st166 => (r166 = 0 → K 0 st166) ∧ (¬ r166 = 0 → w_X8_isTown r12 st166 (fun r174 st174 => (r174 = 0 → K 0 st174) ∧ (¬ r174 = 0 → K 1 st174))))) ∧ (¬ r37 = 103 → (r37 = 104 → w_X1_areTwo k2 r4 r12 st37 (fun r139 st139 => (r139 = 0 ∨ r139 = 1) ∧ K r139 st139)) ∧ (¬ r37 = 104 → (r37 = 107 → (6 ≤ r4 → K 0 st37) ∧ (¬ 6 ≤ r4 → w_X8_isTown r21 st37 (fun r116 st116 => (r116 = 0 → K 0 st116) ∧ (¬ r116 = 0 → w_X1_hasKeeperRoom k2 st116 (fun r123 st123 => (r123 = 0 → K 0 st123) ∧ (¬ r123 = 0 → K 1 st123)))))) ∧ (¬ r37 = 107 → (r37 = 108 → w_X8_isTown r21 st37 (fun r145 st145 => (r145 = 0 → K 0 st145) ∧ (¬ r145 = 0 → w_X1_hasLetterRoom k2 st145 (fun r152 st152 => (r152 = 0 → K 0 st152) ∧ (¬ r152 = 0 → K 1 st152))))) ∧ (¬ r37 = 108 → (r37 = 115 → w_X1_hasLetter k2 r4 st37 (fun r188 st188 => (r188 = 0 ∨ r188 = 1) ∧ K r188 st188)) ∧ (¬ r37 = 115 → (r30 < 1 → K 0 st37) ∧ (¬ r30 < 1 → (60 < r30 → K 0 st37) ∧ (¬ 60 < r30 → w_X1_weekNow k2 st37 (fun r211 st211 => ((999 - r211) < r30 → K 0 st211) ∧ (¬ (999 - r211) < r30 → K 1 st211))))))))))))))
def w_X7_comes (x1 : Int32) (k2 : Nat) (st : St) (K : St → Prop) : Prop :=
  w_X7_digit (x1 + 1) st (fun r4 st4 => w_X7_digit (x1 + 2) st4 (fun r12 st12 => w_X7_sign x1 st12 (fun r19 st19 => (r19 = 103 → w_X1_move k2 r4 r12 st19 (fun st149 => K st149)) ∧ (¬ r19 = 103 → (r19 = 104 → w_X7_twoDigits (x1 + 3) st19 (fun r114 st114 => w_X1_setHate k2 r4 r12 r114 st114 (fun st117 => K st117))) ∧ (¬ r19 = 104 → (r19 = 107 → w_X7_digit (x1 + 3) st19 (fun r96 st96 => w_X1_addKeeper k2 r4 r12 r96 st96 (fun r99 st99 => K st99))) ∧ (¬ r19 = 107 → (r19 = 108 → w_X7_digit (x1 + 3) st19 (fun r128 st128 => w_X7_twoDigits (x1 + 1) st128 (fun r135 st135 => w_X1_addLetter k2 r128 r135 st135 (fun r138 st138 => K st138)))) ∧ (¬ r19 = 108 → (r19 = 115 → w_X1_turnSeal k2 r4 st19 (fun st157 => K st157)) ∧ (¬ r19 = 115 → w_X7_twoDigits (x1 + 1) st19 (fun r168 st168 => w_X1_passWeeks k2 r168 st168 (fun r171 st171 => K st171))))))))))
def w_X7_tellTo_b54 (k1 : Nat)  (K : Int32 → St → Prop) (v4 : Int32) (st : St) : Prop :=
  K ((-2000) - v4) st
def w_X7_tellTo_L24q (k1 : Nat)  (K : Int32 → St → Prop) (c24 : Int32 → Int32 → Int32 → St → Prop) (v3 : Int32) (v4 : Int32) (v5 : Int32) (st : St) : Prop :=
  (96 ≤ v5 → K v3 st) ∧ (¬ 96 ≤ v5 → ((st 4 1) ≤ v4 → K v3 st) ∧ (¬ (st 4 1) ≤ v4 → w_X7_isRight v4 k1 st (fun r48 st48 => (¬ r48 = 0 → w_X7_comes v4 k1 st48 (fun st65 => w_X7_sign v4 st65 (fun r76 st76 => w_X7_digitsBehind r76 st76 (fun r79 st79 => c24 (v3 + 1) (v4 + (r79 + 2)) (v5 + 1) st79)))) ∧ (r48 = 0 → w_X7_tellTo_b54 k1  K v4 st48))))
def w_X7_tellTo_L24 (k1 : Nat)  (K : Int32 → St → Prop) : Nat → Int32 → Int32 → Int32 → St → Prop
  | 0, _, _, _, _ => False
  | n + 1, v3, v4, v5, st => w_X7_tellTo_L24q k1  K (fun v3 v4 v5 st => w_X7_tellTo_L24 k1  K n v3 v4 v5 st) v3 v4 v5 st
def w_X7_tellTo (k1 : Nat) (st : St) (K : Int32 → St → Prop) : Prop :=
  w_X7_brokenPlace  st (fun r1 st1 => (r1 = (-1) → ∃ n, w_X7_tellTo_L24 k1  K n 0 0 0 st1) ∧ (¬ r1 = (-1) → K ((-1000) - r1) st1))
def w_X8_range (x0 : Int32) (x1 : Int32) (x2 : Int32) (st : St) (K : Int32 → St → Prop) : Prop :=
  (x1 ≤ x0 → (x0 ≤ x2 → K 0 st) ∧ (¬ x0 ≤ x2 → K (-6) st)) ∧ (¬ x1 ≤ x0 → K (-4) st)
def w_X8_firstOf (x0 : Int32) (x1 : Int32) (x2 : Int32) (st : St) (K : Int32 → St → Prop) : Prop :=
  (x0 = 0 → (x1 = 0 → K x2 st) ∧ (¬ x1 = 0 → K x1 st)) ∧ (¬ x0 = 0 → K x0 st)
def w_X8_refused (x1 : Int32) (st : St) (K : Int32 → St → Prop) : Prop :=
  w_X8_at 1 7 (-x1) st (fun r12 st12 => w_X8_put 1 7 (-x1) (r12 + 1) st12 (fun st17 => K x1 st17))
def w_X8_feed_b24 (x1 : Int32)  (K : Int32 → St → Prop) (s0 : Int32) (s1 : Int32) (st : St) : Prop :=
  w_X8_firstOf s1 s0 0 st (fun r25 st25 => (r25 = 0 → w_X7_add x1 st25 (fun r46 st46 => K r46 st46)) ∧ (¬ r25 = 0 → w_X8_refused r25 st25 (fun r35 st35 => K r35 st35)))
def w_X8_feed (x1 : Int32) (st : St) (K : Int32 → St → Prop) : Prop :=
  w_X8_range x1 0 255 st (fun r5 st5 => w_X7_isFull  st5 (fun r12 st12 => (r12 = 0 → w_X8_feed_b24 x1  K 0 r5 st12) ∧ (¬ r12 = 0 → w_X8_feed_b24 x1  K (-6) r5 st12)))
def w_X8_land  (st : St) (K : Int32 → St → Prop) : Prop :=
  w_X1_become 19 11 st (fun st8 => w_X7_tellTo 19 st8 (fun r19 st19 => w_X7_empty  st19 (fun st27 => (r19 ≤ 0 → K r19 st27) ∧ (¬ r19 ≤ 0 → w_X1_become 11 19 st27 (fun st42 => w_X5_forget  st42 (fun st49 => K r19 st49))))))
def w_X8_keeperRefusal (x1 : Int32) (st : St) (K : Int32 → St → Prop) : Prop :=
  w_X1_hasKeeper 11 x1 st (fun r5 st5 => (r5 = 0 → K (-1) st5) ∧ (¬ r5 = 0 → K 0 st5))
def w_X8_choice (x0 : Int32) (x1 : Int32) (st : St) (K : Int32 → St → Prop) : Prop :=
  (x0 < 0 → K (-2) st) ∧ (¬ x0 < 0 → (x1 < x0 → K (-2) st) ∧ (¬ x1 < x0 → K 0 st))
def w_X8_keeperOf (x1 : Int32) (x2 : Int32) (st : St) (K : Int32 → St → Prop) : Prop :=
  w_X8_keeperRefusal x1 st (fun r2 st2 => w_X8_choice x2 5 st2 (fun r7 st7 => w_X8_firstOf r2 r7 0 st7 (fun r11 st11 => (r11 = 0 → (x2 = 0 → w_X1_kindOf 11 x1 st11 (fun r65 st65 => K r65 st65)) ∧ (¬ x2 = 0 → (x2 = 1 → w_X1_figureOf 11 x1 st11 (fun r74 st74 => K r74 st74)) ∧ (¬ x2 = 1 → (x2 = 2 → w_X1_townOf 11 x1 st11 (fun r83 st83 => K r83 st83)) ∧ (¬ x2 = 2 → (x2 = 3 → w_X1_fadeOf 11 x1 st11 (fun r92 st92 => K r92 st92)) ∧ (¬ x2 = 3 → (x2 = 4 → w_X1_stirOf 11 x1 st11 (fun r101 st101 => K r101 st101)) ∧ (¬ x2 = 4 → w_X1_wageOf 11 x1 st11 (fun r110 st110 => K r110 st110))))))) ∧ (¬ r11 = 0 → w_X8_refused r11 st11 (fun r21 st21 => K r21 st21)))))
def w_X8_letterRefusal (x1 : Int32) (st : St) (K : Int32 → St → Prop) : Prop :=
  w_X1_hasLetter 11 x1 st (fun r5 st5 => (r5 = 0 → K (-1) st5) ∧ (¬ r5 = 0 → K 0 st5))
def w_X8_letterOf (x1 : Int32) (x2 : Int32) (st : St) (K : Int32 → St → Prop) : Prop :=
  w_X8_letterRefusal x1 st (fun r2 st2 => w_X8_choice x2 3 st2 (fun r7 st7 => w_X8_firstOf r2 r7 0 st7 (fun r11 st11 => (r11 = 0 → (x2 = 0 → w_X1_depthOf 11 x1 st11 (fun r57 st57 => K r57 st57)) ∧ (¬ x2 = 0 → (x2 = 1 → w_X1_letterTownOf 11 x1 st11 (fun r66 st66 => K r66 st66)) ∧ (¬ x2 = 1 → (x2 = 2 → w_X1_isOpen 11 x1 st11 (fun r75 st75 => (r75 = 0 → K 0 st75) ∧ (¬ r75 = 0 → K 1 st75))) ∧ (¬ x2 = 2 → w_X1_opener 11 x1 st11 (fun r92 st92 => K r92 st92))))) ∧ (¬ r11 = 0 → w_X8_refused r11 st11 (fun r21 st21 => K r21 st21)))))
def w_X8_twoRefusal (x1 : Int32) (x2 : Int32) (st : St) (K : Int32 → St → Prop) : Prop :=
  w_X1_areTwo 11 x1 x2 st (fun r6 st6 => (r6 = 0 → K (-1) st6) ∧ (¬ r6 = 0 → K 0 st6))
def w_X8_hate (x1 : Int32) (x2 : Int32) (st : St) (K : Int32 → St → Prop) : Prop :=
  w_X8_twoRefusal x1 x2 st (fun r3 st3 => (r3 = 0 → w_X1_hateOf 11 x1 x2 st3 (fun r25 st25 => K r25 st25)) ∧ (¬ r3 = 0 → w_X8_refused r3 st3 (fun r13 st13 => K r13 st13)))
def w_X8_count (x1 : Int32) (st : St) (K : Int32 → St → Prop) : Prop :=
  (x1 = 0 → w_X1_keeperCount 11 st (fun r52 st52 => K r52 st52)) ∧ (¬ x1 = 0 → (x1 = 1 → w_X1_letterCount 11 st (fun r60 st60 => K r60 st60)) ∧ (¬ x1 = 1 → (x1 = 2 → w_X1_weekNow 11 st (fun r68 st68 => K r68 st68)) ∧ (¬ x1 = 2 → (x1 = 3 → w_X1_openBits 11 st (fun r76 st76 => K r76 st76)) ∧ (¬ x1 = 3 → (x1 = 4 → w_X1_allHate 11 st (fun r84 st84 => K r84 st84)) ∧ (¬ x1 = 4 → (x1 = 5 → w_X7_size  st (fun r92 st92 => K r92 st92)) ∧ (¬ x1 = 5 → (x1 = 6 → w_X6_size  st (fun r100 st100 => K r100 st100)) ∧ (¬ x1 = 6 → (x1 = 7 → w_X5_size  st (fun r108 st108 => K r108 st108)) ∧ (¬ x1 = 7 → (x1 < 11 → K (-9) st) ∧ (¬ x1 < 11 → (16 < x1 → K (-9) st) ∧ (¬ 16 < x1 → w_X8_at 1 7 (x1 - 10) st (fun r132 st132 => K r132 st132)))))))))))
def w_X8_townRefusal (x0 : Int32) (st : St) (K : Int32 → St → Prop) : Prop :=
  w_X8_isTown x0 st (fun r1 st1 => (r1 = 0 → K (-1) st1) ∧ (¬ r1 = 0 → K 0 st1))
def w_X8_keeper_b34 (x1 : Int32) (x2 : Int32) (x3 : Int32)  (K : Int32 → St → Prop) (v4 : Int32) (s0 : Int32) (st : St) : Prop :=
  w_X8_range x2 0 9 st (fun r38 st38 => w_X8_firstOf s0 r38 v4 st38 (fun r43 st43 => w_X8_townRefusal x3 st43 (fun r51 st51 => w_X8_firstOf r43 r51 0 st51 (fun r55 st55 => (r55 = 0 → w_X5_forget  st55 (fun st76 => w_X1_addKeeper 11 x1 x2 x3 st76 (fun r86 st86 => K r86 st86))) ∧ (¬ r55 = 0 → w_X8_refused r55 st55 (fun r68 st68 => K r68 st68))))))
def w_X8_keeper_b28 (x1 : Int32) (x2 : Int32) (x3 : Int32)  (K : Int32 → St → Prop) (v4 : Int32) (st : St) : Prop :=
  w_X8_keeper_b34 x1 x2 x3  K v4 (-2) st
def w_X8_keeper_b16 (x1 : Int32) (x2 : Int32) (x3 : Int32)  (K : Int32 → St → Prop) (s0 : Int32) (st : St) : Prop :=
  (x1 < 0 → w_X8_keeper_b28 x1 x2 x3  K s0 st) ∧ (¬ x1 < 0 → (x1 < 6 → w_X8_keeper_b34 x1 x2 x3  K s0 0 st) ∧ (¬ x1 < 6 → w_X8_keeper_b28 x1 x2 x3  K s0 st))
def w_X8_keeper (x1 : Int32) (x2 : Int32) (x3 : Int32) (st : St) (K : Int32 → St → Prop) : Prop :=
  w_X1_hasKeeperRoom 11 st (fun r4 st4 => (r4 = 0 → w_X8_keeper_b16 x1 x2 x3  K (-6) st4) ∧ (¬ r4 = 0 → w_X8_keeper_b16 x1 x2 x3  K 0 st4))
def w_X8_letter_b16 (x1 : Int32) (x2 : Int32)  (K : Int32 → St → Prop) (s0 : Int32) (st : St) : Prop :=
  w_X8_townRefusal x1 st (fun r18 st18 => w_X8_range x2 0 99 st18 (fun r25 st25 => w_X8_firstOf r18 r25 s0 st25 (fun r29 st29 => (r29 = 0 → w_X5_forget  st29 (fun st50 => w_X1_addLetter 11 x1 x2 st50 (fun r59 st59 => K r59 st59))) ∧ (¬ r29 = 0 → w_X8_refused r29 st29 (fun r42 st42 => K r42 st42)))))
def w_X8_letter (x1 : Int32) (x2 : Int32) (st : St) (K : Int32 → St → Prop) : Prop :=
  w_X1_hasLetterRoom 11 st (fun r4 st4 => (r4 = 0 → w_X8_letter_b16 x1 x2  K (-6) st4) ∧ (¬ r4 = 0 → w_X8_letter_b16 x1 x2  K 0 st4))
def w_X8_hates (x1 : Int32) (x2 : Int32) (x3 : Int32) (st : St) (K : Int32 → St → Prop) : Prop :=
  w_X8_twoRefusal x1 x2 st (fun r3 st3 => w_X8_range x3 0 99 st3 (fun r10 st10 => w_X8_firstOf r3 r10 0 st10 (fun r14 st14 => (r14 = 0 → w_X5_remember 11 st14 (fun st39 => w_X1_hateOf 11 x1 x2 st39 (fun r48 st48 => w_X1_setHate 11 x1 x2 x3 st48 (fun st60 => K r48 st60)))) ∧ (¬ r14 = 0 → w_X8_refused r14 st14 (fun r27 st27 => K r27 st27)))))
def w_X8_goes (x1 : Int32) (x2 : Int32) (st : St) (K : Int32 → St → Prop) : Prop :=
  w_X8_keeperRefusal x1 st (fun r2 st2 => w_X8_townRefusal x2 st2 (fun r6 st6 => w_X8_firstOf r2 r6 0 st6 (fun r10 st10 => (r10 = 0 → w_X5_remember 11 st10 (fun st32 => w_X1_townOf 11 x1 st32 (fun r40 st40 => w_X1_move 11 x1 x2 st40 (fun st51 => K r40 st51)))) ∧ (¬ r10 = 0 → w_X8_refused r10 st10 (fun r20 st20 => K r20 st20)))))
def w_X8_seals (x1 : Int32) (st : St) (K : Int32 → St → Prop) : Prop :=
  w_X8_letterRefusal x1 st (fun r2 st2 => (r2 = 0 → w_X5_remember 11 st2 (fun st24 => w_X1_turnSeal 11 x1 st24 (fun st32 => w_X1_isOpen 11 x1 st32 (fun r40 st40 => (r40 = 0 → K 0 st40) ∧ (¬ r40 = 0 → K 1 st40))))) ∧ (¬ r2 = 0 → w_X8_refused r2 st2 (fun r12 st12 => K r12 st12)))
def w_X8_weeks_b28 (x1 : Int32)  (K : Int32 → St → Prop) (s0 : Int32) (s1 : Int32) (st : St) : Prop :=
  w_X8_firstOf s1 s0 0 st (fun r29 st29 => (r29 = 0 → w_X5_remember 11 st29 (fun st51 => w_X1_passWeeks 11 x1 st51 (fun r59 st59 => K r59 st59))) ∧ (¬ r29 = 0 → w_X8_refused r29 st29 (fun r39 st39 => K r39 st39)))
def w_X8_weeks (x1 : Int32) (st : St) (K : Int32 → St → Prop) : Prop :=
  w_X8_range x1 1 60 st (fun r4 st4 => w_X1_weekNow 11 st4 (fun r15 st15 => (x1 ≤ (999 - r15) → w_X8_weeks_b28 x1  K 0 r4 st15) ∧ (¬ x1 ≤ (999 - r15) → w_X8_weeks_b28 x1  K (-6) r4 st15)))
def w_X8_back  (st : St) (K : Int32 → St → Prop) : Prop :=
  w_X5_size  st (fun r4 st4 => (¬ r4 = 0 → w_X5_takeBack 11 st4 (fun st25 => w_X5_size  st25 (fun r32 st32 => K r32 st32))) ∧ (r4 = 0 → w_X8_refused (-3) st4 (fun r13 st13 => K r13 st13)))
def w_X8_image  (st : St) (K : Int32 → St → Prop) : Prop :=
  w_X1_become 27 11 st (fun st8 => w_X1_weekNow 11 (u2 st8 0 3 1) (fun r20 st20 => K r20 st20))
def w_X8_restore  (st : St) (K : Int32 → St → Prop) : Prop :=
  (¬ (st 0 3) = 0 → w_X1_become 11 27 st (fun st22 => w_X5_forget  st22 (fun st29 => w_X1_weekNow 11 st29 (fun r36 st36 => K r36 st36)))) ∧ ((st 0 3) = 0 → w_X8_refused (-3) st (fun r10 st10 => K r10 st10))
def w_X8_row_b23 (x1 : Int32)  (K : Int32 → St → Prop) (s0 : Int32) (s1 : Int32) (st : St) : Prop :=
  w_X8_firstOf s1 s0 0 st (fun r24 st24 => (r24 = 0 → w_X6_add x1 st24 (fun r45 st45 => K r45 st45)) ∧ (¬ r24 = 0 → w_X8_refused r24 st24 (fun r34 st34 => K r34 st34)))
def w_X8_row (x1 : Int32) (st : St) (K : Int32 → St → Prop) : Prop :=
  w_X8_range x1 0 99 st (fun r4 st4 => w_X6_isFull  st4 (fun r11 st11 => (r11 = 0 → w_X8_row_b23 x1  K 0 r4 st11) ∧ (¬ r11 = 0 → w_X8_row_b23 x1  K (-6) r4 st11)))
def w_X8_judge (x1 : Int32) (st : St) (K : Int32 → St → Prop) : Prop :=
  w_X8_keeperRefusal x1 st (fun r2 st2 => (r2 = 0 → w_X3_firstMisjudged x1 st2 (fun r25 st25 => w_X6_empty  st25 (fun st33 => K r25 st33))) ∧ (¬ r2 = 0 → w_X8_refused r2 st2 (fun r12 st12 => K r12 st12)))
def w_X8_clear  (st : St) (K : Int32 → St → Prop) : Prop :=
  w_X6_size  st (fun r4 st4 => w_X6_empty  st4 (fun st12 => K r4 st12))
def w_X8_behind (x1 : Int32) (x2 : Int32) (x3 : Int32) (st : St) (K : Int32 → St → Prop) : Prop :=
  w_X8_twoRefusal x1 x2 st (fun r3 st3 => w_X8_range x3 0 60 st3 (fun r10 st10 => w_X8_firstOf r3 r10 0 st10 (fun r14 st14 => (r14 = 0 → w_X4_hateAfter x1 x2 x3 st14 (fun r40 st40 => K r40 st40)) ∧ (¬ r14 = 0 → w_X8_refused r14 st14 (fun r27 st27 => K r27 st27)))))
def w_X8_then (x1 : Int32) (x2 : Int32) (st : St) (K : Int32 → St → Prop) : Prop :=
  w_X8_range x1 0 60 st (fun r4 st4 => w_X8_choice x2 1 st4 (fun r9 st9 => w_X8_firstOf r4 r9 0 st9 (fun r13 st13 => (r13 = 0 → (¬ x2 = 0 → w_X4_allHateAfter x1 st13 (fun r47 st47 => K r47 st47)) ∧ (x2 = 0 → w_X4_openBitsAfter x1 st13 (fun r36 st36 => K r36 st36))) ∧ (¬ r13 = 0 → w_X8_refused r13 st13 (fun r23 st23 => K r23 st23)))))
def w_X8_when (x1 : Int32) (x2 : Int32) (st : St) (K : Int32 → St → Prop) : Prop :=
  w_X8_letterRefusal x1 st (fun r2 st2 => w_X8_choice x2 1 st2 (fun r7 st7 => w_X8_firstOf r2 r7 0 st7 (fun r11 st11 => (r11 = 0 → (¬ x2 = 0 → w_X4_openedBy x1 st11 (fun r45 st45 => K r45 st45)) ∧ (x2 = 0 → w_X4_weekOpened x1 st11 (fun r34 st34 => K r34 st34))) ∧ (¬ r11 = 0 → w_X8_refused r11 st11 (fun r21 st21 => K r21 st21)))))
def w_X8_lasts (x1 : Int32) (x2 : Int32) (x3 : Int32) (st : St) (K : Int32 → St → Prop) : Prop :=
  w_X8_twoRefusal x1 x2 st (fun r3 st3 => w_X8_range x3 0 99 st3 (fun r10 st10 => w_X8_firstOf r3 r10 0 st10 (fun r14 st14 => (r14 = 0 → w_X4_weekBelow x1 x2 x3 st14 (fun r40 st40 => K r40 st40)) ∧ (¬ r14 = 0 → w_X8_refused r14 st14 (fun r27 st27 => K r27 st27)))))
def w_X8_never (x1 : Int32) (st : St) (K : Int32 → St → Prop) : Prop :=
  w_X8_choice x1 1 st (fun r2 st2 => (r2 = 0 → (¬ x1 = 0 → w_X4_firstOpened  st2 (fun r34 st34 => K r34 st34)) ∧ (x1 = 0 → w_X4_sealedFar  st2 (fun r24 st24 => K r24 st24))) ∧ (¬ r2 = 0 → w_X8_refused r2 st2 (fun r12 st12 => K r12 st12)))
def w_X8_insult_b17 (x1 : Int32) (x2 : Int32) (x3 : Int32)  (K : Int32 → St → Prop) (s0 : Int32) (st : St) : Prop :=
  w_X8_twoRefusal x1 x2 st (fun r22 st22 => w_X8_letterRefusal x3 st22 (fun r27 st27 => w_X8_firstOf r22 r27 s0 st27 (fun r32 st32 => (r32 = 0 → w_X4_leastInsult x1 x2 x3 st32 (fun r58 st58 => K r58 st58)) ∧ (¬ r32 = 0 → w_X8_refused r32 st32 (fun r45 st45 => K r45 st45)))))
def w_X8_insult (x1 : Int32) (x2 : Int32) (x3 : Int32) (st : St) (K : Int32 → St → Prop) : Prop :=
  w_X1_isOpen 11 x3 st (fun r5 st5 => (r5 = 0 → w_X8_insult_b17 x1 x2 x3  K 0 st5) ∧ (¬ r5 = 0 → w_X8_insult_b17 x1 x2 x3  K (-3) st5))
def w_X8_used (x1 : Int32) (x2 : Int32) (x3 : Int32) (st : St) (K : Int32 → St → Prop) : Prop :=
  w_X8_twoRefusal x1 x2 st (fun r3 st3 => w_X8_range x3 0 60 st3 (fun r10 st10 => w_X8_firstOf r3 r10 0 st10 (fun r14 st14 => (r14 = 0 → w_X1_hateOf 11 x1 x2 st14 (fun r40 st40 => w_X4_hateAfter x1 x2 x3 st40 (fun r50 st50 => K (r40 - r50) st50))) ∧ (¬ r14 = 0 → w_X8_refused r14 st14 (fun r29 st29 => K (1000000000 - r29) st29)))))
def w_X8_apart (x1 : Int32) (st : St) (K : Int32 → St → Prop) : Prop :=
  w_X8_range x1 0 60 st (fun r4 st4 => (r4 = 0 → w_X4_idleWeeks x1 st4 (fun r25 st25 => K r25 st25)) ∧ (¬ r4 = 0 → w_X8_refused r4 st4 (fun r14 st14 => K r14 st14)))
def w_X8_two (x1 : Int32) (x2 : Int32) (st : St) (K : Int32 → St → Prop) : Prop :=
  w_X8_twoRefusal x1 x2 st (fun r3 st3 => (r3 = 0 → w_X4_settled x1 x2 st3 (fun r25 st25 => K r25 st25)) ∧ (¬ r3 = 0 → w_X8_refused r3 st3 (fun r13 st13 => K r13 st13)))
def w_X8_send (x1 : Int32) (st : St) (K : Int32 → St → Prop) : Prop :=
  w_X8_range x1 0 60 st (fun r4 st4 => (r4 = 0 → w_X4_bestSending x1 st4 (fun r25 st25 => K r25 st25)) ∧ (¬ r4 = 0 → w_X8_refused r4 st4 (fun r14 st14 => K r14 st14)))
def w_X8_swap (x1 : Int32) (st : St) (K : Int32 → St → Prop) : Prop :=
  w_X8_range x1 0 60 st (fun r4 st4 => (r4 = 0 → w_X4_bestSwap x1 st4 (fun r25 st25 => K r25 st25)) ∧ (¬ r4 = 0 → w_X8_refused r4 st4 (fun r14 st14 => K r14 st14)))
def w_X8_places (x1 : Int32) (x2 : Int32) (x3 : Int32) (x4 : Int32) (x5 : Int32) (st : St) (K : Int32 → St → Prop) : Prop :=
  w_X8_twoRefusal x1 x2 st (fun r3 st3 => w_X8_twoRefusal x1 x3 st3 (fun r9 st9 => w_X8_twoRefusal x2 x3 st9 (fun r15 st15 => w_X8_firstOf r3 r9 r15 st15 (fun r18 st18 => w_X8_range x4 0 60 st18 (fun r30 st30 => w_X8_choice x5 1 st30 (fun r36 st36 => w_X8_firstOf r18 r30 r36 st36 (fun r39 st39 => (r39 = 0 → w_X4_bestPlaces x1 x2 x3 x4 st39 (fun r65 st65 => (¬ x5 = 0 → w_X4_openPlaced x1 x2 x3 x4 r65 st65 (fun r91 st91 => K r91 st91)) ∧ (x5 = 0 → K r65 st65))) ∧ (¬ r39 = 0 → w_X8_refused r39 st39 (fun r52 st52 => K r52 st52)))))))))
def w_X8_fewest (x1 : Int32) (x2 : Int32) (st : St) (K : Int32 → St → Prop) : Prop :=
  w_X8_range x1 0 60 st (fun r4 st4 => w_X8_choice x2 1 st4 (fun r9 st9 => w_X8_firstOf r4 r9 0 st9 (fun r13 st13 => (r13 = 0 → w_X4_fewestKept x1 st13 (fun r32 st32 => (¬ x2 = 0 → w_X3_wages r32 st32 (fun r52 st52 => K r52 st52)) ∧ (x2 = 0 → K r32 st32))) ∧ (¬ r13 = 0 → w_X8_refused r13 st13 (fun r23 st23 => K r23 st23)))))
def w_X8_pay_b13 (x1 : Int32) (x2 : Int32)  (K : Int32 → St → Prop) (s0 : Int32) (st : St) : Prop :=
  w_X8_range x2 0 60 st (fun r17 st17 => w_X8_firstOf s0 r17 0 st17 (fun r21 st21 => (r21 = 0 → w_X3_keepersIn x1 st21 (fun r46 st46 => w_X3_wages r46 st46 (fun r49 st49 => K (r49 * x2) st49))) ∧ (¬ r21 = 0 → w_X8_refused r21 st21 (fun r31 st31 => K r31 st31))))
def w_X8_pay (x1 : Int32) (x2 : Int32) (st : St) (K : Int32 → St → Prop) : Prop :=
  (¬ x1 = (-1) → w_X8_townRefusal x1 st (fun r10 st10 => w_X8_pay_b13 x1 x2  K r10 st10)) ∧ (x1 = (-1) → w_X8_pay_b13 x1 x2  K 0 st)
def w_X8_whoHates (x1 : Int32) (x2 : Int32) (x3 : Int32) (st : St) (K : Int32 → St → Prop) : Prop :=
  w_X8_twoRefusal x1 x2 st (fun r3 st3 => w_X8_choice x3 2 st3 (fun r8 st8 => w_X8_firstOf r3 r8 0 st8 (fun r12 st12 => (r12 = 0 → w_X4_fittingHate x1 x2 x3 st12 (fun r42 st42 => K r42 st42)) ∧ (¬ r12 = 0 → w_X8_refused r12 st12 (fun r25 st25 => K r25 st25)))))
def w_X8_whatKind (x1 : Int32) (x2 : Int32) (x3 : Int32) (st : St) (K : Int32 → St → Prop) : Prop :=
  w_X8_twoRefusal x1 x2 st (fun r3 st3 => w_X8_choice x3 1 st3 (fun r8 st8 => w_X8_firstOf r3 r8 0 st8 (fun r12 st12 => (r12 = 0 → (¬ x3 = 0 → w_X4_fittingFigures x1 x2 st12 (fun r59 st59 => K r59 st59)) ∧ (x3 = 0 → w_X4_fittingKinds x1 x2 st12 (fun r43 st43 => K r43 st43))) ∧ (¬ r12 = 0 → w_X8_refused r12 st12 (fun r25 st25 => K r25 st25)))))
def w_X8_jug_b45 (x1 : Int32) (x2 : Int32) (x3 : Int32) (x4 : Int32)  (K : Int64 → St → Prop) (v5 : Int32) (s0 : Int32) (st : St) : Prop :=
  w_X8_choice x4 1 st (fun r54 st54 => w_X8_firstOf v5 s0 r54 st54 (fun r57 st57 => (r57 = 0 → w_X0_ways x1 x2 x3 st57 (fun r82 st82 => w_X0_power x3 x1 st82 (fun r87 st87 => w_X0_part r82 r87 x4 st87 (fun r92 st92 => K r92 st92)))) ∧ (¬ r57 = 0 → w_X8_refused r57 st57 (fun r73 st73 => K (4000000000000000000 - ((r73).toInt64)) st73))))
def w_X8_jug_b39 (x1 : Int32) (x2 : Int32) (x3 : Int32) (x4 : Int32)  (K : Int64 → St → Prop) (v5 : Int32) (st : St) : Prop :=
  w_X8_jug_b45 x1 x2 x3 x4  K v5 (-6) st
def w_X8_jug_b19 (x1 : Int32) (x2 : Int32) (x3 : Int32) (x4 : Int32)  (K : Int64 → St → Prop) (s0 : Int32) (st : St) : Prop :=
  (8 < x1 → w_X8_jug_b39 x1 x2 x3 x4  K s0 st) ∧ (¬ 8 < x1 → (8 < x2 → w_X8_jug_b39 x1 x2 x3 x4  K s0 st) ∧ (¬ 8 < x2 → (x3 ≤ 20 → w_X8_jug_b45 x1 x2 x3 x4  K s0 0 st) ∧ (¬ x3 ≤ 20 → w_X8_jug_b39 x1 x2 x3 x4  K s0 st)))
def w_X8_jug_b13 (x1 : Int32) (x2 : Int32) (x3 : Int32) (x4 : Int32)  (K : Int64 → St → Prop)  (st : St) : Prop :=
  w_X8_jug_b19 x1 x2 x3 x4  K (-4) st
def w_X8_jug (x1 : Int32) (x2 : Int32) (x3 : Int32) (x4 : Int32) (st : St) (K : Int64 → St → Prop) : Prop :=
  (x1 < 0 → w_X8_jug_b13 x1 x2 x3 x4  K st) ∧ (¬ x1 < 0 → (x2 < 0 → w_X8_jug_b13 x1 x2 x3 x4  K st) ∧ (¬ x2 < 0 → (2 ≤ x3 → w_X8_jug_b19 x1 x2 x3 x4  K 0 st) ∧ (¬ 2 ≤ x3 → w_X8_jug_b13 x1 x2 x3 x4  K st)))
def w_X8_meetings_b56 (x1 : Int32) (x2 : Int32) (x3 : Int32) (x4 : Int32) (x5 : Int32) (x6 : Int32)  (K : Int64 → St → Prop) (v7 : Int32) (v8 : Int32) (s0 : Int32) (st : St) : Prop :=
  w_X8_firstOf v7 v8 s0 st (fun r64 st64 => w_X8_choice x6 1 st64 (fun r70 st70 => w_X8_firstOf r64 r70 0 st70 (fun r74 st74 => (r74 = 0 → w_X4_meetingWays x1 x2 x3 x4 x5 st74 (fun r107 st107 => w_X0_power x5 x4 st107 (fun r114 st114 => w_X0_part r107 r114 x6 st114 (fun r119 st119 => K r119 st119)))) ∧ (¬ r74 = 0 → w_X8_refused r74 st74 (fun r90 st90 => K (4000000000000000000 - ((r90).toInt64)) st90)))))
def w_X8_meetings_b50 (x1 : Int32) (x2 : Int32) (x3 : Int32) (x4 : Int32) (x5 : Int32) (x6 : Int32)  (K : Int64 → St → Prop) (v7 : Int32) (v8 : Int32) (st : St) : Prop :=
  w_X8_meetings_b56 x1 x2 x3 x4 x5 x6  K v7 v8 (-6) st
def w_X8_meetings_b34 (x1 : Int32) (x2 : Int32) (x3 : Int32) (x4 : Int32) (x5 : Int32) (x6 : Int32)  (K : Int64 → St → Prop) (v7 : Int32) (s0 : Int32) (st : St) : Prop :=
  (7 < x4 → w_X8_meetings_b50 x1 x2 x3 x4 x5 x6  K v7 s0 st) ∧ (¬ 7 < x4 → (x5 ≤ 20 → w_X8_meetings_b56 x1 x2 x3 x4 x5 x6  K v7 s0 0 st) ∧ (¬ x5 ≤ 20 → w_X8_meetings_b50 x1 x2 x3 x4 x5 x6  K v7 s0 st))
def w_X8_meetings_b28 (x1 : Int32) (x2 : Int32) (x3 : Int32) (x4 : Int32) (x5 : Int32) (x6 : Int32)  (K : Int64 → St → Prop) (v7 : Int32) (st : St) : Prop :=
  w_X8_meetings_b34 x1 x2 x3 x4 x5 x6  K v7 (-4) st
def w_X8_meetings (x1 : Int32) (x2 : Int32) (x3 : Int32) (x4 : Int32) (x5 : Int32) (x6 : Int32) (st : St) (K : Int64 → St → Prop) : Prop :=
  w_X8_twoRefusal x1 x2 st (fun r3 st3 => w_X8_letterRefusal x3 st3 (fun r8 st8 => w_X8_firstOf r3 r8 0 st8 (fun r12 st12 => (x4 < 0 → w_X8_meetings_b28 x1 x2 x3 x4 x5 x6  K r12 st12) ∧ (¬ x4 < 0 → (2 ≤ x5 → w_X8_meetings_b34 x1 x2 x3 x4 x5 x6  K r12 0 st12) ∧ (¬ 2 ≤ x5 → w_X8_meetings_b28 x1 x2 x3 x4 x5 x6  K r12 st12)))))
def w_X8_lots (x1 : Int32) (x2 : Int32) (x3 : Int32) (st : St) (K : Int32 → St → Prop) : Prop :=
  w_X8_range x1 1 20 st (fun r4 st4 => w_X8_choice x3 1 st4 (fun r9 st9 => w_X8_firstOf r4 r9 0 st9 (fun r13 st13 => (r13 = 0 → w_X4_byLot x1 x2 x3 st13 (fun r39 st39 => K r39 st39)) ∧ (¬ r13 = 0 → w_X8_refused r13 st13 (fun r26 st26 => K r26 st26)))))
def w_X8_deepest (x1 : Int32) (st : St) (K : Int32 → St → Prop) : Prop :=
  w_X8_townRefusal x1 st (fun r1 st1 => (r1 = 0 → w_X3_mostHateIn x1 st1 (fun r22 st22 => K r22 st22)) ∧ (¬ r1 = 0 → w_X8_refused r1 st1 (fun r11 st11 => K r11 st11)))
def w_X8_can (x1 : Int32) (st : St) (K : Int32 → St → Prop) : Prop :=
  w_X8_range x1 0 99 st (fun r4 st4 => (r4 = 0 → w_X3_townsThatOpen x1 st4 (fun r25 st25 => K r25 st25)) ∧ (¬ r4 = 0 → w_X8_refused r4 st4 (fun r14 st14 => K r14 st14)))
def w_X8_pairs (x1 : Int32) (st : St) (K : Int32 → St → Prop) : Prop :=
  w_X8_range x1 0 99 st (fun r4 st4 => (r4 = 0 → w_X3_mostTwos x1 st4 (fun r25 st25 => K r25 st25)) ∧ (¬ r4 = 0 → w_X8_refused r4 st4 (fun r14 st14 => K r14 st14)))
def w_X8_worst_b44 (x1 : Int32)  (K : Int32 → St → Prop) (s0 : Int32) (st : St) : Prop :=
  w_X3_worstTwo s0 st (fun r44 st44 => K r44 st44)
def w_X8_worst (x1 : Int32) (st : St) (K : Int32 → St → Prop) : Prop :=
  w_X8_choice x1 2 st (fun r2 st2 => (r2 = 0 → (¬ x1 = 2 → (¬ x1 = 0 → w_X8_worst_b44 x1  K 0 st2) ∧ (x1 = 0 → w_X8_worst_b44 x1  K 1 st2)) ∧ (x1 = 2 → w_X3_friends  st2 (fun r25 st25 => K r25 st25))) ∧ (¬ r2 = 0 → w_X8_refused r2 st2 (fun r12 st12 => K r12 st12)))
def w_X8_fullest (x1 : Int32) (st : St) (K : Int32 → St → Prop) : Prop :=
  w_X8_choice x1 1 st (fun r2 st2 => (r2 = 0 → w_X3_townOfMost  st2 (fun r20 st20 => (¬ x1 = 0 → w_X3_crowd r20 st20 (fun r37 st37 => K r37 st37)) ∧ (x1 = 0 → K r20 st20))) ∧ (¬ r2 = 0 → w_X8_refused r2 st2 (fun r12 st12 => K r12 st12)))
def w_X8_thickest  (st : St) (K : Int32 → St → Prop) : Prop :=
  w_X3_deepestSealed  st (fun r4 st4 => K r4 st4)
def w_X8_mildest  (st : St) (K : Int32 → St → Prop) : Prop :=
  w_X3_leastHating  st (fun r4 st4 => K r4 st4)
def w_X8_bare  (st : St) (K : Int32 → St → Prop) : Prop :=
  w_X3_bareTowns  st (fun r4 st4 => K r4 st4)
def w_X8_enemy (x1 : Int32) (st : St) (K : Int32 → St → Prop) : Prop :=
  w_X8_keeperRefusal x1 st (fun r2 st2 => (r2 = 0 → w_X3_mostHated x1 st2 (fun r23 st23 => K r23 st23)) ∧ (¬ r2 = 0 → w_X8_refused r2 st2 (fun r12 st12 => K r12 st12)))
def w_X8_mean (x1 : Int32) (st : St) (K : Int64 → St → Prop) : Prop :=
  w_X8_choice x1 1 st (fun r2 st2 => (r2 = 0 → w_X1_keeperCount 11 st2 (fun r25 st25 => w_X1_allHate 11 st25 (fun r33 st33 => w_X0_part ((r33).toInt64) (((if 1 < ((r25 * (r25 - 1)) / 2) then ((r25 * (r25 - 1)) / 2) else 1)).toInt64) x1 st33 (fun r50 st50 => K r50 st50)))) ∧ (¬ r2 = 0 → w_X8_refused r2 st2 (fun r15 st15 => K (4000000000000000000 - ((r15).toInt64)) st15)))
end
section
def w_X9_no (x1 : Int32) (st : St) (K : Int32 → St → Prop) : Prop :=
  vp_in (-x1) 7 ∧ (vp_in (-x1) 7 ∧ (K x1 (u2 st 1 ((-x1)).toNatClampNeg ((st 1 ((-x1)).toNatClampNeg) + 1))))
def w_X9_lower (x1 : Int32) (st : St) (K : Int32 → St → Prop) : Prop :=
  vp_in (-x1) 7 ∧ (vp_in (-x1) 7 ∧ (K (1000000000 - x1) (u2 st 1 ((-x1)).toNatClampNeg ((st 1 ((-x1)).toNatClampNeg) + 1))))
def w_X9_lowestOf (x1 : Int32) (st : St) (K : Int64 → St → Prop) : Prop :=
  vp_in (-x1) 7 ∧ (vp_in (-x1) 7 ∧ (K (4000000000000000000 - ((x1).toInt64)) (u2 st 1 ((-x1)).toNatClampNeg ((st 1 ((-x1)).toNatClampNeg) + 1))))
def w_X9_isIn (x0 : Int32) (x1 : Int32) (x2 : Int32) (st : St) (K : Int32 → St → Prop) : Prop :=
  (x0 < x1 → K 0 st) ∧ (¬ x0 < x1 → (x2 < x0 → K 0 st) ∧ (¬ x2 < x0 → K 1 st))
def w_X9_bound (x0 : Int32) (x1 : Int32) (x2 : Int32) (st : St) (K : Int32 → St → Prop) : Prop :=
  (x1 ≤ x0 → (x0 ≤ x2 → K 0 st) ∧ (¬ x0 ≤ x2 → K (-6) st)) ∧ (¬ x1 ≤ x0 → K (-4) st)
def w_X9_held (x0 : Int32) (x1 : Int32) (x2 : Int32) (st : St) (K : Int32 → St → Prop) : Prop :=
  (x1 ≤ x0 → (x0 ≤ x2 → K x0 st) ∧ (¬ x0 ≤ x2 → K x2 st)) ∧ (¬ x1 ≤ x0 → K x1 st)
def w_X9_has (x0 : Int32) (x1 : Int32) (st : St) (K : Int32 → St → Prop) : Prop :=
  (¬ ((x0 >>> (x1 &&& 31)) &&& 1) = 1 → K 0 st) ∧ (((x0 >>> (x1 &&& 31)) &&& 1) = 1 → K 1 st)
def w_X9_bits_L4q (x0 : Int32)  (K : Int32 → St → Prop) (c4 : Int32 → Int32 → St → Prop) (v1 : Int32) (v2 : Int32) (st : St) : Prop :=
  (31 ≤ v2 → K v1 st) ∧ (¬ 31 ≤ v2 → c4 (v1 + ((x0 >>> (v2 &&& 31)) &&& 1)) (v2 + 1) st)
def w_X9_bits_L4 (x0 : Int32)  (K : Int32 → St → Prop) : Nat → Int32 → Int32 → St → Prop
  | 0, _, _, _ => False
  | n + 1, v1, v2, st => w_X9_bits_L4q x0  K (fun v1 v2 st => w_X9_bits_L4 x0  K n v1 v2 st) v1 v2 st
def w_X9_bits (x0 : Int32) (st : St) (K : Int32 → St → Prop) : Prop :=
  ∃ n, w_X9_bits_L4 x0  K n 0 0 st
def w_X9_isKeeper (x1 : Int32) (st : St) (K : Int32 → St → Prop) : Prop :=
  (x1 < 0 → K 0 st) ∧ (¬ x1 < 0 → ((st 0 8) ≤ x1 → K 0 st) ∧ (¬ (st 0 8) ≤ x1 → K 1 st))
def w_X9_areTwo (x1 : Int32) (x2 : Int32) (st : St) (K : Int32 → St → Prop) : Prop :=
  w_X9_isKeeper x1 st (fun r2 st2 => (r2 = 0 → K 0 st2) ∧ (¬ r2 = 0 → w_X9_isKeeper x2 st2 (fun r10 st10 => (r10 = 0 → K 0 st10) ∧ (¬ r10 = 0 → (x1 = x2 → K 0 st10) ∧ (¬ x1 = x2 → K 1 st10)))))
def w_X9_isLetter (x1 : Int32) (st : St) (K : Int32 → St → Prop) : Prop :=
  (x1 < 0 → K 0 st) ∧ (¬ x1 < 0 → ((st 0 9) ≤ x1 → K 0 st) ∧ (¬ (st 0 9) ≤ x1 → K 1 st))
def w_X9_isTown (x0 : Int32) (st : St) (K : Int32 → St → Prop) : Prop :=
  (x0 < 0 → K 0 st) ∧ (¬ x0 < 0 → (4 ≤ x0 → K 0 st) ∧ (¬ 4 ≤ x0 → K 1 st))
def w_X9_hateOf (x1 : Int32) (x2 : Int32) (st : St) (K : Int32 → St → Prop) : Prop :=
  vp_in ((6 * x1) + x2) 36 ∧ (K (st 5 (((6 * x1) + x2)).toNatClampNeg) st)
def w_X9_sets (x1 : Int32) (x2 : Int32) (x3 : Int32) (st : St) (K : St → Prop) : Prop :=
  vp_in ((6 * x1) + x2) 36 ∧ (vp_in ((6 * x2) + x1) 36 ∧ (K (u2 (u2 st 5 (((6 * x1) + x2)).toNatClampNeg x3) 5 (((6 * x2) + x1)).toNatClampNeg x3)))
def w_X9_feed_b25 (x1 : Int32)  (K : Int32 → St → Prop) (v2 : Int32) (st : St) : Prop :=
  (v2 = 0 → vp_in (st 0 16) 96 ∧ (K ((u2 (u2 st 9 ((st 0 16)).toNatClampNeg x1) 0 16 (((u2 st 9 ((st 0 16)).toNatClampNeg x1) 0 16) + 1)) 0 16) (u2 (u2 st 9 ((st 0 16)).toNatClampNeg x1) 0 16 (((u2 st 9 ((st 0 16)).toNatClampNeg x1) 0 16) + 1)))) ∧ (¬ v2 = 0 → w_X9_no v2 st (fun r31 st31 => K r31 st31))
def w_X9_feed (x1 : Int32) (st : St) (K : Int32 → St → Prop) : Prop :=
  w_X9_bound x1 0 255 st (fun r5 st5 => (¬ r5 = 0 → w_X9_feed_b25 x1  K r5 st5) ∧ (r5 = 0 → (¬ (st5 0 16) = 96 → w_X9_feed_b25 x1  K r5 st5) ∧ ((st5 0 16) = 96 → w_X9_feed_b25 x1  K (-6) st5)))
def w_X9_next  (st : St) (K : Int32 → St → Prop) : Prop :=
  ((st 0 16) ≤ (st 0 17) → K (-1) st) ∧ (¬ (st 0 16) ≤ (st 0 17) → vp_in (st 0 17) 96 ∧ (K (st 9 ((st 0 17)).toNatClampNeg) st))
def w_X9_readsDigits_b56 (x1 : Int32) (x2 : Int32)  (K : Int32 → St → Prop) (v3 : Int32) (st : St) : Prop :=
  vp_in x1 144 ∧ (K 1 (u2 st 12 (x1).toNatClampNeg v3))
def w_X9_readsDigits_L5q (x1 : Int32) (x2 : Int32)  (K : Int32 → St → Prop) (c5 : Int32 → Int32 → St → Prop) (v3 : Int32) (v4 : Int32) (st : St) : Prop :=
  (x2 ≤ v4 → w_X9_readsDigits_b56 x1 x2  K v3 st) ∧ (¬ x2 ≤ v4 → w_X9_next  st (fun r12 st12 => w_X9_isIn r12 48 57 st12 (fun r19 st19 => (¬ r19 = 0 → w_X9_next  st19 (fun r32 st32 => c5 (((10 * v3) + r32) - 48) (v4 + 1) (u2 st32 0 17 ((st32 0 17) + 1)))) ∧ (r19 = 0 → K 0 st19))))
def w_X9_readsDigits_L5 (x1 : Int32) (x2 : Int32)  (K : Int32 → St → Prop) : Nat → Int32 → Int32 → St → Prop
  | 0, _, _, _ => False
  | n + 1, v3, v4, st => w_X9_readsDigits_L5q x1 x2  K (fun v3 v4 st => w_X9_readsDigits_L5 x1 x2  K n v3 v4 st) v3 v4 st
def w_X9_readsDigits (x1 : Int32) (x2 : Int32) (st : St) (K : Int32 → St → Prop) : Prop :=
  ∃ n, w_X9_readsDigits_L5 x1 x2  K n 0 0 st
def w_X9_readsAll (x1 : Int32) (x2 : Int32) (st : St) (K : Int32 → St → Prop) : Prop :=
  (x1 = 103 → w_X9_readsDigits x2 1 st (fun r171 st171 => (r171 = 0 → K 0 st171) ∧ (¬ r171 = 0 → w_X9_readsDigits (x2 + 1) 1 st171 (fun r182 st182 => (r182 = 0 → K 0 st182) ∧ (¬ r182 = 0 → K 1 st182))))) ∧ (¬ x1 = 103 → (x1 = 104 → w_X9_readsDigits x2 1 st (fun r108 st108 => (r108 = 0 → K 0 st108) ∧ (¬ r108 = 0 → w_X9_readsDigits (x2 + 1) 1 st108 (fun r119 st119 => (r119 = 0 → K 0 st119) ∧ (¬ r119 = 0 → w_X9_readsDigits (x2 + 2) 2 st119 (fun r130 st130 => (r130 = 0 → K 0 st130) ∧ (¬ r130 = 0 → K 1 st130))))))) ∧ (¬ x1 = 104 → (x1 = 107 → w_X9_readsDigits x2 1 st (fun r71 st71 => (r71 = 0 → K 0 st71) ∧ (¬ r71 = 0 → w_X9_readsDigits (x2 + 1) 1 st71 (fun r82 st82 => (r82 = 0 → K 0 st82) ∧ (¬ r82 = 0 → w_X9_readsDigits (x2 + 2) 1 st82 (fun r93 st93 => (r93 = 0 → K 0 st93) ∧ (¬ r93 = 0 → K 1 st93))))))) ∧ (¬ x1 = 107 → (x1 = 108 → w_X9_readsDigits x2 2 st (fun r145 st145 => (r145 = 0 → K 0 st145) ∧ (¬ r145 = 0 → w_X9_readsDigits (x2 + 1) 1 st145 (fun r156 st156 => (r156 = 0 → K 0 st156) ∧ (¬ r156 = 0 → K 1 st156))))) ∧ (¬ x1 = 108 → (x1 = 115 → w_X9_readsDigits x2 1 st (fun r197 st197 => (r197 = 0 ∨ r197 = 1) ∧ K r197 st197)) ∧ (¬ x1 = 115 → w_X9_readsDigits x2 2 st (fun r204 st204 => (r204 = 0 ∨ r204 = 1) ∧ K r204 st204))))))
def w_X9_statement_b43   (K : Int32 → St → Prop) (v1 : Int32) (st : St) : Prop :=
  vp_in (st 0 18) 48 ∧ (vp_in ((u2 st 10 ((st 0 18)).toNatClampNeg v1) 0 18) 48 ∧ (w_X9_readsAll v1 (3 * ((u2 (u2 (u2 st 10 ((st 0 18)).toNatClampNeg v1) 11 (((u2 st 10 ((st 0 18)).toNatClampNeg v1) 0 18)).toNatClampNeg ((u2 st 10 ((st 0 18)).toNatClampNeg v1) 0 17)) 0 17 (((u2 (u2 st 10 ((st 0 18)).toNatClampNeg v1) 11 (((u2 st 10 ((st 0 18)).toNatClampNeg v1) 0 18)).toNatClampNeg ((u2 st 10 ((st 0 18)).toNatClampNeg v1) 0 17)) 0 17) + 1)) 0 18)) (u2 (u2 (u2 st 10 ((st 0 18)).toNatClampNeg v1) 11 (((u2 st 10 ((st 0 18)).toNatClampNeg v1) 0 18)).toNatClampNeg ((u2 st 10 ((st 0 18)).toNatClampNeg v1) 0 17)) 0 17 (((u2 (u2 st 10 ((st 0 18)).toNatClampNeg v1) 11 (((u2 st 10 ((st 0 18)).toNatClampNeg v1) 0 18)).toNatClampNeg ((u2 st 10 ((st 0 18)).toNatClampNeg v1) 0 17)) 0 17) + 1)) (fun r84 st84 => (r84 = 0 → K 0 st84) ∧ (¬ r84 = 0 → w_X9_next  st84 (fun r91 st91 => (r91 = 59 → K 1 (u2 st91 0 17 ((st91 0 17) + 1))) ∧ (¬ r91 = 59 → K 0 st91))))))
def w_X9_statement  (st : St) (K : Int32 → St → Prop) : Prop :=
  w_X9_next  st (fun r1 st1 => (r1 = 107 → w_X9_statement_b43   K r1 st1) ∧ (¬ r1 = 107 → (r1 = 104 → w_X9_statement_b43   K r1 st1) ∧ (¬ r1 = 104 → (r1 = 108 → w_X9_statement_b43   K r1 st1) ∧ (¬ r1 = 108 → (r1 = 103 → w_X9_statement_b43   K r1 st1) ∧ (¬ r1 = 103 → (r1 = 115 → w_X9_statement_b43   K r1 st1) ∧ (¬ r1 = 115 → (r1 = 119 → w_X9_statement_b43   K r1 st1) ∧ (¬ r1 = 119 → K 0 st1)))))))
def w_X9_addsKeeper_b60 (x1 : Int32) (x2 : Int32) (x3 : Int32)  (K : St → Prop)  (st : St) : Prop :=
  K (u2 st 0 8 ((st 0 8) + 1))
def w_X9_addsKeeper_L33q (x1 : Int32) (x2 : Int32) (x3 : Int32)  (K : St → Prop) (c33 : Int32 → St → Prop) (v4 : Int32) (st : St) : Prop :=
  ((st 0 8) ≤ v4 → w_X9_addsKeeper_b60 x1 x2 x3  K st) ∧ (¬ (st 0 8) ≤ v4 → w_X9_sets v4 (st 0 8) 20 st (fun st51 => c33 (v4 + 1) st51))
def w_X9_addsKeeper_L33 (x1 : Int32) (x2 : Int32) (x3 : Int32)  (K : St → Prop) : Nat → Int32 → St → Prop
  | 0, _, _ => False
  | n + 1, v4, st => w_X9_addsKeeper_L33q x1 x2 x3  K (fun v4 st => w_X9_addsKeeper_L33 x1 x2 x3  K n v4 st) v4 st
def w_X9_addsKeeper (x1 : Int32) (x2 : Int32) (x3 : Int32) (st : St) (K : St → Prop) : Prop :=
  vp_in (st 0 8) 6 ∧ (vp_in ((u2 st 2 ((st 0 8)).toNatClampNeg x1) 0 8) 6 ∧ (vp_in ((u2 (u2 st 2 ((st 0 8)).toNatClampNeg x1) 3 (((u2 st 2 ((st 0 8)).toNatClampNeg x1) 0 8)).toNatClampNeg x2) 0 8) 6 ∧ (∃ n, w_X9_addsKeeper_L33 x1 x2 x3  K n 0 (u2 (u2 (u2 st 2 ((st 0 8)).toNatClampNeg x1) 3 (((u2 st 2 ((st 0 8)).toNatClampNeg x1) 0 8)).toNatClampNeg x2) 4 (((u2 (u2 st 2 ((st 0 8)).toNatClampNeg x1) 3 (((u2 st 2 ((st 0 8)).toNatClampNeg x1) 0 8)).toNatClampNeg x2) 0 8)).toNatClampNeg x3))))
def w_X9_comesKeeper (x1 : Int32) (x2 : Int32) (x3 : Int32) (st : St) (K : Int32 → St → Prop) : Prop :=
  (5 < x1 → K 0 st) ∧ (¬ 5 < x1 → w_X9_isTown x3 st (fun r6 st6 => (r6 = 0 → K 0 st6) ∧ (¬ r6 = 0 → (¬ (st6 0 8) = 6 → w_X9_addsKeeper x1 x2 x3 st6 (fun st27 => K 1 st27)) ∧ ((st6 0 8) = 6 → K 0 st6))))
def w_X9_addsLetter (x1 : Int32) (x2 : Int32) (st : St) (K : St → Prop) : Prop :=
  vp_in (st 0 9) 6 ∧ (vp_in ((u2 st 6 ((st 0 9)).toNatClampNeg x2) 0 9) 6 ∧ (vp_in ((u2 (u2 st 6 ((st 0 9)).toNatClampNeg x2) 7 (((u2 st 6 ((st 0 9)).toNatClampNeg x2) 0 9)).toNatClampNeg x1) 0 9) 6 ∧ (K (u2 (u2 (u2 (u2 st 6 ((st 0 9)).toNatClampNeg x2) 7 (((u2 st 6 ((st 0 9)).toNatClampNeg x2) 0 9)).toNatClampNeg x1) 8 (((u2 (u2 st 6 ((st 0 9)).toNatClampNeg x2) 7 (((u2 st 6 ((st 0 9)).toNatClampNeg x2) 0 9)).toNatClampNeg x1) 0 9)).toNatClampNeg 0) 0 9 (((u2 (u2 (u2 st 6 ((st 0 9)).toNatClampNeg x2) 7 (((u2 st 6 ((st 0 9)).toNatClampNeg x2) 0 9)).toNatClampNeg x1) 8 (((u2 (u2 st 6 ((st 0 9)).toNatClampNeg x2) 7 (((u2 st 6 ((st 0 9)).toNatClampNeg x2) 0 9)).toNatClampNeg x1) 0 9)).toNatClampNeg 0) 0 9) + 1)))))
def w_X9_comesLetter (x1 : Int32) (x2 : Int32) (st : St) (K : Int32 → St → Prop) : Prop :=
  w_X9_isTown x2 st (fun r1 st1 => (r1 = 0 → K 0 st1) ∧ (¬ r1 = 0 → (¬ (st1 0 9) = 6 → w_X9_addsLetter x2 x1 st1 (fun st21 => K 1 st21)) ∧ ((st1 0 9) = 6 → K 0 st1)))
def w_X9_fadesOf (x1 : Int32) (st : St) (K : Int32 → St → Prop) : Prop :=
  vp_in x1 6 ∧ (((st 2 (x1).toNatClampNeg) = 1 → K 0 st) ∧ (¬ (st 2 (x1).toNatClampNeg) = 1 → ((st 2 (x1).toNatClampNeg) = 2 → K 2 st) ∧ (¬ (st 2 (x1).toNatClampNeg) = 2 → ((st 2 (x1).toNatClampNeg) = 3 → vp_in x1 6 ∧ (K (((st 3 (x1).toNatClampNeg) / 2) + 1) st)) ∧ (¬ (st 2 (x1).toNatClampNeg) = 3 → ((st 2 (x1).toNatClampNeg) = 4 → K 0 st) ∧ (¬ (st 2 (x1).toNatClampNeg) = 4 → ((st 2 (x1).toNatClampNeg) = 5 → K 3 st) ∧ (¬ (st 2 (x1).toNatClampNeg) = 5 → K 1 st))))))
def w_X9_stirsOf (x1 : Int32) (st : St) (K : Int32 → St → Prop) : Prop :=
  vp_in x1 6 ∧ ((¬ (st 2 (x1).toNatClampNeg) = 1 → vp_in x1 6 ∧ ((¬ (st 2 (x1).toNatClampNeg) = 4 → K 0 st) ∧ ((st 2 (x1).toNatClampNeg) = 4 → vp_in x1 6 ∧ (K (((st 3 (x1).toNatClampNeg) / 4) + 1) st)))) ∧ ((st 2 (x1).toNatClampNeg) = 1 → K 1 st))
def w_X9_fadesTwo_b89 (x1 : Int32) (x2 : Int32)  (K : St → Prop) (s0 : Int32) (s1 : Int32) (s2 : Int32) (st : St) : Prop :=
  w_X9_sets s2 s1 s0 st (fun st89 => K st89)
def w_X9_fadesTwo (x1 : Int32) (x2 : Int32) (st : St) (K : St → Prop) : Prop :=
  w_X9_has (st 0 11) x1 st (fun r5 st5 => (¬ r5 = 0 → K st5) ∧ (r5 = 0 → w_X9_has (st5 0 11) x2 st5 (fun r16 st16 => (r16 = 0 → w_X9_hateOf x1 x2 st16 (fun r26 st26 => vp_in x1 6 ∧ (vp_in x2 6 ∧ ((¬ (st26 4 (x1).toNatClampNeg) = (st26 4 (x2).toNatClampNeg) → w_X9_stirsOf x1 st26 (fun r73 st73 => w_X9_stirsOf x2 st73 (fun r79 st79 => w_X9_held ((r26 + r73) + r79) 0 99 st79 (fun r86 st86 => w_X9_fadesTwo_b89 x1 x2  K r86 x2 x1 st86)))) ∧ ((st26 4 (x1).toNatClampNeg) = (st26 4 (x2).toNatClampNeg) → w_X9_fadesOf x1 st26 (fun r51 st51 => w_X9_fadesOf x2 st51 (fun r57 st57 => w_X9_held ((r26 - r51) - r57) 0 99 st57 (fun r64 st64 => w_X9_fadesTwo_b89 x1 x2  K r64 x2 x1 st64)))))))) ∧ (¬ r16 = 0 → K st16))))
def w_X9_areThere (x1 : Int32) (x2 : Int32) (x3 : Int32) (st : St) (K : Int32 → St → Prop) : Prop :=
  vp_in x1 6 ∧ ((¬ (st 4 (x1).toNatClampNeg) = x3 → K 0 st) ∧ ((st 4 (x1).toNatClampNeg) = x3 → vp_in x2 6 ∧ ((¬ (st 4 (x2).toNatClampNeg) = x3 → K 0 st) ∧ ((st 4 (x2).toNatClampNeg) = x3 → w_X9_has (st 0 11) x1 st (fun r25 st25 => (¬ r25 = 0 → K 0 st25) ∧ (r25 = 0 → w_X9_has (st25 0 11) x2 st25 (fun r36 st36 => (¬ r36 = 0 → K 0 st36) ∧ (r36 = 0 → K 1 st36))))))))
def w_X9_opensAt_b93 (x1 : Int32) (x2 : Int32) (c10 : Int32 → Int32 → Int32 → St → Prop) (c25 : Int32 → Int32 → Int32 → Int32 → St → Prop) (K : Int32 → St → Prop) (v3 : Int32) (v4 : Int32) (v5 : Int32) (v6 : Int32) (st : St) : Prop :=
  c25 v3 v4 v5 (v6 + 1) st
def w_X9_opensAt_b99 (x1 : Int32) (x2 : Int32) (c10 : Int32 → Int32 → Int32 → St → Prop) (K : Int32 → St → Prop) (v3 : Int32) (v4 : Int32) (v5 : Int32) (st : St) : Prop :=
  c10 v3 v4 (v5 + 1) st
def w_X9_opensAt_L25q (x1 : Int32) (x2 : Int32) (c10 : Int32 → Int32 → Int32 → St → Prop) (K : Int32 → St → Prop) (c25 : Int32 → Int32 → Int32 → Int32 → St → Prop) (v3 : Int32) (v4 : Int32) (v5 : Int32) (v6 : Int32) (st : St) : Prop :=
  ((st 0 8) ≤ v6 → w_X9_opensAt_b99 x1 x2 c10 K v3 v4 v5 st) ∧ (¬ (st 0 8) ≤ v6 → w_X9_areThere v5 v6 x1 st (fun r40 st40 => (r40 = 0 → w_X9_opensAt_b93 x1 x2 c10 c25 K v3 v4 v5 v6 st40) ∧ (¬ r40 = 0 → w_X9_hateOf v5 v6 st40 (fun r51 st51 => (r51 < x2 → w_X9_opensAt_b93 x1 x2 c10 c25 K v3 v4 v5 v6 st51) ∧ (¬ r51 < x2 → w_X9_hateOf v5 v6 st51 (fun r63 st63 => (r63 < v4 → w_X9_hateOf v5 v6 st63 (fun r88 st88 => w_X9_opensAt_b93 x1 x2 c10 c25 K ((10 * v5) + v6) r88 v5 v6 st88)) ∧ (¬ r63 < v4 → w_X9_opensAt_b93 x1 x2 c10 c25 K v3 v4 v5 v6 st63)))))))
def w_X9_opensAt_L25 (x1 : Int32) (x2 : Int32) (c10 : Int32 → Int32 → Int32 → St → Prop) (K : Int32 → St → Prop) : Nat → Int32 → Int32 → Int32 → Int32 → St → Prop
  | 0, _, _, _, _, _ => False
  | n + 1, v3, v4, v5, v6, st => w_X9_opensAt_L25q x1 x2 c10 K (fun v3 v4 v5 v6 st => w_X9_opensAt_L25 x1 x2 c10 K n v3 v4 v5 v6 st) v3 v4 v5 v6 st
def w_X9_opensAt_L10q (x1 : Int32) (x2 : Int32)  (K : Int32 → St → Prop) (c10 : Int32 → Int32 → Int32 → St → Prop) (v3 : Int32) (v4 : Int32) (v5 : Int32) (st : St) : Prop :=
  ((st 0 8) ≤ v5 → K v3 st) ∧ (¬ (st 0 8) ≤ v5 → ∃ n, w_X9_opensAt_L25 x1 x2 c10 K n v3 v4 v5 (v5 + 1) st)
def w_X9_opensAt_L10 (x1 : Int32) (x2 : Int32)  (K : Int32 → St → Prop) : Nat → Int32 → Int32 → Int32 → St → Prop
  | 0, _, _, _, _ => False
  | n + 1, v3, v4, v5, st => w_X9_opensAt_L10q x1 x2  K (fun v3 v4 v5 st => w_X9_opensAt_L10 x1 x2  K n v3 v4 v5 st) v3 v4 v5 st
def w_X9_opensAt (x1 : Int32) (x2 : Int32) (st : St) (K : Int32 → St → Prop) : Prop :=
  ∃ n, w_X9_opensAt_L10 x1 x2  K n (-9) 100 0 st
def w_X9_goesWeek_b49  (c17 : Int32 → St → Prop) (K : St → Prop) (v1 : Int32) (st : St) : Prop :=
  c17 (v1 + 1) st
def w_X9_goesWeek_L29q  (c17 : Int32 → St → Prop) (K : St → Prop) (c29 : Int32 → Int32 → St → Prop) (v1 : Int32) (v2 : Int32) (st : St) : Prop :=
  ((st 0 8) ≤ v2 → w_X9_goesWeek_b49  c17 K v1 st) ∧ (¬ (st 0 8) ≤ v2 → w_X9_fadesTwo v1 v2 st (fun st40 => c29 v1 (v2 + 1) st40))
def w_X9_goesWeek_L29  (c17 : Int32 → St → Prop) (K : St → Prop) : Nat → Int32 → Int32 → St → Prop
  | 0, _, _, _ => False
  | n + 1, v1, v2, st => w_X9_goesWeek_L29q  c17 K (fun v1 v2 st => w_X9_goesWeek_L29  c17 K n v1 v2 st) v1 v2 st
def w_X9_goesWeek_b171  (c57 : Int32 → St → Prop) (K : St → Prop) (v1 : Int32) (st : St) : Prop :=
  c57 (v1 + 1) st
def w_X9_goesWeek_b101  (c57 : Int32 → St → Prop) (K : St → Prop) (v1 : Int32) (s0 : Int32) (s1 : Int32) (st : St) : Prop :=
  vp_in s1 6 ∧ (vp_in v1 6 ∧ ((0 ≤ ((u2 st 14 (s1).toNatClampNeg s0) 14 (v1).toNatClampNeg) → vp_in v1 6 ∧ (vp_in v1 6 ∧ (vp_in v1 6 ∧ (w_X9_hateOf (((u2 st 14 (s1).toNatClampNeg s0) 14 (v1).toNatClampNeg) / 10) (((u2 st 14 (s1).toNatClampNeg s0) 14 (v1).toNatClampNeg) - ((u2 st 14 (s1).toNatClampNeg s0) 14 (v1).toNatClampNeg) / 10 * 10) (u2 (u2 (u2 st 14 (s1).toNatClampNeg s0) 8 (v1).toNatClampNeg 1) 0 25 (((u2 (u2 st 14 (s1).toNatClampNeg s0) 8 (v1).toNatClampNeg 1) 0 25) + 1)) (fun r157 st157 => w_X9_held (r157 - 5) 0 99 st157 (fun r165 st165 => w_X9_sets (((u2 st 14 (s1).toNatClampNeg s0) 14 (v1).toNatClampNeg) / 10) (((u2 st 14 (s1).toNatClampNeg s0) 14 (v1).toNatClampNeg) - ((u2 st 14 (s1).toNatClampNeg s0) 14 (v1).toNatClampNeg) / 10 * 10) r165 st165 (fun st168 => w_X9_goesWeek_b171  c57 K v1 st168))))))) ∧ (¬ 0 ≤ ((u2 st 14 (s1).toNatClampNeg s0) 14 (v1).toNatClampNeg) → w_X9_goesWeek_b171  c57 K v1 (u2 st 14 (s1).toNatClampNeg s0))))
def w_X9_goesWeek_L57q   (K : St → Prop) (c57 : Int32 → St → Prop) (v1 : Int32) (st : St) : Prop :=
  ((st 0 9) ≤ v1 → K st) ∧ (¬ (st 0 9) ≤ v1 → vp_in v1 6 ∧ ((¬ (st 8 (v1).toNatClampNeg) = 1 → vp_in v1 6 ∧ (vp_in v1 6 ∧ (w_X9_opensAt (st 7 (v1).toNatClampNeg) (st 6 (v1).toNatClampNeg) st (fun r98 st98 => w_X9_goesWeek_b101  c57 K v1 r98 v1 st98)))) ∧ ((st 8 (v1).toNatClampNeg) = 1 → w_X9_goesWeek_b101  c57 K v1 (-9) v1 st)))
def w_X9_goesWeek_L57   (K : St → Prop) : Nat → Int32 → St → Prop
  | 0, _, _ => False
  | n + 1, v1, st => w_X9_goesWeek_L57q   K (fun v1 st => w_X9_goesWeek_L57   K n v1 st) v1 st
def w_X9_goesWeek_b55   (K : St → Prop)  (st : St) : Prop :=
  ∃ n, w_X9_goesWeek_L57   K n 0 st
def w_X9_goesWeek_L17q   (K : St → Prop) (c17 : Int32 → St → Prop) (v1 : Int32) (st : St) : Prop :=
  ((st 0 8) ≤ v1 → w_X9_goesWeek_b55   K st) ∧ (¬ (st 0 8) ≤ v1 → ∃ n, w_X9_goesWeek_L29  c17 K n v1 (v1 + 1) st)
def w_X9_goesWeek_L17   (K : St → Prop) : Nat → Int32 → St → Prop
  | 0, _, _ => False
  | n + 1, v1, st => w_X9_goesWeek_L17q   K (fun v1 st => w_X9_goesWeek_L17   K n v1 st) v1 st
def w_X9_goesWeek  (st : St) (K : St → Prop) : Prop :=
  ∃ n, w_X9_goesWeek_L17   K n 0 (u2 (u2 st 0 10 ((st 0 10) + 1)) 0 25 0)
def w_X9_goesOn_L2q (x1 : Int32)  (K : St → Prop) (c2 : Int32 → St → Prop) (v2 : Int32) (st : St) : Prop :=
  (x1 ≤ v2 → K st) ∧ (¬ x1 ≤ v2 → w_X9_goesWeek  st (fun st8 => c2 (v2 + 1) st8))
def w_X9_goesOn_L2 (x1 : Int32)  (K : St → Prop) : Nat → Int32 → St → Prop
  | 0, _, _ => False
  | n + 1, v2, st => w_X9_goesOn_L2q x1  K (fun v2 st => w_X9_goesOn_L2 x1  K n v2 st) v2 st
def w_X9_goesOn (x1 : Int32) (st : St) (K : St → Prop) : Prop :=
  ∃ n, w_X9_goesOn_L2 x1  K n 0 st
def w_X9_comesWeeks (x1 : Int32) (st : St) (K : Int32 → St → Prop) : Prop :=
  w_X9_isIn x1 1 60 st (fun r4 st4 => (r4 = 0 → K 0 st4) ∧ (¬ r4 = 0 → (((st4 0 10) + x1) ≤ 999 → w_X9_goesOn x1 st4 (fun st26 => K 1 st26)) ∧ (¬ ((st4 0 10) + x1) ≤ 999 → K 0 st4)))
def w_X9_comes (x1 : Int32) (st : St) (K : Int32 → St → Prop) : Prop :=
  vp_in x1 48 ∧ (((st 10 (x1).toNatClampNeg) = 103 → vp_in (3 * x1) 144 ∧ (w_X9_isKeeper (st 12 ((3 * x1)).toNatClampNeg) st (fun r180 st180 => (r180 = 0 → K 0 st180) ∧ (¬ r180 = 0 → vp_in ((3 * x1) + 1) 144 ∧ (w_X9_isTown (st180 12 (((3 * x1) + 1)).toNatClampNeg) st180 (fun r194 st194 => (¬ r194 = 0 → vp_in (3 * x1) 144 ∧ (vp_in ((3 * x1) + 1) 144 ∧ (vp_in (st194 12 ((3 * x1)).toNatClampNeg) 6 ∧ (K 1 (u2 st194 4 ((st194 12 ((3 * x1)).toNatClampNeg)).toNatClampNeg (st194 12 (((3 * x1) + 1)).toNatClampNeg)))))) ∧ (r194 = 0 → K 0 st194))))))) ∧ (¬ (st 10 (x1).toNatClampNeg) = 103 → ((st 10 (x1).toNatClampNeg) = 104 → vp_in (3 * x1) 144 ∧ (vp_in ((3 * x1) + 1) 144 ∧ (w_X9_areTwo (st 12 ((3 * x1)).toNatClampNeg) (st 12 (((3 * x1) + 1)).toNatClampNeg) st (fun r118 st118 => (¬ r118 = 0 → vp_in (3 * x1) 144 ∧ (vp_in ((3 * x1) + 1) 144 ∧ (vp_in ((3 * x1) + 2) 144 ∧ (w_X9_sets (st118 12 ((3 * x1)).toNatClampNeg) (st118 12 (((3 * x1) + 1)).toNatClampNeg) (st118 12 (((3 * x1) + 2)).toNatClampNeg) st118 (fun st149 => K 1 st149))))) ∧ (r118 = 0 → K 0 st118))))) ∧ (¬ (st 10 (x1).toNatClampNeg) = 104 → ((st 10 (x1).toNatClampNeg) = 107 → vp_in (3 * x1) 144 ∧ (vp_in ((3 * x1) + 1) 144 ∧ (vp_in ((3 * x1) + 2) 144 ∧ (w_X9_comesKeeper (st 12 ((3 * x1)).toNatClampNeg) (st 12 (((3 * x1) + 1)).toNatClampNeg) (st 12 (((3 * x1) + 2)).toNatClampNeg) st (fun r99 st99 => (r99 = 0 ∨ r99 = 1) ∧ K r99 st99))))) ∧ (¬ (st 10 (x1).toNatClampNeg) = 107 → ((st 10 (x1).toNatClampNeg) = 108 → vp_in (3 * x1) 144 ∧ (vp_in ((3 * x1) + 1) 144 ∧ (w_X9_comesLetter (st 12 ((3 * x1)).toNatClampNeg) (st 12 (((3 * x1) + 1)).toNatClampNeg) st (fun r169 st169 => (r169 = 0 ∨ r169 = 1) ∧ K r169 st169)))) ∧ (¬ (st 10 (x1).toNatClampNeg) = 108 → ((st 10 (x1).toNatClampNeg) = 115 → vp_in (3 * x1) 144 ∧ (w_X9_isLetter (st 12 ((3 * x1)).toNatClampNeg) st (fun r230 st230 => (¬ r230 = 0 → vp_in (3 * x1) 144 ∧ (vp_in (3 * x1) 144 ∧ (vp_in (st230 12 ((3 * x1)).toNatClampNeg) 6 ∧ (vp_in (st230 12 ((3 * x1)).toNatClampNeg) 6 ∧ (K 1 (u2 st230 8 ((st230 12 ((3 * x1)).toNatClampNeg)).toNatClampNeg (1 - (st230 8 ((st230 12 ((3 * x1)).toNatClampNeg)).toNatClampNeg)))))))) ∧ (r230 = 0 → K 0 st230)))) ∧ (¬ (st 10 (x1).toNatClampNeg) = 115 → vp_in (3 * x1) 144 ∧ (w_X9_comesWeeks (st 12 ((3 * x1)).toNatClampNeg) st (fun r271 st271 => (r271 = 0 ∨ r271 = 1) ∧ K r271 st271))))))))
def w_X9_passes_b42 (k1 : Nat) (n1 : Nat) (c2 : Int32 → St → Prop) (K : St → Prop) (v2 : Int32) (st : St) : Prop :=
  c2 (v2 + 1) (u2 st 0 22 ((st 0 22) + 1))
def w_X9_passes_L2q (k1 : Nat) (n1 : Nat)  (K : St → Prop) (c2 : Int32 → St → Prop) (v2 : Int32) (st : St) : Prop :=
  ((nI n1) ≤ v2 → K st) ∧ (¬ (nI n1) ≤ v2 → ((st 0 21) = 0 → vp_in (st 0 22) 825 ∧ (vp_in v2 n1 ∧ (w_X9_passes_b42 k1 n1 c2 K v2 (u2 st k1 (v2).toNatClampNeg (st 13 ((st 0 22)).toNatClampNeg))))) ∧ (¬ (st 0 21) = 0 → vp_in v2 n1 ∧ (vp_in (st 0 22) 825 ∧ (w_X9_passes_b42 k1 n1 c2 K v2 (u2 st 13 ((st 0 22)).toNatClampNeg (st k1 (v2).toNatClampNeg))))))
def w_X9_passes_L2 (k1 : Nat) (n1 : Nat)  (K : St → Prop) : Nat → Int32 → St → Prop
  | 0, _, _ => False
  | n + 1, v2, st => w_X9_passes_L2q k1 n1  K (fun v2 st => w_X9_passes_L2 k1 n1  K n v2 st) v2 st
def w_X9_passes (k1 : Nat) (n1 : Nat) (st : St) (K : St → Prop) : Prop :=
  ∃ n, w_X9_passes_L2 k1 n1  K n 0 st
def w_X9_passOne_b38 (x1 : Int32)  (K : Int32 → St → Prop) (v2 : Int32) (st : St) : Prop :=
  K v2 (u2 st 0 22 ((st 0 22) + 1))
def w_X9_passOne_b20 (x1 : Int32)  (K : Int32 → St → Prop) (s0 : Int32) (st : St) : Prop :=
  ((st 0 21) = 0 → w_X9_passOne_b38 x1  K s0 st) ∧ (¬ (st 0 21) = 0 → vp_in (st 0 22) 825 ∧ (w_X9_passOne_b38 x1  K s0 (u2 st 13 ((st 0 22)).toNatClampNeg x1)))
def w_X9_passOne (x1 : Int32) (st : St) (K : Int32 → St → Prop) : Prop :=
  ((st 0 21) = 0 → vp_in (st 0 22) 825 ∧ (w_X9_passOne_b20 x1  K (st 13 ((st 0 22)).toNatClampNeg) st)) ∧ (¬ (st 0 21) = 0 → w_X9_passOne_b20 x1  K x1 st)
def w_X9_passesAll (x1 : Int32) (x2 : Int32) (st : St) (K : St → Prop) : Prop :=
  (x2 = 0 ∨ x2 = 1) ∧ (w_X9_passes 2 6 (u2 (u2 st 0 22 (75 * x1)) 0 21 x2) (fun st18 => w_X9_passes 3 6 st18 (fun st26 => w_X9_passes 4 6 st26 (fun st34 => w_X9_passes 5 36 st34 (fun st42 => w_X9_passes 6 6 st42 (fun st50 => w_X9_passes 7 6 st50 (fun st58 => w_X9_passes 8 6 st58 (fun st66 => w_X9_passOne (st66 0 8) st66 (fun r75 st75 => w_X9_passOne ((u2 st75 0 8 r75) 0 9) (u2 st75 0 8 r75) (fun r87 st87 => w_X9_passOne ((u2 st87 0 9 r87) 0 10) (u2 st87 0 9 r87) (fun r99 st99 => K (u2 st99 0 10 r99))))))))))))
def w_X9_land_b53  (c12 : Int32 → St → Prop) (K : Int32 → St → Prop) (v1 : Int32) (s0 : Int32) (s1 : Int32) (st : St) : Prop :=
  c12 v1 (u2 st 0 18 (s1 + s0))
def w_X9_land_b34  (c12 : Int32 → St → Prop) (K : Int32 → St → Prop)  (st : St) : Prop :=
  w_X9_statement  st (fun r35 st35 => (r35 = 0 → w_X9_land_b53  c12 K r35 0 (st35 0 18) st35) ∧ (¬ r35 = 0 → w_X9_land_b53  c12 K r35 1 (st35 0 18) st35))
def w_X9_land_b105   (K : Int32 → St → Prop) (v2 : Int32) (st : St) : Prop :=
  w_X9_passesAll 1 0 st (fun st108 => vp_in v2 48 ∧ (K ((-2000) - (st108 11 (v2).toNatClampNeg)) st108))
def w_X9_land_b128   (K : Int32 → St → Prop)  (st : St) : Prop :=
  K ((u2 st 0 23 0) 0 18) (u2 st 0 23 0)
def w_X9_land_L86q   (K : Int32 → St → Prop) (c86 : Int32 → St → Prop) (v2 : Int32) (st : St) : Prop :=
  ((st 0 18) ≤ v2 → w_X9_land_b128   K st) ∧ (¬ (st 0 18) ≤ v2 → w_X9_comes v2 st (fun r96 st96 => (r96 = 0 → w_X9_land_b105   K v2 st96) ∧ (¬ r96 = 0 → c86 (v2 + 1) st96)))
def w_X9_land_L86   (K : Int32 → St → Prop) : Nat → Int32 → St → Prop
  | 0, _, _ => False
  | n + 1, v2, st => w_X9_land_L86q   K (fun v2 st => w_X9_land_L86   K n v2 st) v2 st
def w_X9_land_b60   (K : Int32 → St → Prop) (v1 : Int32) (st : St) : Prop :=
  (¬ v1 = 0 → w_X9_passesAll 1 1 (u2 st 0 16 0) (fun st81 => ∃ n, w_X9_land_L86   K n 0 st81)) ∧ (v1 = 0 → K ((-1000) - ((u2 st 0 16 0) 0 17)) (u2 st 0 16 0))
def w_X9_land_L12q   (K : Int32 → St → Prop) (c12 : Int32 → St → Prop) (v1 : Int32) (st : St) : Prop :=
  (v1 = 0 → w_X9_land_b60   K v1 st) ∧ (¬ v1 = 0 → ((st 0 17) < (st 0 16) → w_X9_land_b34  c12 K st) ∧ (¬ (st 0 17) < (st 0 16) → (¬ (st 0 18) = 0 → w_X9_land_b60   K v1 st) ∧ ((st 0 18) = 0 → w_X9_land_b34  c12 K st)))
def w_X9_land_L12   (K : Int32 → St → Prop) : Nat → Int32 → St → Prop
  | 0, _, _ => False
  | n + 1, v1, st => w_X9_land_L12q   K (fun v1 st => w_X9_land_L12   K n v1 st) v1 st
def w_X9_land  (st : St) (K : Int32 → St → Prop) : Prop :=
  ∃ n, w_X9_land_L12   K n 1 (u2 (u2 st 0 17 0) 0 18 0)
def w_X9_thinks  (st : St) (K : St → Prop) : Prop :=
  w_X9_passesAll 2 1 st (fun st3 => K st3)
def w_X9_forgets  (st : St) (K : St → Prop) : Prop :=
  w_X9_passesAll 2 0 st (fun st3 => K st3)
def w_X9_changes  (st : St) (K : St → Prop) : Prop :=
  w_X9_passesAll 1 1 st (fun st3 => K st3)
def w_X9_changesBack  (st : St) (K : St → Prop) : Prop :=
  w_X9_passesAll 1 0 st (fun st3 => K st3)
def w_X9_keepsBack_b51   (K : St → Prop)  (st : St) : Prop :=
  w_X9_passesAll (3 + (st 0 23)) 1 st (fun st59 => K (u2 st59 0 23 ((st59 0 23) + 1)))
def w_X9_keepsBack_b41   (K : St → Prop)  (st : St) : Prop :=
  w_X9_keepsBack_b51   K (u2 st 0 23 ((st 0 23) - 1))
def w_X9_keepsBack_L13q   (K : St → Prop) (c13 : Int32 → St → Prop) (v1 : Int32) (st : St) : Prop :=
  (750 ≤ v1 → w_X9_keepsBack_b41   K st) ∧ (¬ 750 ≤ v1 → vp_in (v1 + 75) 825 ∧ (vp_in v1 825 ∧ (c13 (v1 + 1) (u2 st 13 (v1).toNatClampNeg (st 13 ((v1 + 75)).toNatClampNeg)))))
def w_X9_keepsBack_L13   (K : St → Prop) : Nat → Int32 → St → Prop
  | 0, _, _ => False
  | n + 1, v1, st => w_X9_keepsBack_L13q   K (fun v1 st => w_X9_keepsBack_L13   K n v1 st) v1 st
def w_X9_keepsBack  (st : St) (K : St → Prop) : Prop :=
  (¬ (st 0 23) = 8 → w_X9_keepsBack_b51   K st) ∧ ((st 0 23) = 8 → ∃ n, w_X9_keepsBack_L13   K n 225 st)
def w_X9_back  (st : St) (K : Int32 → St → Prop) : Prop :=
  (¬ (st 0 23) = 0 → w_X9_passesAll (3 + ((u2 st 0 23 ((st 0 23) - 1)) 0 23)) 0 (u2 st 0 23 ((st 0 23) - 1)) (fun st32 => K (st32 0 23) st32)) ∧ ((st 0 23) = 0 → w_X9_no (-3) st (fun r10 st10 => K r10 st10))
def w_X9_image  (st : St) (K : Int32 → St → Prop) : Prop :=
  w_X9_passesAll 0 1 (u2 st 0 20 1) (fun st8 => K (st8 0 10) st8)
def w_X9_restore  (st : St) (K : Int32 → St → Prop) : Prop :=
  (¬ (st 0 20) = 0 → w_X9_passesAll 0 0 st (fun st17 => K ((u2 st17 0 23 0) 0 10) (u2 st17 0 23 0))) ∧ ((st 0 20) = 0 → w_X9_no (-3) st (fun r10 st10 => K r10 st10))
def w_X9_payOf (x1 : Int32) (st : St) (K : Int32 → St → Prop) : Prop :=
  vp_in x1 6 ∧ (((st 2 (x1).toNatClampNeg) = 1 → vp_in x1 6 ∧ (K ((2 * (st 3 (x1).toNatClampNeg)) + 2) st)) ∧ (¬ (st 2 (x1).toNatClampNeg) = 1 → ((st 2 (x1).toNatClampNeg) = 2 → K 5 st) ∧ (¬ (st 2 (x1).toNatClampNeg) = 2 → ((st 2 (x1).toNatClampNeg) = 3 → K 0 st) ∧ (¬ (st 2 (x1).toNatClampNeg) = 3 → ((st 2 (x1).toNatClampNeg) = 4 → vp_in x1 6 ∧ (K ((2 * (st 3 (x1).toNatClampNeg)) + 1) st)) ∧ (¬ (st 2 (x1).toNatClampNeg) = 4 → ((st 2 (x1).toNatClampNeg) = 5 → K 2 st) ∧ (¬ (st 2 (x1).toNatClampNeg) = 5 → vp_in x1 6 ∧ (K ((st 3 (x1).toNatClampNeg) + 1) st)))))))
def w_X9_openOnes_L4q   (K : Int32 → St → Prop) (c4 : Int32 → Int32 → St → Prop) (v1 : Int32) (v2 : Int32) (st : St) : Prop :=
  ((st 0 9) ≤ v2 → K v1 st) ∧ (¬ (st 0 9) ≤ v2 → vp_in v2 6 ∧ (c4 (v1 ||| ((st 8 (v2).toNatClampNeg) <<< (v2 &&& 31))) (v2 + 1) st))
def w_X9_openOnes_L4   (K : Int32 → St → Prop) : Nat → Int32 → Int32 → St → Prop
  | 0, _, _, _ => False
  | n + 1, v1, v2, st => w_X9_openOnes_L4q   K (fun v1 v2 st => w_X9_openOnes_L4   K n v1 v2 st) v1 v2 st
def w_X9_openOnes  (st : St) (K : Int32 → St → Prop) : Prop :=
  ∃ n, w_X9_openOnes_L4   K n 0 0 st
def w_X9_allHate_b39  (c4 : Int32 → Int32 → St → Prop) (K : Int32 → St → Prop) (v1 : Int32) (v2 : Int32) (st : St) : Prop :=
  c4 v1 (v2 + 1) st
def w_X9_allHate_L16q  (c4 : Int32 → Int32 → St → Prop) (K : Int32 → St → Prop) (c16 : Int32 → Int32 → Int32 → St → Prop) (v1 : Int32) (v2 : Int32) (v3 : Int32) (st : St) : Prop :=
  ((st 0 8) ≤ v3 → w_X9_allHate_b39  c4 K v1 v2 st) ∧ (¬ (st 0 8) ≤ v3 → w_X9_hateOf v2 v3 st (fun r28 st28 => c16 (v1 + r28) v2 (v3 + 1) st28))
def w_X9_allHate_L16  (c4 : Int32 → Int32 → St → Prop) (K : Int32 → St → Prop) : Nat → Int32 → Int32 → Int32 → St → Prop
  | 0, _, _, _, _ => False
  | n + 1, v1, v2, v3, st => w_X9_allHate_L16q  c4 K (fun v1 v2 v3 st => w_X9_allHate_L16  c4 K n v1 v2 v3 st) v1 v2 v3 st
def w_X9_allHate_L4q   (K : Int32 → St → Prop) (c4 : Int32 → Int32 → St → Prop) (v1 : Int32) (v2 : Int32) (st : St) : Prop :=
  ((st 0 8) ≤ v2 → K v1 st) ∧ (¬ (st 0 8) ≤ v2 → ∃ n, w_X9_allHate_L16  c4 K n v1 v2 (v2 + 1) st)
def w_X9_allHate_L4   (K : Int32 → St → Prop) : Nat → Int32 → Int32 → St → Prop
  | 0, _, _, _ => False
  | n + 1, v1, v2, st => w_X9_allHate_L4q   K (fun v1 v2 st => w_X9_allHate_L4   K n v1 v2 st) v1 v2 st
def w_X9_allHate  (st : St) (K : Int32 → St → Prop) : Prop :=
  ∃ n, w_X9_allHate_L4   K n 0 0 st
def w_X9_keeperOf (x1 : Int32) (x2 : Int32) (st : St) (K : Int32 → St → Prop) : Prop :=
  w_X9_isKeeper x1 st (fun r2 st2 => (¬ r2 = 0 → (x2 = 0 → vp_in x1 6 ∧ (K (st2 2 (x1).toNatClampNeg) st2)) ∧ (¬ x2 = 0 → (x2 = 1 → vp_in x1 6 ∧ (K (st2 3 (x1).toNatClampNeg) st2)) ∧ (¬ x2 = 1 → (x2 = 2 → vp_in x1 6 ∧ (K (st2 4 (x1).toNatClampNeg) st2)) ∧ (¬ x2 = 2 → (x2 = 3 → w_X9_fadesOf x1 st2 (fun r75 st75 => K r75 st75)) ∧ (¬ x2 = 3 → (x2 = 4 → w_X9_stirsOf x1 st2 (fun r81 st81 => K r81 st81)) ∧ (¬ x2 = 4 → (x2 = 5 → w_X9_payOf x1 st2 (fun r87 st87 => K r87 st87)) ∧ (¬ x2 = 5 → w_X9_no (-2) st2 (fun r94 st94 => K r94 st94)))))))) ∧ (r2 = 0 → w_X9_no (-1) st2 (fun r10 st10 => K r10 st10)))
def w_X9_letterOf (x1 : Int32) (x2 : Int32) (st : St) (K : Int32 → St → Prop) : Prop :=
  w_X9_isLetter x1 st (fun r2 st2 => (¬ r2 = 0 → (x2 = 0 → vp_in x1 6 ∧ (K (st2 6 (x1).toNatClampNeg) st2)) ∧ (¬ x2 = 0 → (x2 = 1 → vp_in x1 6 ∧ (K (st2 7 (x1).toNatClampNeg) st2)) ∧ (¬ x2 = 1 → (x2 = 2 → vp_in x1 6 ∧ (K (st2 8 (x1).toNatClampNeg) st2)) ∧ (¬ x2 = 2 → (x2 = 3 → vp_in x1 6 ∧ (vp_in x1 6 ∧ (w_X9_opensAt (st2 7 (x1).toNatClampNeg) (st2 6 (x1).toNatClampNeg) st2 (fun r78 st78 => K r78 st78)))) ∧ (¬ x2 = 3 → w_X9_no (-2) st2 (fun r85 st85 => K r85 st85)))))) ∧ (r2 = 0 → w_X9_no (-1) st2 (fun r10 st10 => K r10 st10)))
def w_X9_hate (x1 : Int32) (x2 : Int32) (st : St) (K : Int32 → St → Prop) : Prop :=
  w_X9_areTwo x1 x2 st (fun r3 st3 => (r3 = 0 → w_X9_no (-1) st3 (fun r20 st20 => K r20 st20)) ∧ (¬ r3 = 0 → w_X9_hateOf x1 x2 st3 (fun r12 st12 => K r12 st12)))
def w_X9_keeper_b56 (x1 : Int32) (x2 : Int32) (x3 : Int32)  (K : Int32 → St → Prop) (v4 : Int32) (st : St) : Prop :=
  (v4 = 0 → w_X9_addsKeeper x1 x2 x3 (u2 st 0 23 0) (fun st77 => K ((st77 0 8) - 1) st77)) ∧ (¬ v4 = 0 → w_X9_no v4 st (fun r64 st64 => K r64 st64))
def w_X9_keeper_b41 (x1 : Int32) (x2 : Int32) (x3 : Int32)  (K : Int32 → St → Prop) (v4 : Int32) (st : St) : Prop :=
  (¬ v4 = 0 → w_X9_keeper_b56 x1 x2 x3  K v4 st) ∧ (v4 = 0 → w_X9_isTown x3 st (fun r47 st47 => (¬ r47 = 0 → w_X9_keeper_b56 x1 x2 x3  K v4 st47) ∧ (r47 = 0 → w_X9_keeper_b56 x1 x2 x3  K (-1) st47)))
def w_X9_keeper_b21 (x1 : Int32) (x2 : Int32) (x3 : Int32)  (K : Int32 → St → Prop) (s0 : Int32) (st : St) : Prop :=
  (¬ s0 = 0 → w_X9_keeper_b41 x1 x2 x3  K s0 st) ∧ (s0 = 0 → (¬ (st 0 8) = 6 → w_X9_keeper_b41 x1 x2 x3  K s0 st) ∧ ((st 0 8) = 6 → w_X9_keeper_b41 x1 x2 x3  K (-6) st))
def w_X9_keeper (x1 : Int32) (x2 : Int32) (x3 : Int32) (st : St) (K : Int32 → St → Prop) : Prop :=
  w_X9_isIn x1 0 5 st (fun r3 st3 => (¬ r3 = 0 → w_X9_bound x2 0 9 st3 (fun r18 st18 => w_X9_keeper_b21 x1 x2 x3  K r18 st18)) ∧ (r3 = 0 → w_X9_keeper_b21 x1 x2 x3  K (-2) st3))
def w_X9_letter_b35 (x1 : Int32) (x2 : Int32)  (K : Int32 → St → Prop) (v3 : Int32) (st : St) : Prop :=
  (v3 = 0 → w_X9_addsLetter x1 x2 (u2 st 0 23 0) (fun st53 => K ((st53 0 9) - 1) st53)) ∧ (¬ v3 = 0 → w_X9_no v3 st (fun r41 st41 => K r41 st41))
def w_X9_letter_b18 (x1 : Int32) (x2 : Int32)  (K : Int32 → St → Prop) (s0 : Int32) (st : St) : Prop :=
  (¬ s0 = 0 → w_X9_letter_b35 x1 x2  K s0 st) ∧ (s0 = 0 → (¬ (st 0 9) = 6 → w_X9_letter_b35 x1 x2  K s0 st) ∧ ((st 0 9) = 6 → w_X9_letter_b35 x1 x2  K (-6) st))
def w_X9_letter (x1 : Int32) (x2 : Int32) (st : St) (K : Int32 → St → Prop) : Prop :=
  w_X9_isTown x1 st (fun r1 st1 => (¬ r1 = 0 → w_X9_bound x2 0 99 st1 (fun r15 st15 => w_X9_letter_b18 x1 x2  K r15 st15)) ∧ (r1 = 0 → w_X9_letter_b18 x1 x2  K (-1) st1))
def w_X9_hates_b20 (x1 : Int32) (x2 : Int32) (x3 : Int32)  (K : Int32 → St → Prop) (s0 : Int32) (st : St) : Prop :=
  (s0 = 0 → w_X9_keepsBack  st (fun st35 => w_X9_hateOf x1 x2 st35 (fun r41 st41 => w_X9_sets x1 x2 x3 st41 (fun st50 => K r41 st50)))) ∧ (¬ s0 = 0 → w_X9_no s0 st (fun r30 st30 => K r30 st30))
def w_X9_hates (x1 : Int32) (x2 : Int32) (x3 : Int32) (st : St) (K : Int32 → St → Prop) : Prop :=
  w_X9_areTwo x1 x2 st (fun r3 st3 => (¬ r3 = 0 → w_X9_bound x3 0 99 st3 (fun r17 st17 => w_X9_hates_b20 x1 x2 x3  K r17 st17)) ∧ (r3 = 0 → w_X9_hates_b20 x1 x2 x3  K (-1) st3))
def w_X9_goes_b15 (x1 : Int32) (x2 : Int32)  (K : Int32 → St → Prop)  (st : St) : Prop :=
  w_X9_no (-1) st (fun r17 st17 => K r17 st17)
def w_X9_goes (x1 : Int32) (x2 : Int32) (st : St) (K : Int32 → St → Prop) : Prop :=
  w_X9_isKeeper x1 st (fun r2 st2 => (r2 = 0 → w_X9_goes_b15 x1 x2  K st2) ∧ (¬ r2 = 0 → w_X9_isTown x2 st2 (fun r9 st9 => (¬ r9 = 0 → w_X9_keepsBack  st9 (fun st22 => vp_in x1 6 ∧ (vp_in x1 6 ∧ (K (st22 4 (x1).toNatClampNeg) (u2 st22 4 (x1).toNatClampNeg x2))))) ∧ (r9 = 0 → w_X9_goes_b15 x1 x2  K st9))))
def w_X9_seals (x1 : Int32) (st : St) (K : Int32 → St → Prop) : Prop :=
  w_X9_isLetter x1 st (fun r2 st2 => (¬ r2 = 0 → w_X9_keepsBack  st2 (fun st15 => vp_in x1 6 ∧ (vp_in x1 6 ∧ (vp_in x1 6 ∧ (K ((u2 st15 8 (x1).toNatClampNeg (1 - (st15 8 (x1).toNatClampNeg))) 8 (x1).toNatClampNeg) (u2 st15 8 (x1).toNatClampNeg (1 - (st15 8 (x1).toNatClampNeg)))))))) ∧ (r2 = 0 → w_X9_no (-1) st2 (fun r10 st10 => K r10 st10)))
def w_X9_weeks_b27 (x1 : Int32)  (K : Int32 → St → Prop) (v2 : Int32) (st : St) : Prop :=
  (v2 = 0 → w_X9_keepsBack  st (fun st38 => w_X9_goesOn x1 st38 (fun st43 => w_X9_openOnes  st43 (fun r47 st47 => w_X9_bits r47 st47 (fun r50 st50 => K r50 st50))))) ∧ (¬ v2 = 0 → w_X9_no v2 st (fun r33 st33 => K r33 st33))
def w_X9_weeks (x1 : Int32) (st : St) (K : Int32 → St → Prop) : Prop :=
  w_X9_bound x1 1 60 st (fun r4 st4 => (¬ r4 = 0 → w_X9_weeks_b27 x1  K r4 st4) ∧ (r4 = 0 → (((st4 0 10) + x1) ≤ 999 → w_X9_weeks_b27 x1  K r4 st4) ∧ (¬ ((st4 0 10) + x1) ≤ 999 → w_X9_weeks_b27 x1  K (-6) st4)))
def w_X9_notWeeks (x0 : Int32) (st : St) (K : Int32 → St → Prop) : Prop :=
  w_X9_bound x0 0 60 st (fun r4 st4 => K r4 st4)
def w_X9_hateIn (x1 : Int32) (x2 : Int32) (x3 : Int32) (st : St) (K : Int32 → St → Prop) : Prop :=
  w_X9_thinks  st (fun st1 => w_X9_goesOn x3 st1 (fun st6 => w_X9_hateOf x1 x2 st6 (fun r12 st12 => w_X9_forgets  st12 (fun st18 => K r12 st18))))
def w_X9_openIn (x1 : Int32) (st : St) (K : Int32 → St → Prop) : Prop :=
  w_X9_thinks  st (fun st1 => w_X9_goesOn x1 st1 (fun st6 => w_X9_openOnes  st6 (fun r10 st10 => w_X9_forgets  st10 (fun st15 => K r10 st15))))
def w_X9_behind_b17 (x1 : Int32) (x2 : Int32) (x3 : Int32)  (K : Int32 → St → Prop) (s0 : Int32) (st : St) : Prop :=
  (s0 = 0 → w_X9_hateIn x1 x2 x3 st (fun r37 st37 => K r37 st37)) ∧ (¬ s0 = 0 → w_X9_no s0 st (fun r27 st27 => K r27 st27))
def w_X9_behind (x1 : Int32) (x2 : Int32) (x3 : Int32) (st : St) (K : Int32 → St → Prop) : Prop :=
  w_X9_areTwo x1 x2 st (fun r3 st3 => (¬ r3 = 0 → w_X9_notWeeks x3 st3 (fun r14 st14 => w_X9_behind_b17 x1 x2 x3  K r14 st14)) ∧ (r3 = 0 → w_X9_behind_b17 x1 x2 x3  K (-1) st3))
def w_X9_then_b21 (x1 : Int32) (x2 : Int32)  (K : Int32 → St → Prop) (v3 : Int32) (st : St) : Prop :=
  (v3 = 0 → (¬ x2 = 0 → w_X9_thinks  st (fun st42 => w_X9_goesOn x1 st42 (fun st47 => w_X9_allHate  st47 (fun r51 st51 => w_X9_forgets  st51 (fun st57 => K r51 st57))))) ∧ (x2 = 0 → w_X9_openIn x1 st (fun r37 st37 => K r37 st37))) ∧ (¬ v3 = 0 → w_X9_no v3 st (fun r27 st27 => K r27 st27))
def w_X9_then (x1 : Int32) (x2 : Int32) (st : St) (K : Int32 → St → Prop) : Prop :=
  w_X9_notWeeks x1 st (fun r1 st1 => (¬ r1 = 0 → w_X9_then_b21 x1 x2  K r1 st1) ∧ (r1 = 0 → w_X9_isIn x2 0 1 st1 (fun r12 st12 => (¬ r12 = 0 → w_X9_then_b21 x1 x2  K r1 st12) ∧ (r12 = 0 → w_X9_then_b21 x1 x2  K (-2) st12))))
def w_X9_whenOf_b65 (x1 : Int32) (c27 : Int32 → Int32 → St → Prop) (K : Int32 → St → Prop) (v2 : Int32) (v3 : Int32) (st : St) : Prop :=
  c27 v2 (v3 + 1) st
def w_X9_whenOf_b71 (x1 : Int32)  (K : Int32 → St → Prop) (v2 : Int32) (st : St) : Prop :=
  w_X9_forgets  st (fun st72 => K v2 st72)
def w_X9_whenOf_L27q (x1 : Int32)  (K : Int32 → St → Prop) (c27 : Int32 → Int32 → St → Prop) (v2 : Int32) (v3 : Int32) (st : St) : Prop :=
  (60 < v3 → w_X9_whenOf_b71 x1  K v2 st) ∧ (¬ 60 < v3 → (0 ≤ v2 → w_X9_whenOf_b71 x1  K v2 st) ∧ (¬ 0 ≤ v2 → w_X9_goesWeek  st (fun st38 => vp_in x1 6 ∧ ((¬ (st38 8 (x1).toNatClampNeg) = 0 → vp_in x1 6 ∧ (w_X9_whenOf_b65 x1 c27 K v3 v3 (u2 st38 0 26 (st38 14 (x1).toNatClampNeg)))) ∧ ((st38 8 (x1).toNatClampNeg) = 0 → w_X9_whenOf_b65 x1 c27 K v2 v3 st38)))))
def w_X9_whenOf_L27 (x1 : Int32)  (K : Int32 → St → Prop) : Nat → Int32 → Int32 → St → Prop
  | 0, _, _, _ => False
  | n + 1, v2, v3, st => w_X9_whenOf_L27q x1  K (fun v2 v3 st => w_X9_whenOf_L27 x1  K n v2 v3 st) v2 v3 st
def w_X9_whenOf (x1 : Int32) (st : St) (K : Int32 → St → Prop) : Prop :=
  vp_in x1 6 ∧ ((¬ ((u2 st 0 26 (-9)) 8 (x1).toNatClampNeg) = 1 → w_X9_thinks  (u2 st 0 26 (-9)) (fun st19 => ∃ n, w_X9_whenOf_L27 x1  K n (-9) 1 st19)) ∧ (((u2 st 0 26 (-9)) 8 (x1).toNatClampNeg) = 1 → K 0 (u2 st 0 26 (-9))))
def w_X9_when_b27 (x1 : Int32) (x2 : Int32)  (K : Int32 → St → Prop) (s0 : Int32) (st : St) : Prop :=
  (s0 = 0 → w_X9_whenOf x1 st (fun r40 st40 => (¬ x2 = 0 → K (st40 0 26) st40) ∧ (x2 = 0 → K r40 st40))) ∧ (¬ s0 = 0 → w_X9_no s0 st (fun r34 st34 => K r34 st34))
def w_X9_when (x1 : Int32) (x2 : Int32) (st : St) (K : Int32 → St → Prop) : Prop :=
  w_X9_isLetter x1 st (fun r2 st2 => (¬ r2 = 0 → w_X9_isIn x2 0 1 st2 (fun r15 st15 => (¬ r15 = 0 → w_X9_when_b27 x1 x2  K 0 st15) ∧ (r15 = 0 → w_X9_when_b27 x1 x2  K (-2) st15))) ∧ (r2 = 0 → w_X9_when_b27 x1 x2  K (-1) st2))
def w_X9_lasts_b74 (x1 : Int32) (x2 : Int32) (x3 : Int32) (c45 : Int32 → Int32 → St → Prop) (K : Int32 → St → Prop) (v6 : Int32) (s0 : Int32) (st : St) : Prop :=
  w_X9_goesWeek  st (fun st77 => c45 s0 (v6 + 1) st77)
def w_X9_lasts_b86 (x1 : Int32) (x2 : Int32) (x3 : Int32)  (K : Int32 → St → Prop) (v5 : Int32) (st : St) : Prop :=
  w_X9_forgets  st (fun st87 => K v5 st87)
def w_X9_lasts_L45q (x1 : Int32) (x2 : Int32) (x3 : Int32)  (K : Int32 → St → Prop) (c45 : Int32 → Int32 → St → Prop) (v5 : Int32) (v6 : Int32) (st : St) : Prop :=
  (60 < v6 → w_X9_lasts_b86 x1 x2 x3  K v5 st) ∧ (¬ 60 < v6 → (0 ≤ v5 → w_X9_lasts_b86 x1 x2 x3  K v5 st) ∧ (¬ 0 ≤ v5 → w_X9_hateOf x1 x2 st (fun r60 st60 => (x3 ≤ r60 → w_X9_lasts_b74 x1 x2 x3 c45 K v6 (-9) st60) ∧ (¬ x3 ≤ r60 → w_X9_lasts_b74 x1 x2 x3 c45 K v6 v6 st60))))
def w_X9_lasts_L45 (x1 : Int32) (x2 : Int32) (x3 : Int32)  (K : Int32 → St → Prop) : Nat → Int32 → Int32 → St → Prop
  | 0, _, _, _ => False
  | n + 1, v5, v6, st => w_X9_lasts_L45q x1 x2 x3  K (fun v5 v6 st => w_X9_lasts_L45 x1 x2 x3  K n v5 v6 st) v5 v6 st
def w_X9_lasts_b20 (x1 : Int32) (x2 : Int32) (x3 : Int32)  (K : Int32 → St → Prop) (s0 : Int32) (st : St) : Prop :=
  (s0 = 0 → w_X9_thinks  st (fun st35 => ∃ n, w_X9_lasts_L45 x1 x2 x3  K n (-9) 0 st35)) ∧ (¬ s0 = 0 → w_X9_no s0 st (fun r30 st30 => K r30 st30))
def w_X9_lasts (x1 : Int32) (x2 : Int32) (x3 : Int32) (st : St) (K : Int32 → St → Prop) : Prop :=
  w_X9_areTwo x1 x2 st (fun r3 st3 => (¬ r3 = 0 → w_X9_bound x3 0 99 st3 (fun r17 st17 => w_X9_lasts_b20 x1 x2 x3  K r17 st17)) ∧ (r3 = 0 → w_X9_lasts_b20 x1 x2 x3  K (-1) st3))
def w_X9_firstOne_b42  (c8 : Int32 → Int32 → Int32 → St → Prop) (K : Int32 → St → Prop) (v1 : Int32) (v2 : Int32) (v3 : Int32) (st : St) : Prop :=
  c8 v1 v2 (v3 + 1) st
def w_X9_firstOne_L8q   (K : Int32 → St → Prop) (c8 : Int32 → Int32 → Int32 → St → Prop) (v1 : Int32) (v2 : Int32) (v3 : Int32) (st : St) : Prop :=
  ((st 0 9) ≤ v3 → K v1 st) ∧ (¬ (st 0 9) ≤ v3 → w_X9_whenOf v3 st (fun r18 st18 => (r18 ≤ 0 → w_X9_firstOne_b42  c8 K v1 v2 v3 st18) ∧ (¬ r18 ≤ 0 → (r18 < v2 → w_X9_firstOne_b42  c8 K v3 r18 v3 st18) ∧ (¬ r18 < v2 → w_X9_firstOne_b42  c8 K v1 v2 v3 st18))))
def w_X9_firstOne_L8   (K : Int32 → St → Prop) : Nat → Int32 → Int32 → Int32 → St → Prop
  | 0, _, _, _, _ => False
  | n + 1, v1, v2, v3, st => w_X9_firstOne_L8q   K (fun v1 v2 v3 st => w_X9_firstOne_L8   K n v1 v2 v3 st) v1 v2 v3 st
def w_X9_firstOne  (st : St) (K : Int32 → St → Prop) : Prop :=
  ∃ n, w_X9_firstOne_L8   K n (-9) 61 0 st
def w_X9_never (x1 : Int32) (st : St) (K : Int32 → St → Prop) : Prop :=
  w_X9_isIn x1 0 1 st (fun r3 st3 => (¬ r3 = 0 → (¬ x1 = 0 → w_X9_firstOne  st3 (fun r41 st41 => K r41 st41)) ∧ (x1 = 0 → w_X9_openIn 60 st3 (fun r31 st31 => K ((((1 : Int32) <<< ((st3 0 9) &&& 31)) - 1) &&& (r31 ^^^ (-1))) st31))) ∧ (r3 = 0 → w_X9_no (-2) st3 (fun r12 st12 => K r12 st12)))
def w_X9_isOpenedBy_b52 (x1 : Int32) (x2 : Int32) (x3 : Int32)  (K : Int32 → St → Prop) (s0 : Int32) (st : St) : Prop :=
  w_X9_forgets  st (fun st55 => (s0 = 0 ∨ s0 = 1) ∧ K s0 st55)
def w_X9_isOpenedBy_b51 (x1 : Int32) (x2 : Int32) (x3 : Int32)  (K : Int32 → St → Prop)  (st : St) : Prop :=
  w_X9_isOpenedBy_b52 x1 x2 x3  K 0 st
def w_X9_isOpenedBy_b44 (x1 : Int32) (x2 : Int32) (x3 : Int32)  (K : Int32 → St → Prop) (s0 : Int32) (s1 : Int32) (st : St) : Prop :=
  (¬ s1 = s0 → w_X9_isOpenedBy_b51 x1 x2 x3  K st) ∧ (s1 = s0 → w_X9_isOpenedBy_b52 x1 x2 x3  K 1 st)
def w_X9_isOpenedBy (x1 : Int32) (x2 : Int32) (x3 : Int32) (st : St) (K : Int32 → St → Prop) : Prop :=
  w_X9_thinks  st (fun st1 => w_X9_goesWeek  st1 (fun st5 => vp_in x3 6 ∧ ((¬ (st5 8 (x3).toNatClampNeg) = 1 → w_X9_isOpenedBy_b51 x1 x2 x3  K st5) ∧ ((st5 8 (x3).toNatClampNeg) = 1 → vp_in x3 6 ∧ ((x2 ≤ x1 → w_X9_isOpenedBy_b44 x1 x2 x3  K ((10 * x2) + x1) (st5 14 (x3).toNatClampNeg) st5) ∧ (¬ x2 ≤ x1 → w_X9_isOpenedBy_b44 x1 x2 x3  K ((10 * x1) + x2) (st5 14 (x3).toNatClampNeg) st5))))))
def w_X9_insult_b112 (x1 : Int32) (x2 : Int32) (x3 : Int32) (c66 : Int32 → Int32 → Int32 → St → Prop) (K : Int32 → St → Prop) (v5 : Int32) (v7 : Int32) (s0 : Int32) (st : St) : Prop :=
  c66 v5 s0 (v7 + 1) st
def w_X9_insult_b120 (x1 : Int32) (x2 : Int32) (x3 : Int32)  (K : Int32 → St → Prop) (v5 : Int32) (v6 : Int32) (st : St) : Prop :=
  w_X9_sets x1 x2 v5 st (fun st125 => K v6 st125)
def w_X9_insult_L66q (x1 : Int32) (x2 : Int32) (x3 : Int32)  (K : Int32 → St → Prop) (c66 : Int32 → Int32 → Int32 → St → Prop) (v5 : Int32) (v6 : Int32) (v7 : Int32) (st : St) : Prop :=
  (99 < v7 → w_X9_insult_b120 x1 x2 x3  K v5 v6 st) ∧ (¬ 99 < v7 → (0 ≤ v6 → w_X9_insult_b120 x1 x2 x3  K v5 v6 st) ∧ (¬ 0 ≤ v6 → w_X9_held (v5 + v7) 0 99 st (fun r89 st89 => w_X9_sets x1 x2 r89 st89 (fun st92 => w_X9_isOpenedBy x1 x2 x3 st92 (fun r99 st99 => (r99 = 0 → w_X9_insult_b112 x1 x2 x3 c66 K v5 v7 (-9) st99) ∧ (¬ r99 = 0 → w_X9_insult_b112 x1 x2 x3 c66 K v5 v7 v7 st99))))))
def w_X9_insult_L66 (x1 : Int32) (x2 : Int32) (x3 : Int32)  (K : Int32 → St → Prop) : Nat → Int32 → Int32 → Int32 → St → Prop
  | 0, _, _, _, _ => False
  | n + 1, v5, v6, v7, st => w_X9_insult_L66q x1 x2 x3  K (fun v5 v6 v7 st => w_X9_insult_L66 x1 x2 x3  K n v5 v6 v7 st) v5 v6 v7 st
def w_X9_insult_b37 (x1 : Int32) (x2 : Int32) (x3 : Int32)  (K : Int32 → St → Prop) (s0 : Int32) (st : St) : Prop :=
  (s0 = 0 → w_X9_hateOf x1 x2 st (fun r54 st54 => ∃ n, w_X9_insult_L66 x1 x2 x3  K n r54 (-9) 0 st54)) ∧ (¬ s0 = 0 → w_X9_no s0 st (fun r47 st47 => K r47 st47))
def w_X9_insult_b17 (x1 : Int32) (x2 : Int32) (x3 : Int32)  (K : Int32 → St → Prop)  (st : St) : Prop :=
  w_X9_insult_b37 x1 x2 x3  K (-1) st
def w_X9_insult (x1 : Int32) (x2 : Int32) (x3 : Int32) (st : St) (K : Int32 → St → Prop) : Prop :=
  w_X9_areTwo x1 x2 st (fun r3 st3 => (r3 = 0 → w_X9_insult_b17 x1 x2 x3  K st3) ∧ (¬ r3 = 0 → w_X9_isLetter x3 st3 (fun r11 st11 => (¬ r11 = 0 → vp_in x3 6 ∧ ((¬ (st11 8 (x3).toNatClampNeg) = 1 → w_X9_insult_b37 x1 x2 x3  K 0 st11) ∧ ((st11 8 (x3).toNatClampNeg) = 1 → w_X9_insult_b37 x1 x2 x3  K (-3) st11))) ∧ (r11 = 0 → w_X9_insult_b17 x1 x2 x3  K st11))))
def w_X9_manyAt (x1 : Int32) (x2 : Int32) (x3 : Int32) (st : St) (K : Int32 → St → Prop) : Prop :=
  vp_in x1 6 ∧ (vp_in x1 6 ∧ (w_X9_openIn x3 (u2 st 4 (x1).toNatClampNeg x2) (fun r17 st17 => w_X9_bits r17 st17 (fun r20 st20 => vp_in x1 6 ∧ (K r20 (u2 st20 4 (x1).toNatClampNeg (st 4 (x1).toNatClampNeg)))))))
def w_X9_send_b100 (x1 : Int32) (c31 : Int32 → Int32 → Int32 → St → Prop) (c43 : Int32 → Int32 → Int32 → Int32 → St → Prop) (K : Int32 → St → Prop) (v3 : Int32) (v4 : Int32) (v5 : Int32) (v6 : Int32) (st : St) : Prop :=
  c43 v3 v4 v5 (v6 + 1) st
def w_X9_send_b75 (x1 : Int32) (c31 : Int32 → Int32 → Int32 → St → Prop) (c43 : Int32 → Int32 → Int32 → Int32 → St → Prop) (K : Int32 → St → Prop) (v3 : Int32) (v4 : Int32) (v5 : Int32) (v6 : Int32) (s0 : Int32) (st : St) : Prop :=
  (v4 < s0 → w_X9_send_b100 x1 c31 c43 K ((10 * v5) + v6) s0 v5 v6 st) ∧ (¬ v4 < s0 → w_X9_send_b100 x1 c31 c43 K v3 v4 v5 v6 st)
def w_X9_send_b106 (x1 : Int32) (c31 : Int32 → Int32 → Int32 → St → Prop) (K : Int32 → St → Prop) (v3 : Int32) (v4 : Int32) (v5 : Int32) (st : St) : Prop :=
  c31 v3 v4 (v5 + 1) st
def w_X9_send_L43q (x1 : Int32) (c31 : Int32 → Int32 → Int32 → St → Prop) (K : Int32 → St → Prop) (c43 : Int32 → Int32 → Int32 → Int32 → St → Prop) (v3 : Int32) (v4 : Int32) (v5 : Int32) (v6 : Int32) (st : St) : Prop :=
  (4 ≤ v6 → w_X9_send_b106 x1 c31 K v3 v4 v5 st) ∧ (¬ 4 ≤ v6 → vp_in v5 6 ∧ ((¬ v6 = (st 4 (v5).toNatClampNeg) → w_X9_manyAt v5 v6 x1 st (fun r72 st72 => w_X9_send_b75 x1 c31 c43 K v3 v4 v5 v6 r72 st72)) ∧ (v6 = (st 4 (v5).toNatClampNeg) → w_X9_send_b75 x1 c31 c43 K v3 v4 v5 v6 (-9) st)))
def w_X9_send_L43 (x1 : Int32) (c31 : Int32 → Int32 → Int32 → St → Prop) (K : Int32 → St → Prop) : Nat → Int32 → Int32 → Int32 → Int32 → St → Prop
  | 0, _, _, _, _, _ => False
  | n + 1, v3, v4, v5, v6, st => w_X9_send_L43q x1 c31 K (fun v3 v4 v5 v6 st => w_X9_send_L43 x1 c31 K n v3 v4 v5 v6 st) v3 v4 v5 v6 st
def w_X9_send_L31q (x1 : Int32)  (K : Int32 → St → Prop) (c31 : Int32 → Int32 → Int32 → St → Prop) (v3 : Int32) (v4 : Int32) (v5 : Int32) (st : St) : Prop :=
  ((st 0 8) ≤ v5 → K v3 st) ∧ (¬ (st 0 8) ≤ v5 → ∃ n, w_X9_send_L43 x1 c31 K n v3 v4 v5 0 st)
def w_X9_send_L31 (x1 : Int32)  (K : Int32 → St → Prop) : Nat → Int32 → Int32 → Int32 → St → Prop
  | 0, _, _, _, _ => False
  | n + 1, v3, v4, v5, st => w_X9_send_L31q x1  K (fun v3 v4 v5 st => w_X9_send_L31 x1  K n v3 v4 v5 st) v3 v4 v5 st
def w_X9_send (x1 : Int32) (st : St) (K : Int32 → St → Prop) : Prop :=
  w_X9_notWeeks x1 st (fun r1 st1 => (r1 = 0 → w_X9_openIn x1 st1 (fun r20 st20 => w_X9_bits r20 st20 (fun r23 st23 => ∃ n, w_X9_send_L31 x1  K n (-9) r23 0 st23))) ∧ (¬ r1 = 0 → w_X9_no r1 st1 (fun r11 st11 => K r11 st11)))
def w_X9_places_b174 (x1 : Int32) (x2 : Int32) (x3 : Int32) (x4 : Int32) (x5 : Int32) (c84 : Int32 → Int32 → Int32 → St → Prop) (K : Int32 → St → Prop) (v7 : Int32) (v8 : Int32) (v9 : Int32) (st : St) : Prop :=
  c84 v7 v8 (v9 + 1) st
def w_X9_places_b180 (x1 : Int32) (x2 : Int32) (x3 : Int32) (x4 : Int32) (x5 : Int32)  (K : Int32 → St → Prop) (v7 : Int32) (v8 : Int32) (st : St) : Prop :=
  w_X9_changesBack  st (fun st181 => (¬ x5 = 0 → K v8 st181) ∧ (x5 = 0 → K v7 st181))
def w_X9_places_L84q (x1 : Int32) (x2 : Int32) (x3 : Int32) (x4 : Int32) (x5 : Int32)  (K : Int32 → St → Prop) (c84 : Int32 → Int32 → Int32 → St → Prop) (v7 : Int32) (v8 : Int32) (v9 : Int32) (st : St) : Prop :=
  (64 ≤ v9 → w_X9_places_b180 x1 x2 x3 x4 x5  K v7 v8 st) ∧ (¬ 64 ≤ v9 → vp_in x1 6 ∧ (vp_in x2 6 ∧ (vp_in x3 6 ∧ (w_X9_openIn x4 (u2 (u2 (u2 st 4 (x1).toNatClampNeg (v9 / 16)) 4 (x2).toNatClampNeg ((v9 / 4) - (v9 / 4) / 4 * 4)) 4 (x3).toNatClampNeg (v9 - v9 / 4 * 4)) (fun r127 st127 => w_X9_bits r127 st127 (fun r130 st130 => (v8 < r130 → w_X9_places_b174 x1 x2 x3 x4 x5 c84 K (((100 * (v9 / 16)) + (10 * ((v9 / 4) - (v9 / 4) / 4 * 4))) + (v9 - v9 / 4 * 4)) r130 v9 st130) ∧ (¬ v8 < r130 → w_X9_places_b174 x1 x2 x3 x4 x5 c84 K v7 v8 v9 st130)))))))
def w_X9_places_L84 (x1 : Int32) (x2 : Int32) (x3 : Int32) (x4 : Int32) (x5 : Int32)  (K : Int32 → St → Prop) : Nat → Int32 → Int32 → Int32 → St → Prop
  | 0, _, _, _, _ => False
  | n + 1, v7, v8, v9, st => w_X9_places_L84q x1 x2 x3 x4 x5  K (fun v7 v8 v9 st => w_X9_places_L84 x1 x2 x3 x4 x5  K n v7 v8 v9 st) v7 v8 v9 st
def w_X9_places_b57 (x1 : Int32) (x2 : Int32) (x3 : Int32) (x4 : Int32) (x5 : Int32)  (K : Int32 → St → Prop) (v6 : Int32) (st : St) : Prop :=
  (v6 = 0 → w_X9_changes  st (fun st78 => ∃ n, w_X9_places_L84 x1 x2 x3 x4 x5  K n (-9) (-9) 0 st78)) ∧ (¬ v6 = 0 → w_X9_no v6 st (fun r65 st65 => K r65 st65))
def w_X9_places_b36 (x1 : Int32) (x2 : Int32) (x3 : Int32) (x4 : Int32) (x5 : Int32)  (K : Int32 → St → Prop) (s0 : Int32) (st : St) : Prop :=
  (¬ s0 = 0 → w_X9_places_b57 x1 x2 x3 x4 x5  K s0 st) ∧ (s0 = 0 → w_X9_isIn x5 0 1 st (fun r47 st47 => (¬ r47 = 0 → w_X9_places_b57 x1 x2 x3 x4 x5  K s0 st47) ∧ (r47 = 0 → w_X9_places_b57 x1 x2 x3 x4 x5  K (-2) st47)))
def w_X9_places_b27 (x1 : Int32) (x2 : Int32) (x3 : Int32) (x4 : Int32) (x5 : Int32)  (K : Int32 → St → Prop)  (st : St) : Prop :=
  w_X9_places_b36 x1 x2 x3 x4 x5  K (-1) st
def w_X9_places (x1 : Int32) (x2 : Int32) (x3 : Int32) (x4 : Int32) (x5 : Int32) (st : St) (K : Int32 → St → Prop) : Prop :=
  w_X9_areTwo x1 x2 st (fun r3 st3 => (r3 = 0 → w_X9_places_b27 x1 x2 x3 x4 x5  K st3) ∧ (¬ r3 = 0 → w_X9_areTwo x1 x3 st3 (fun r12 st12 => (r12 = 0 → w_X9_places_b27 x1 x2 x3 x4 x5  K st12) ∧ (¬ r12 = 0 → w_X9_areTwo x2 x3 st12 (fun r21 st21 => (¬ r21 = 0 → w_X9_notWeeks x4 st21 (fun r33 st33 => w_X9_places_b36 x1 x2 x3 x4 x5  K r33 st33)) ∧ (r21 = 0 → w_X9_places_b27 x1 x2 x3 x4 x5  K st21))))))
def w_X9_manyBy (x1 : Int32) (x2 : Int32) (st : St) (K : Int32 → St → Prop) : Prop :=
  w_X9_openIn x2 (u2 st 0 11 (x1 ^^^ (-1))) (fun r9 st9 => w_X9_bits r9 st9 (fun r12 st12 => K r12 (u2 st12 0 11 0)))
def w_X9_payOfAll_b30 (x1 : Int32) (c4 : Int32 → Int32 → St → Prop) (K : Int32 → St → Prop) (v3 : Int32) (s0 : Int32) (s1 : Int32) (st : St) : Prop :=
  c4 (s1 + s0) (v3 + 1) st
def w_X9_payOfAll_L4q (x1 : Int32)  (K : Int32 → St → Prop) (c4 : Int32 → Int32 → St → Prop) (v2 : Int32) (v3 : Int32) (st : St) : Prop :=
  ((st 0 8) ≤ v3 → K v2 st) ∧ (¬ (st 0 8) ≤ v3 → w_X9_has x1 v3 st (fun r15 st15 => (r15 = 0 → w_X9_payOfAll_b30 x1 c4 K v3 0 v2 st15) ∧ (¬ r15 = 0 → w_X9_payOf v3 st15 (fun r23 st23 => w_X9_payOfAll_b30 x1 c4 K v3 r23 v2 st23))))
def w_X9_payOfAll_L4 (x1 : Int32)  (K : Int32 → St → Prop) : Nat → Int32 → Int32 → St → Prop
  | 0, _, _, _ => False
  | n + 1, v2, v3, st => w_X9_payOfAll_L4q x1  K (fun v2 v3 st => w_X9_payOfAll_L4 x1  K n v2 v3 st) v2 v3 st
def w_X9_payOfAll (x1 : Int32) (st : St) (K : Int32 → St → Prop) : Prop :=
  ∃ n, w_X9_payOfAll_L4 x1  K n 0 0 st
def w_X9_fewest_b89 (x1 : Int32) (x2 : Int32) (c55 : Int32 → Int32 → Int32 → St → Prop) (K : Int32 → St → Prop) (v4 : Int32) (v5 : Int32) (v6 : Int32) (st : St) : Prop :=
  c55 v4 v5 (v6 + (-1)) st
def w_X9_fewest_b95 (x1 : Int32) (x2 : Int32)  (K : Int32 → St → Prop) (v5 : Int32) (st : St) : Prop :=
  (¬ x2 = 0 → w_X9_payOfAll v5 st (fun r107 st107 => K r107 st107)) ∧ (x2 = 0 → K v5 st)
def w_X9_fewest_L55q (x1 : Int32) (x2 : Int32)  (K : Int32 → St → Prop) (c55 : Int32 → Int32 → Int32 → St → Prop) (v4 : Int32) (v5 : Int32) (v6 : Int32) (st : St) : Prop :=
  (v6 < 0 → w_X9_fewest_b95 x1 x2  K v5 st) ∧ (¬ v6 < 0 → w_X9_bits v6 st (fun r62 st62 => w_X9_bits v5 st62 (fun r67 st67 => (r67 < r62 → w_X9_fewest_b89 x1 x2 c55 K v4 v5 v6 st67) ∧ (¬ r67 < r62 → w_X9_manyBy v6 x1 st67 (fun r77 st77 => (r77 < v4 → w_X9_fewest_b89 x1 x2 c55 K v4 v5 v6 st77) ∧ (¬ r77 < v4 → w_X9_fewest_b89 x1 x2 c55 K v4 v6 v6 st77))))))
def w_X9_fewest_L55 (x1 : Int32) (x2 : Int32)  (K : Int32 → St → Prop) : Nat → Int32 → Int32 → Int32 → St → Prop
  | 0, _, _, _, _ => False
  | n + 1, v4, v5, v6, st => w_X9_fewest_L55q x1 x2  K (fun v4 v5 v6 st => w_X9_fewest_L55 x1 x2  K n v4 v5 v6 st) v4 v5 v6 st
def w_X9_fewest_b21 (x1 : Int32) (x2 : Int32)  (K : Int32 → St → Prop) (v3 : Int32) (st : St) : Prop :=
  (v3 = 0 → w_X9_openIn x1 st (fun r33 st33 => w_X9_bits r33 st33 (fun r36 st36 => ∃ n, w_X9_fewest_L55 x1 x2  K n r36 (((1 : Int32) <<< ((st36 0 8) &&& 31)) - 1) (((1 : Int32) <<< ((st36 0 8) &&& 31)) - 1) st36))) ∧ (¬ v3 = 0 → w_X9_no v3 st (fun r27 st27 => K r27 st27))
def w_X9_fewest (x1 : Int32) (x2 : Int32) (st : St) (K : Int32 → St → Prop) : Prop :=
  w_X9_notWeeks x1 st (fun r1 st1 => (¬ r1 = 0 → w_X9_fewest_b21 x1 x2  K r1 st1) ∧ (r1 = 0 → w_X9_isIn x2 0 1 st1 (fun r12 st12 => (¬ r12 = 0 → w_X9_fewest_b21 x1 x2  K r1 st12) ∧ (r12 = 0 → w_X9_fewest_b21 x1 x2  K (-2) st12))))
def w_X9_keepersIn_b30 (x1 : Int32) (c4 : Int32 → Int32 → St → Prop) (K : Int32 → St → Prop) (v3 : Int32) (s0 : Int32) (s1 : Int32) (st : St) : Prop :=
  c4 (s1 ||| s0) (v3 + 1) st
def w_X9_keepersIn_L4q (x1 : Int32)  (K : Int32 → St → Prop) (c4 : Int32 → Int32 → St → Prop) (v2 : Int32) (v3 : Int32) (st : St) : Prop :=
  ((st 0 8) ≤ v3 → K v2 st) ∧ (¬ (st 0 8) ≤ v3 → vp_in v3 6 ∧ ((¬ (st 4 (v3).toNatClampNeg) = x1 → w_X9_keepersIn_b30 x1 c4 K v3 0 v2 st) ∧ ((st 4 (v3).toNatClampNeg) = x1 → w_X9_keepersIn_b30 x1 c4 K v3 ((1 : Int32) <<< (v3 &&& 31)) v2 st)))
def w_X9_keepersIn_L4 (x1 : Int32)  (K : Int32 → St → Prop) : Nat → Int32 → Int32 → St → Prop
  | 0, _, _, _ => False
  | n + 1, v2, v3, st => w_X9_keepersIn_L4q x1  K (fun v2 v3 st => w_X9_keepersIn_L4 x1  K n v2 v3 st) v2 v3 st
def w_X9_keepersIn (x1 : Int32) (st : St) (K : Int32 → St → Prop) : Prop :=
  ∃ n, w_X9_keepersIn_L4 x1  K n 0 0 st
def w_X9_pay_b47 (x1 : Int32) (x2 : Int32)  (K : Int32 → St → Prop) (s0 : Int32) (s2 : Int32) (st : St) : Prop :=
  w_X9_payOfAll s0 st (fun r47 st47 => K (s2 * r47) st47)
def w_X9_pay_b20 (x1 : Int32) (x2 : Int32)  (K : Int32 → St → Prop) (s0 : Int32) (st : St) : Prop :=
  (s0 = 0 → (0 ≤ x1 → w_X9_keepersIn x1 st (fun r44 st44 => w_X9_pay_b47 x1 x2  K r44 x2 st44)) ∧ (¬ 0 ≤ x1 → w_X9_pay_b47 x1 x2  K 63 x2 st)) ∧ (¬ s0 = 0 → w_X9_no s0 st (fun r27 st27 => K r27 st27))
def w_X9_pay_b16 (x1 : Int32) (x2 : Int32)  (K : Int32 → St → Prop)  (st : St) : Prop :=
  w_X9_notWeeks x2 st (fun r17 st17 => w_X9_pay_b20 x1 x2  K r17 st17)
def w_X9_pay (x1 : Int32) (x2 : Int32) (st : St) (K : Int32 → St → Prop) : Prop :=
  (x1 = (-1) → w_X9_pay_b16 x1 x2  K st) ∧ (¬ x1 = (-1) → w_X9_isTown x1 st (fun r6 st6 => (¬ r6 = 0 → w_X9_pay_b16 x1 x2  K st6) ∧ (r6 = 0 → w_X9_pay_b20 x1 x2  K (-1) st6)))
def w_X9_deepest_b73 (x1 : Int32) (c18 : Int32 → Int32 → St → Prop) (c31 : Int32 → Int32 → Int32 → St → Prop) (K : Int32 → St → Prop) (v3 : Int32) (v4 : Int32) (s0 : Int32) (st : St) : Prop :=
  c31 s0 v3 (v4 + 1) st
def w_X9_deepest_b72 (x1 : Int32) (c18 : Int32 → Int32 → St → Prop) (c31 : Int32 → Int32 → Int32 → St → Prop) (K : Int32 → St → Prop) (v2 : Int32) (v3 : Int32) (v4 : Int32) (st : St) : Prop :=
  w_X9_deepest_b73 x1 c18 c31 K v3 v4 v2 st
def w_X9_deepest_b80 (x1 : Int32) (c18 : Int32 → Int32 → St → Prop) (K : Int32 → St → Prop) (v2 : Int32) (v3 : Int32) (st : St) : Prop :=
  c18 v2 (v3 + 1) st
def w_X9_deepest_L31q (x1 : Int32) (c18 : Int32 → Int32 → St → Prop) (K : Int32 → St → Prop) (c31 : Int32 → Int32 → Int32 → St → Prop) (v2 : Int32) (v3 : Int32) (v4 : Int32) (st : St) : Prop :=
  ((st 0 8) ≤ v4 → w_X9_deepest_b80 x1 c18 K v2 v3 st) ∧ (¬ (st 0 8) ≤ v4 → w_X9_areThere v3 v4 x1 st (fun r45 st45 => (r45 = 0 → w_X9_deepest_b72 x1 c18 c31 K v2 v3 v4 st45) ∧ (¬ r45 = 0 → w_X9_hateOf v3 v4 st45 (fun r55 st55 => (r55 ≤ v2 → w_X9_deepest_b72 x1 c18 c31 K v2 v3 v4 st55) ∧ (¬ r55 ≤ v2 → w_X9_hateOf v3 v4 st55 (fun r66 st66 => w_X9_deepest_b73 x1 c18 c31 K v3 v4 r66 st66))))))
def w_X9_deepest_L31 (x1 : Int32) (c18 : Int32 → Int32 → St → Prop) (K : Int32 → St → Prop) : Nat → Int32 → Int32 → Int32 → St → Prop
  | 0, _, _, _, _ => False
  | n + 1, v2, v3, v4, st => w_X9_deepest_L31q x1 c18 K (fun v2 v3 v4 st => w_X9_deepest_L31 x1 c18 K n v2 v3 v4 st) v2 v3 v4 st
def w_X9_deepest_L18q (x1 : Int32)  (K : Int32 → St → Prop) (c18 : Int32 → Int32 → St → Prop) (v2 : Int32) (v3 : Int32) (st : St) : Prop :=
  ((st 0 8) ≤ v3 → K v2 st) ∧ (¬ (st 0 8) ≤ v3 → ∃ n, w_X9_deepest_L31 x1 c18 K n v2 v3 (v3 + 1) st)
def w_X9_deepest_L18 (x1 : Int32)  (K : Int32 → St → Prop) : Nat → Int32 → Int32 → St → Prop
  | 0, _, _, _ => False
  | n + 1, v2, v3, st => w_X9_deepest_L18q x1  K (fun v2 v3 st => w_X9_deepest_L18 x1  K n v2 v3 st) v2 v3 st
def w_X9_deepest (x1 : Int32) (st : St) (K : Int32 → St → Prop) : Prop :=
  w_X9_isTown x1 st (fun r1 st1 => (¬ r1 = 0 → ∃ n, w_X9_deepest_L18 x1  K n (-9) 0 st1) ∧ (r1 = 0 → w_X9_no (-1) st1 (fun r9 st9 => K r9 st9)))
def w_X9_findTwos_b121 (x1 : Int32) (x2 : Int32) (c39 : Int32 → Int32 → Int32 → Int32 → St → Prop) (K : St → Prop) (v3 : Int32) (v4 : Int32) (v5 : Int32) (v6 : Int32) (st : St) : Prop :=
  c39 v3 v4 v5 (v6 + 1) st
def w_X9_findTwos_b119 (x1 : Int32) (x2 : Int32) (c39 : Int32 → Int32 → Int32 → Int32 → St → Prop) (K : St → Prop) (v3 : Int32) (v4 : Int32) (v6 : Int32) (s0 : Int32) (st : St) : Prop :=
  w_X9_findTwos_b121 x1 x2 c39 K v3 v4 s0 v6 st
def w_X9_findTwos_b127 (x1 : Int32) (x2 : Int32)  (K : St → Prop) (v5 : Int32) (st : St) : Prop :=
  vp_in x1 64 ∧ (K (u2 st 15 (x1).toNatClampNeg v5))
def w_X9_findTwos_L39q (x1 : Int32) (x2 : Int32)  (K : St → Prop) (c39 : Int32 → Int32 → Int32 → Int32 → St → Prop) (v3 : Int32) (v4 : Int32) (v5 : Int32) (v6 : Int32) (st : St) : Prop :=
  ((st 0 8) ≤ v6 → w_X9_findTwos_b127 x1 x2  K v5 st) ∧ (¬ (st 0 8) ≤ v6 → w_X9_has x1 v6 st (fun r51 st51 => (r51 = 0 → w_X9_findTwos_b121 x1 x2 c39 K v3 v4 v5 v6 st51) ∧ (¬ r51 = 0 → vp_in v3 6 ∧ (vp_in v6 6 ∧ ((¬ (st51 4 (v3).toNatClampNeg) = (st51 4 (v6).toNatClampNeg) → w_X9_findTwos_b121 x1 x2 c39 K v3 v4 v5 v6 st51) ∧ ((st51 4 (v3).toNatClampNeg) = (st51 4 (v6).toNatClampNeg) → w_X9_hateOf v3 v6 st51 (fun r77 st77 => (x2 ≤ r77 → vp_in (v4 &&& (((1 : Int32) <<< (v6 &&& 31)) ^^^ (-1))) 64 ∧ (((1 + (st77 15 ((v4 &&& (((1 : Int32) <<< (v6 &&& 31)) ^^^ (-1)))).toNatClampNeg)) ≤ v5 → w_X9_findTwos_b119 x1 x2 c39 K v3 v4 v6 v5 st77) ∧ (¬ (1 + (st77 15 ((v4 &&& (((1 : Int32) <<< (v6 &&& 31)) ^^^ (-1)))).toNatClampNeg)) ≤ v5 → w_X9_findTwos_b119 x1 x2 c39 K v3 v4 v6 (1 + (st77 15 ((v4 &&& (((1 : Int32) <<< (v6 &&& 31)) ^^^ (-1)))).toNatClampNeg)) st77))) ∧ (¬ x2 ≤ r77 → w_X9_findTwos_b121 x1 x2 c39 K v3 v4 v5 v6 st77))))))))
def w_X9_findTwos_L39 (x1 : Int32) (x2 : Int32)  (K : St → Prop) : Nat → Int32 → Int32 → Int32 → Int32 → St → Prop
  | 0, _, _, _, _, _ => False
  | n + 1, v3, v4, v5, v6, st => w_X9_findTwos_L39q x1 x2  K (fun v3 v4 v5 v6 st => w_X9_findTwos_L39 x1 x2  K n v3 v4 v5 v6 st) v3 v4 v5 v6 st
def w_X9_findTwos_b16 (x1 : Int32) (x2 : Int32)  (K : St → Prop) (v3 : Int32) (st : St) : Prop :=
  vp_in (x1 &&& (((1 : Int32) <<< (v3 &&& 31)) ^^^ (-1))) 64 ∧ (∃ n, w_X9_findTwos_L39 x1 x2  K n v3 (x1 &&& (((1 : Int32) <<< (v3 &&& 31)) ^^^ (-1))) (st 15 ((x1 &&& (((1 : Int32) <<< (v3 &&& 31)) ^^^ (-1)))).toNatClampNeg) (v3 + 1) st)
def w_X9_findTwos_L2q (x1 : Int32) (x2 : Int32)  (K : St → Prop) (c2 : Int32 → St → Prop) (v3 : Int32) (st : St) : Prop :=
  w_X9_has x1 v3 st (fun r4 st4 => (¬ r4 = 0 → w_X9_findTwos_b16 x1 x2  K v3 st4) ∧ (r4 = 0 → c2 (v3 + 1) st4))
def w_X9_findTwos_L2 (x1 : Int32) (x2 : Int32)  (K : St → Prop) : Nat → Int32 → St → Prop
  | 0, _, _ => False
  | n + 1, v3, st => w_X9_findTwos_L2q x1 x2  K (fun v3 st => w_X9_findTwos_L2 x1 x2  K n v3 st) v3 st
def w_X9_findTwos (x1 : Int32) (x2 : Int32) (st : St) (K : St → Prop) : Prop :=
  ∃ n, w_X9_findTwos_L2 x1 x2  K n 0 st
def w_X9_pairs_b49 (x1 : Int32)  (K : Int32 → St → Prop)  (st : St) : Prop :=
  vp_in (((1 : Int32) <<< ((st 0 8) &&& 31)) - 1) 64 ∧ (K (st 15 ((((1 : Int32) <<< ((st 0 8) &&& 31)) - 1)).toNatClampNeg) st)
def w_X9_pairs_L27q (x1 : Int32)  (K : Int32 → St → Prop) (c27 : Int32 → St → Prop) (v3 : Int32) (st : St) : Prop :=
  (((1 : Int32) <<< ((st 0 8) &&& 31)) ≤ v3 → w_X9_pairs_b49 x1  K st) ∧ (¬ ((1 : Int32) <<< ((st 0 8) &&& 31)) ≤ v3 → w_X9_findTwos v3 x1 st (fun st40 => c27 (v3 + 1) st40))
def w_X9_pairs_L27 (x1 : Int32)  (K : Int32 → St → Prop) : Nat → Int32 → St → Prop
  | 0, _, _ => False
  | n + 1, v3, st => w_X9_pairs_L27q x1  K (fun v3 st => w_X9_pairs_L27 x1  K n v3 st) v3 st
def w_X9_pairs (x1 : Int32) (st : St) (K : Int32 → St → Prop) : Prop :=
  w_X9_bound x1 0 99 st (fun r4 st4 => (r4 = 0 → vp_in 0 64 ∧ (∃ n, w_X9_pairs_L27 x1  K n 1 (u2 st4 15 (0 : Int32).toNatClampNeg 0))) ∧ (¬ r4 = 0 → w_X9_no r4 st4 (fun r14 st14 => K r14 st14)))
def w_X9_worst_b116 (x1 : Int32) (c28 : Int32 → Int32 → Int32 → Int32 → St → Prop) (K : Int32 → St → Prop) (v2 : Int32) (v3 : Int32) (v4 : Int32) (v5 : Int32) (st : St) : Prop :=
  c28 v2 v3 v4 (v5 + 1) st
def w_X9_worst_b86 (x1 : Int32) (c28 : Int32 → Int32 → Int32 → Int32 → St → Prop) (K : Int32 → St → Prop) (v2 : Int32) (v3 : Int32) (v5 : Int32) (v6 : Int32) (v7 : Int32) (s0 : Int32) (s1 : Int32) (st : St) : Prop :=
  w_X9_hateOf v6 v7 st (fun r94 st94 => (v3 < r94 → w_X9_hateOf v6 v7 st94 (fun r112 st112 => w_X9_worst_b116 x1 c28 K v5 r112 (s1 + s0) v5 st112)) ∧ (¬ v3 < r94 → w_X9_worst_b116 x1 c28 K v2 v3 (s1 + s0) v5 st94))
def w_X9_worst_b122 (x1 : Int32)  (K : Int32 → St → Prop) (v2 : Int32) (v3 : Int32) (v4 : Int32) (st : St) : Prop :=
  (¬ x1 = 0 → (¬ x1 = 1 → K v4 st) ∧ (x1 = 1 → K v3 st)) ∧ (x1 = 0 → K v2 st)
def w_X9_worst_L28q (x1 : Int32)  (K : Int32 → St → Prop) (c28 : Int32 → Int32 → Int32 → Int32 → St → Prop) (v2 : Int32) (v3 : Int32) (v4 : Int32) (v5 : Int32) (st : St) : Prop :=
  (60 ≤ v5 → w_X9_worst_b122 x1  K v2 v3 v4 st) ∧ (¬ 60 ≤ v5 → ((v5 - v5 / 10 * 10) ≤ (v5 / 10) → w_X9_worst_b116 x1 c28 K v2 v3 v4 v5 st) ∧ (¬ (v5 - v5 / 10 * 10) ≤ (v5 / 10) → ((v5 - v5 / 10 * 10) < (st 0 8) → w_X9_hateOf (v5 / 10) (v5 - v5 / 10 * 10) st (fun r75 st75 => (¬ r75 = 0 → w_X9_worst_b86 x1 c28 K v2 v3 v5 (v5 / 10) (v5 - v5 / 10 * 10) 0 v4 st75) ∧ (r75 = 0 → w_X9_worst_b86 x1 c28 K v2 v3 v5 (v5 / 10) (v5 - v5 / 10 * 10) 1 v4 st75))) ∧ (¬ (v5 - v5 / 10 * 10) < (st 0 8) → w_X9_worst_b116 x1 c28 K v2 v3 v4 v5 st)))
def w_X9_worst_L28 (x1 : Int32)  (K : Int32 → St → Prop) : Nat → Int32 → Int32 → Int32 → Int32 → St → Prop
  | 0, _, _, _, _, _ => False
  | n + 1, v2, v3, v4, v5, st => w_X9_worst_L28q x1  K (fun v2 v3 v4 v5 st => w_X9_worst_L28 x1  K n v2 v3 v4 v5 st) v2 v3 v4 v5 st
def w_X9_worst (x1 : Int32) (st : St) (K : Int32 → St → Prop) : Prop :=
  w_X9_isIn x1 0 2 st (fun r3 st3 => (¬ r3 = 0 → ∃ n, w_X9_worst_L28 x1  K n (-9) (-9) 0 0 st3) ∧ (r3 = 0 → w_X9_no (-2) st3 (fun r12 st12 => K r12 st12)))
def w_X9_opensSo_b41  (c8 : Int32 → Int32 → St → Prop) (K : Int32 → St → Prop) (v2 : Int32) (s0 : Int32) (st : St) : Prop :=
  w_X9_goesWeek  st (fun st43 => c8 s0 (v2 + 1) st43)
def w_X9_opensSo_b52   (K : Int32 → St → Prop) (v1 : Int32) (st : St) : Prop :=
  w_X9_forgets  st (fun st53 => (v1 = 0 ∨ v1 = 1) ∧ K v1 st53)
def w_X9_opensSo_L8q   (K : Int32 → St → Prop) (c8 : Int32 → Int32 → St → Prop) (v1 : Int32) (v2 : Int32) (st : St) : Prop :=
  ((st 0 29) ≤ v2 → w_X9_opensSo_b52   K v1 st) ∧ (¬ (st 0 29) ≤ v2 → (v1 = 0 → w_X9_opensSo_b52   K v1 st) ∧ (¬ v1 = 0 → w_X9_openOnes  st (fun r21 st21 => w_X9_bits r21 st21 (fun r24 st24 => vp_in v2 12 ∧ ((¬ r24 = (st24 16 (v2).toNatClampNeg) → w_X9_opensSo_b41  c8 K v2 0 st24) ∧ (r24 = (st24 16 (v2).toNatClampNeg) → w_X9_opensSo_b41  c8 K v2 1 st24))))))
def w_X9_opensSo_L8   (K : Int32 → St → Prop) : Nat → Int32 → Int32 → St → Prop
  | 0, _, _, _ => False
  | n + 1, v1, v2, st => w_X9_opensSo_L8q   K (fun v1 v2 st => w_X9_opensSo_L8   K n v1 v2 st) v1 v2 st
def w_X9_opensSo  (st : St) (K : Int32 → St → Prop) : Prop :=
  w_X9_thinks  st (fun st1 => ∃ n, w_X9_opensSo_L8   K n 1 0 st1)
def w_X9_whoHates_b110 (x1 : Int32) (x2 : Int32) (x3 : Int32) (c64 : Int32 → Int32 → Int32 → Int32 → Int32 → St → Prop) (K : Int32 → St → Prop) (v5 : Int32) (v6 : Int32) (v7 : Int32) (v8 : Int32) (v9 : Int32) (st : St) : Prop :=
  c64 v5 v6 v7 v8 (v9 + 1) st
def w_X9_whoHates_b104 (x1 : Int32) (x2 : Int32) (x3 : Int32) (c64 : Int32 → Int32 → Int32 → Int32 → Int32 → St → Prop) (K : Int32 → St → Prop) (v5 : Int32) (v6 : Int32) (v9 : Int32) (s0 : Int32) (st : St) : Prop :=
  w_X9_whoHates_b110 x1 x2 x3 c64 K v5 v6 s0 v9 v9 st
def w_X9_whoHates_b116 (x1 : Int32) (x2 : Int32) (x3 : Int32)  (K : Int32 → St → Prop) (v5 : Int32) (v6 : Int32) (v7 : Int32) (v8 : Int32) (st : St) : Prop :=
  w_X9_sets x1 x2 v5 st (fun st121 => (¬ x3 = 0 → (¬ x3 = 1 → K v8 st121) ∧ (x3 = 1 → K v7 st121)) ∧ (x3 = 0 → K v6 st121))
def w_X9_whoHates_L64q (x1 : Int32) (x2 : Int32) (x3 : Int32)  (K : Int32 → St → Prop) (c64 : Int32 → Int32 → Int32 → Int32 → Int32 → St → Prop) (v5 : Int32) (v6 : Int32) (v7 : Int32) (v8 : Int32) (v9 : Int32) (st : St) : Prop :=
  (99 < v9 → w_X9_whoHates_b116 x1 x2 x3  K v5 v6 v7 v8 st) ∧ (¬ 99 < v9 → w_X9_sets x1 x2 v9 st (fun st76 => w_X9_opensSo  st76 (fun r80 st80 => (¬ r80 = 0 → (0 ≤ v7 → w_X9_whoHates_b104 x1 x2 x3 c64 K v5 (v6 + 1) v9 v7 st80) ∧ (¬ 0 ≤ v7 → w_X9_whoHates_b104 x1 x2 x3 c64 K v5 (v6 + 1) v9 v9 st80)) ∧ (r80 = 0 → w_X9_whoHates_b110 x1 x2 x3 c64 K v5 v6 v7 v8 v9 st80))))
def w_X9_whoHates_L64 (x1 : Int32) (x2 : Int32) (x3 : Int32)  (K : Int32 → St → Prop) : Nat → Int32 → Int32 → Int32 → Int32 → Int32 → St → Prop
  | 0, _, _, _, _, _, _ => False
  | n + 1, v5, v6, v7, v8, v9, st => w_X9_whoHates_L64q x1 x2 x3  K (fun v5 v6 v7 v8 v9 st => w_X9_whoHates_L64 x1 x2 x3  K n v5 v6 v7 v8 v9 st) v5 v6 v7 v8 v9 st
def w_X9_whoHates_b28 (x1 : Int32) (x2 : Int32) (x3 : Int32)  (K : Int32 → St → Prop) (s0 : Int32) (st : St) : Prop :=
  (s0 = 0 → w_X9_hateOf x1 x2 st (fun r45 st45 => ∃ n, w_X9_whoHates_L64 x1 x2 x3  K n r45 0 (-9) (-9) 0 st45)) ∧ (¬ s0 = 0 → w_X9_no s0 st (fun r38 st38 => K r38 st38))
def w_X9_whoHates (x1 : Int32) (x2 : Int32) (x3 : Int32) (st : St) (K : Int32 → St → Prop) : Prop :=
  w_X9_areTwo x1 x2 st (fun r3 st3 => (¬ r3 = 0 → w_X9_isIn x3 0 2 st3 (fun r16 st16 => (¬ r16 = 0 → w_X9_whoHates_b28 x1 x2 x3  K 0 st16) ∧ (r16 = 0 → w_X9_whoHates_b28 x1 x2 x3  K (-2) st16))) ∧ (r3 = 0 → w_X9_whoHates_b28 x1 x2 x3  K (-1) st3))
def w_X9_hatesSo_b43 (x1 : Int32) (x2 : Int32) (c9 : Int32 → Int32 → St → Prop) (K : Int32 → St → Prop) (v4 : Int32) (s0 : Int32) (st : St) : Prop :=
  w_X9_goesWeek  st (fun st45 => c9 s0 (v4 + 1) st45)
def w_X9_hatesSo_b54 (x1 : Int32) (x2 : Int32)  (K : Int32 → St → Prop) (v3 : Int32) (st : St) : Prop :=
  w_X9_forgets  st (fun st55 => (v3 = 0 ∨ v3 = 1) ∧ K v3 st55)
def w_X9_hatesSo_L9q (x1 : Int32) (x2 : Int32)  (K : Int32 → St → Prop) (c9 : Int32 → Int32 → St → Prop) (v3 : Int32) (v4 : Int32) (st : St) : Prop :=
  ((st 0 29) ≤ v4 → w_X9_hatesSo_b54 x1 x2  K v3 st) ∧ (¬ (st 0 29) ≤ v4 → (v3 = 0 → w_X9_hatesSo_b54 x1 x2  K v3 st) ∧ (¬ v3 = 0 → w_X9_hateOf x1 x2 st (fun r25 st25 => vp_in v4 12 ∧ ((¬ r25 = (st25 16 (v4).toNatClampNeg) → w_X9_hatesSo_b43 x1 x2 c9 K v4 0 st25) ∧ (r25 = (st25 16 (v4).toNatClampNeg) → w_X9_hatesSo_b43 x1 x2 c9 K v4 1 st25)))))
def w_X9_hatesSo_L9 (x1 : Int32) (x2 : Int32)  (K : Int32 → St → Prop) : Nat → Int32 → Int32 → St → Prop
  | 0, _, _, _ => False
  | n + 1, v3, v4, st => w_X9_hatesSo_L9q x1 x2  K (fun v3 v4 st => w_X9_hatesSo_L9 x1 x2  K n v3 v4 st) v3 v4 st
def w_X9_hatesSo (x1 : Int32) (x2 : Int32) (st : St) (K : Int32 → St → Prop) : Prop :=
  w_X9_thinks  st (fun st1 => ∃ n, w_X9_hatesSo_L9 x1 x2  K n 1 0 st1)
def w_X9_bitsFor_b42 (k1 : Nat) (n1 : Nat) (x2 : Int32) (x3 : Int32) (x4 : Int32) (c11 : Int32 → Int32 → Int32 → St → Prop) (K : Int32 → St → Prop) (v5 : Int32) (v7 : Int32) (s0 : Int32) (s1 : Int32) (st : St) : Prop :=
  c11 v5 (s1 ||| s0) (v7 + 1) st
def w_X9_bitsFor_b51 (k1 : Nat) (n1 : Nat) (x2 : Int32) (x3 : Int32) (x4 : Int32)  (K : Int32 → St → Prop) (v5 : Int32) (v6 : Int32) (st : St) : Prop :=
  vp_in x2 n1 ∧ (K v6 (u2 st k1 (x2).toNatClampNeg v5))
def w_X9_bitsFor_L11q (k1 : Nat) (n1 : Nat) (x2 : Int32) (x3 : Int32) (x4 : Int32)  (K : Int32 → St → Prop) (c11 : Int32 → Int32 → Int32 → St → Prop) (v5 : Int32) (v6 : Int32) (v7 : Int32) (st : St) : Prop :=
  (x4 ≤ v7 → w_X9_bitsFor_b51 k1 n1 x2 x3 x4  K v5 v6 st) ∧ (¬ x4 ≤ v7 → vp_in x2 n1 ∧ (w_X9_hatesSo x2 x3 (u2 st k1 (x2).toNatClampNeg v7) (fun r28 st28 => (r28 = 0 → w_X9_bitsFor_b42 k1 n1 x2 x3 x4 c11 K v5 v7 0 v6 st28) ∧ (¬ r28 = 0 → w_X9_bitsFor_b42 k1 n1 x2 x3 x4 c11 K v5 v7 ((1 : Int32) <<< (v7 &&& 31)) v6 st28))))
def w_X9_bitsFor_L11 (k1 : Nat) (n1 : Nat) (x2 : Int32) (x3 : Int32) (x4 : Int32)  (K : Int32 → St → Prop) : Nat → Int32 → Int32 → Int32 → St → Prop
  | 0, _, _, _, _ => False
  | n + 1, v5, v6, v7, st => w_X9_bitsFor_L11q k1 n1 x2 x3 x4  K (fun v5 v6 v7 st => w_X9_bitsFor_L11 k1 n1 x2 x3 x4  K n v5 v6 v7 st) v5 v6 v7 st
def w_X9_bitsFor (k1 : Nat) (n1 : Nat) (x2 : Int32) (x3 : Int32) (x4 : Int32) (st : St) (K : Int32 → St → Prop) : Prop :=
  vp_in x2 n1 ∧ (∃ n, w_X9_bitsFor_L11 k1 n1 x2 x3 x4  K n (st k1 (x2).toNatClampNeg) 0 0 st)
def w_X9_whatKind_b28 (x1 : Int32) (x2 : Int32) (x3 : Int32)  (K : Int32 → St → Prop) (s0 : Int32) (st : St) : Prop :=
  (s0 = 0 → (¬ x3 = 0 → w_X9_bitsFor 3 6 x1 x2 10 st (fun r70 st70 => K r70 st70)) ∧ (x3 = 0 → w_X9_bitsFor 2 6 x1 x2 6 st (fun r55 st55 => K r55 st55))) ∧ (¬ s0 = 0 → w_X9_no s0 st (fun r38 st38 => K r38 st38))
def w_X9_whatKind (x1 : Int32) (x2 : Int32) (x3 : Int32) (st : St) (K : Int32 → St → Prop) : Prop :=
  w_X9_areTwo x1 x2 st (fun r3 st3 => (¬ r3 = 0 → w_X9_isIn x3 0 1 st3 (fun r16 st16 => (¬ r16 = 0 → w_X9_whatKind_b28 x1 x2 x3  K 0 st16) ∧ (r16 = 0 → w_X9_whatKind_b28 x1 x2 x3  K (-2) st16))) ∧ (r3 = 0 → w_X9_whatKind_b28 x1 x2 x3  K (-1) st3))
def w_X9_divisor_L6q (x0 : Int64) (x2 : Int64)  (K : Int64 → St → Prop) (c6 : Int64 → Int64 → St → Prop) (v4 : Int64) (v6 : Int64) (st : St) : Prop :=
  ((lg_cmp v6 0) = 0 → K v4 st) ∧ (¬ (lg_cmp v6 0) = 0 → ¬ v6 = 0 ∧ (c6 v6 (v4 - v4 / v6 * v6) st))
def w_X9_divisor_L6 (x0 : Int64) (x2 : Int64)  (K : Int64 → St → Prop) : Nat → Int64 → Int64 → St → Prop
  | 0, _, _, _ => False
  | n + 1, v4, v6, st => w_X9_divisor_L6q x0 x2  K (fun v4 v6 st => w_X9_divisor_L6 x0 x2  K n v4 v6 st) v4 v6 st
def w_X9_divisor (x0 : Int64) (x2 : Int64) (st : St) (K : Int64 → St → Prop) : Prop :=
  ∃ n, w_X9_divisor_L6 x0 x2  K n x0 x2 st
def w_X9_partOf_b10 (x0 : Int64) (x2 : Int64) (x4 : Int32)  (K : Int64 → St → Prop) (s0 : Int64) (st : St) : Prop :=
  w_X9_divisor x0 x2 st (fun r12 st12 => ¬ r12 = 0 ∧ (K (s0 / r12) st12))
def w_X9_partOf (x0 : Int64) (x2 : Int64) (x4 : Int32) (st : St) (K : Int64 → St → Prop) : Prop :=
  (¬ x4 = 0 → w_X9_partOf_b10 x0 x2 x4  K x2 st) ∧ (x4 = 0 → w_X9_partOf_b10 x0 x2 x4  K x0 st)
def w_X9_partsOf_b29 (x0 : Int32) (x1 : Int32) (x2 : Int32) (c5 : Int64 → Int32 → St → Prop) (K : Int64 → St → Prop) (v5 : Int32) (s0 : Int64) (s1 : Int64) (st : St) : Prop :=
  c5 (s1 * s0) (v5 + 1) st
def w_X9_partsOf_L5q (x0 : Int32) (x1 : Int32) (x2 : Int32)  (K : Int64 → St → Prop) (c5 : Int64 → Int32 → St → Prop) (v3 : Int64) (v5 : Int32) (st : St) : Prop :=
  (x1 ≤ v5 → K v3 st) ∧ (¬ x1 ≤ v5 → w_X9_has x0 v5 st (fun r15 st15 => (r15 = 0 → w_X9_partsOf_b29 x0 x1 x2 c5 K v5 (((x2 - 1)).toInt64) v3 st15) ∧ (¬ r15 = 0 → w_X9_partsOf_b29 x0 x1 x2 c5 K v5 1 v3 st15)))
def w_X9_partsOf_L5 (x0 : Int32) (x1 : Int32) (x2 : Int32)  (K : Int64 → St → Prop) : Nat → Int64 → Int32 → St → Prop
  | 0, _, _, _ => False
  | n + 1, v3, v5, st => w_X9_partsOf_L5q x0 x1 x2  K (fun v3 v5 st => w_X9_partsOf_L5 x0 x1 x2  K n v3 v5 st) v3 v5 st
def w_X9_partsOf (x0 : Int32) (x1 : Int32) (x2 : Int32) (st : St) (K : Int64 → St → Prop) : Prop :=
  ∃ n, w_X9_partsOf_L5 x0 x1 x2  K n 1 0 st
def w_X9_power_L5q (x0 : Int32) (x1 : Int32)  (K : Int64 → St → Prop) (c5 : Int64 → Int32 → St → Prop) (v2 : Int64) (v4 : Int32) (st : St) : Prop :=
  (x1 ≤ v4 → K v2 st) ∧ (¬ x1 ≤ v4 → c5 (v2 * ((x0).toInt64)) (v4 + 1) st)
def w_X9_power_L5 (x0 : Int32) (x1 : Int32)  (K : Int64 → St → Prop) : Nat → Int64 → Int32 → St → Prop
  | 0, _, _, _ => False
  | n + 1, v2, v4, st => w_X9_power_L5q x0 x1  K (fun v2 v4 st => w_X9_power_L5 x0 x1  K n v2 v4 st) v2 v4 st
def w_X9_power (x0 : Int32) (x1 : Int32) (st : St) (K : Int64 → St → Prop) : Prop :=
  ∃ n, w_X9_power_L5 x0 x1  K n 1 0 st
def w_X9_jug_b107 (x1 : Int32) (x2 : Int32) (x3 : Int32) (x4 : Int32) (c77 : Int64 → Int32 → St → Prop) (K : Int64 → St → Prop) (v8 : Int32) (s0 : Int64) (s1 : Int64) (st : St) : Prop :=
  c77 (s1 + s0) (v8 + 1) st
def w_X9_jug_b116 (x1 : Int32) (x2 : Int32) (x3 : Int32) (x4 : Int32)  (K : Int64 → St → Prop) (v6 : Int64) (st : St) : Prop :=
  w_X9_power x3 x1 st (fun r120 st120 => w_X9_partOf v6 r120 x4 st120 (fun r125 st125 => K r125 st125))
def w_X9_jug_L77q (x1 : Int32) (x2 : Int32) (x3 : Int32) (x4 : Int32)  (K : Int64 → St → Prop) (c77 : Int64 → Int32 → St → Prop) (v6 : Int64) (v8 : Int32) (st : St) : Prop :=
  (((1 : Int32) <<< (x1 &&& 31)) ≤ v8 → w_X9_jug_b116 x1 x2 x3 x4  K v6 st) ∧ (¬ ((1 : Int32) <<< (x1 &&& 31)) ≤ v8 → w_X9_bits v8 st (fun r89 st89 => (r89 < x2 → w_X9_jug_b107 x1 x2 x3 x4 c77 K v8 0 v6 st89) ∧ (¬ r89 < x2 → w_X9_partsOf v8 x1 x3 st89 (fun r100 st100 => w_X9_jug_b107 x1 x2 x3 x4 c77 K v8 r100 v6 st100))))
def w_X9_jug_L77 (x1 : Int32) (x2 : Int32) (x3 : Int32) (x4 : Int32)  (K : Int64 → St → Prop) : Nat → Int64 → Int32 → St → Prop
  | 0, _, _, _ => False
  | n + 1, v6, v8, st => w_X9_jug_L77q x1 x2 x3 x4  K (fun v6 v8 st => w_X9_jug_L77 x1 x2 x3 x4  K n v6 v8 st) v6 v8 st
def w_X9_jug_b57 (x1 : Int32) (x2 : Int32) (x3 : Int32) (x4 : Int32)  (K : Int64 → St → Prop) (s0 : Int32) (st : St) : Prop :=
  (s0 = 0 → ∃ n, w_X9_jug_L77 x1 x2 x3 x4  K n 0 0 st) ∧ (¬ s0 = 0 → w_X9_lowestOf s0 st (fun r67 st67 => K r67 st67))
def w_X9_jug_b13 (x1 : Int32) (x2 : Int32) (x3 : Int32) (x4 : Int32)  (K : Int64 → St → Prop)  (st : St) : Prop :=
  w_X9_jug_b57 x1 x2 x3 x4  K (-4) st
def w_X9_jug_b36 (x1 : Int32) (x2 : Int32) (x3 : Int32) (x4 : Int32)  (K : Int64 → St → Prop)  (st : St) : Prop :=
  w_X9_jug_b57 x1 x2 x3 x4  K (-6) st
def w_X9_jug (x1 : Int32) (x2 : Int32) (x3 : Int32) (x4 : Int32) (st : St) (K : Int64 → St → Prop) : Prop :=
  (x1 < 0 → w_X9_jug_b13 x1 x2 x3 x4  K st) ∧ (¬ x1 < 0 → (x2 < 0 → w_X9_jug_b13 x1 x2 x3 x4  K st) ∧ (¬ x2 < 0 → (2 ≤ x3 → (8 < x1 → w_X9_jug_b36 x1 x2 x3 x4  K st) ∧ (¬ 8 < x1 → (8 < x2 → w_X9_jug_b36 x1 x2 x3 x4  K st) ∧ (¬ 8 < x2 → (x3 ≤ 20 → w_X9_isIn x4 0 1 st (fun r45 st45 => (¬ r45 = 0 → w_X9_jug_b57 x1 x2 x3 x4  K 0 st45) ∧ (r45 = 0 → w_X9_jug_b57 x1 x2 x3 x4  K (-2) st45))) ∧ (¬ x3 ≤ 20 → w_X9_jug_b36 x1 x2 x3 x4  K st)))) ∧ (¬ 2 ≤ x3 → w_X9_jug_b13 x1 x2 x3 x4  K st)))
def w_X9_getsOf_b66 (x1 : Int32) (x2 : Int32) (x3 : Int32) (x4 : Int32)  (K : Int32 → St → Prop) (v5 : Int32) (s0 : Int32) (s1 : Int32) (st : St) : Prop :=
  w_X9_sets x1 x2 v5 st (fun st74 => K (s1 - s0) st74)
def w_X9_getsOf_b65 (x1 : Int32) (x2 : Int32) (x3 : Int32) (x4 : Int32)  (K : Int32 → St → Prop) (v5 : Int32) (s0 : Int32) (st : St) : Prop :=
  w_X9_getsOf_b66 x1 x2 x3 x4  K v5 0 s0 st
def w_X9_getsOf_b31 (x1 : Int32) (x2 : Int32) (x3 : Int32) (x4 : Int32)  (K : Int32 → St → Prop) (v5 : Int32) (s0 : Int32) (s1 : Int32) (s2 : Int32) (st : St) : Prop :=
  w_X9_sets s2 s1 s0 st (fun st31 => w_X9_payOf x1 st31 (fun r37 st37 => w_X9_hateIn x1 x2 4 st37 (fun r45 st45 => (¬ x3 = 1 → w_X9_getsOf_b65 x1 x2 x3 x4  K v5 ((4 * r37) - (r45 / 2)) st45) ∧ (x3 = 1 → (¬ x4 = 0 → w_X9_getsOf_b65 x1 x2 x3 x4  K v5 ((4 * r37) - (r45 / 2)) st45) ∧ (x4 = 0 → w_X9_getsOf_b66 x1 x2 x3 x4  K v5 3 ((4 * r37) - (r45 / 2)) st45)))))
def w_X9_getsOf_b29 (x1 : Int32) (x2 : Int32) (x3 : Int32) (x4 : Int32)  (K : Int32 → St → Prop) (v5 : Int32) (s0 : Int32) (s1 : Int32) (st : St) : Prop :=
  w_X9_getsOf_b31 x1 x2 x3 x4  K v5 v5 s0 s1 st
def w_X9_getsOf (x1 : Int32) (x2 : Int32) (x3 : Int32) (x4 : Int32) (st : St) (K : Int32 → St → Prop) : Prop :=
  w_X9_hateOf x1 x2 st (fun r3 st3 => (¬ x3 = 1 → w_X9_getsOf_b29 x1 x2 x3 x4  K r3 x2 x1 st3) ∧ (x3 = 1 → (¬ x4 = 1 → w_X9_getsOf_b29 x1 x2 x3 x4  K r3 x2 x1 st3) ∧ (x4 = 1 → w_X9_getsOf_b31 x1 x2 x3 x4  K r3 (r3 / 2) x2 x1 st3)))
def w_X9_two_b82 (x1 : Int32) (x2 : Int32)  (K : Int32 → St → Prop) (v4 : Int32) (v5 : Int32) (st : St) : Prop :=
  K ((10 * v4) + v5) st
def w_X9_two_b91 (x1 : Int32) (x2 : Int32) (c17 : Int32 → St → Prop) (K : Int32 → St → Prop) (v3 : Int32) (st : St) : Prop :=
  c17 (v3 + 1) st
def w_X9_two_L17q (x1 : Int32) (x2 : Int32)  (K : Int32 → St → Prop) (c17 : Int32 → St → Prop) (v3 : Int32) (st : St) : Prop :=
  (4 ≤ v3 → K (-9) st) ∧ (¬ 4 ≤ v3 → w_X9_getsOf x1 x2 (1 - (v3 / 2)) (v3 - v3 / 2 * 2) st (fun r41 st41 => w_X9_getsOf x1 x2 (v3 / 2) (v3 - v3 / 2 * 2) st41 (fun r51 st51 => (r51 < r41 → w_X9_two_b91 x1 x2 c17 K v3 st51) ∧ (¬ r51 < r41 → w_X9_getsOf x2 x1 (1 - (v3 - v3 / 2 * 2)) (v3 / 2) st51 (fun r66 st66 => w_X9_getsOf x2 x1 (v3 - v3 / 2 * 2) (v3 / 2) st66 (fun r76 st76 => (r76 < r66 → w_X9_two_b91 x1 x2 c17 K v3 st76) ∧ (¬ r76 < r66 → w_X9_two_b82 x1 x2  K (v3 / 2) (v3 - v3 / 2 * 2) st76)))))))
def w_X9_two_L17 (x1 : Int32) (x2 : Int32)  (K : Int32 → St → Prop) : Nat → Int32 → St → Prop
  | 0, _, _ => False
  | n + 1, v3, st => w_X9_two_L17q x1 x2  K (fun v3 st => w_X9_two_L17 x1 x2  K n v3 st) v3 st
def w_X9_two (x1 : Int32) (x2 : Int32) (st : St) (K : Int32 → St → Prop) : Prop :=
  w_X9_areTwo x1 x2 st (fun r3 st3 => (¬ r3 = 0 → ∃ n, w_X9_two_L17 x1 x2  K n 0 st3) ∧ (r3 = 0 → w_X9_no (-1) st3 (fun r11 st11 => K r11 st11)))
def w_X9_isOpenMeeting_b45 (x1 : Int32) (x2 : Int32) (x3 : Int32) (x4 : Int32) (x5 : Int32) (c7 : Int32 → St → Prop) (K : Int32 → St → Prop) (v6 : Int32) (st : St) : Prop :=
  w_X9_goesWeek  st (fun st46 => c7 (v6 + 1) st46)
def w_X9_isOpenMeeting_b70 (x1 : Int32) (x2 : Int32) (x3 : Int32) (x4 : Int32) (x5 : Int32)  (K : Int32 → St → Prop) (s0 : Int32) (st : St) : Prop :=
  w_X9_forgets  st (fun st73 => (s0 = 0 ∨ s0 = 1) ∧ K s0 st73)
def w_X9_isOpenMeeting_b55 (x1 : Int32) (x2 : Int32) (x3 : Int32) (x4 : Int32) (x5 : Int32)  (K : Int32 → St → Prop)  (st : St) : Prop :=
  vp_in x3 6 ∧ ((¬ (st 8 (x3).toNatClampNeg) = 1 → w_X9_isOpenMeeting_b70 x1 x2 x3 x4 x5  K 0 st) ∧ ((st 8 (x3).toNatClampNeg) = 1 → w_X9_isOpenMeeting_b70 x1 x2 x3 x4 x5  K 1 st))
def w_X9_isOpenMeeting_L7q (x1 : Int32) (x2 : Int32) (x3 : Int32) (x4 : Int32) (x5 : Int32)  (K : Int32 → St → Prop) (c7 : Int32 → St → Prop) (v6 : Int32) (st : St) : Prop :=
  (x4 ≤ v6 → w_X9_isOpenMeeting_b55 x1 x2 x3 x4 x5  K st) ∧ (¬ x4 ≤ v6 → w_X9_has x5 v6 st (fun r18 st18 => (r18 = 0 → w_X9_isOpenMeeting_b45 x1 x2 x3 x4 x5 c7 K v6 st18) ∧ (¬ r18 = 0 → w_X9_hateOf x1 x2 st18 (fun r30 st30 => w_X9_held (r30 - 10) 0 99 st30 (fun r39 st39 => w_X9_sets x1 x2 r39 st39 (fun st42 => w_X9_isOpenMeeting_b45 x1 x2 x3 x4 x5 c7 K v6 st42))))))
def w_X9_isOpenMeeting_L7 (x1 : Int32) (x2 : Int32) (x3 : Int32) (x4 : Int32) (x5 : Int32)  (K : Int32 → St → Prop) : Nat → Int32 → St → Prop
  | 0, _, _ => False
  | n + 1, v6, st => w_X9_isOpenMeeting_L7q x1 x2 x3 x4 x5  K (fun v6 st => w_X9_isOpenMeeting_L7 x1 x2 x3 x4 x5  K n v6 st) v6 st
def w_X9_isOpenMeeting (x1 : Int32) (x2 : Int32) (x3 : Int32) (x4 : Int32) (x5 : Int32) (st : St) (K : Int32 → St → Prop) : Prop :=
  w_X9_thinks  st (fun st1 => ∃ n, w_X9_isOpenMeeting_L7 x1 x2 x3 x4 x5  K n 0 st1)
def w_X9_meetings_b130 (x1 : Int32) (x2 : Int32) (x3 : Int32) (x4 : Int32) (x5 : Int32) (x6 : Int32) (c92 : Int64 → Int32 → St → Prop) (K : Int64 → St → Prop) (v10 : Int32) (s0 : Int64) (s1 : Int64) (st : St) : Prop :=
  c92 (s1 + s0) (v10 + 1) st
def w_X9_meetings_b139 (x1 : Int32) (x2 : Int32) (x3 : Int32) (x4 : Int32) (x5 : Int32) (x6 : Int32)  (K : Int64 → St → Prop) (v8 : Int64) (st : St) : Prop :=
  w_X9_power x5 x4 st (fun r145 st145 => w_X9_partOf v8 r145 x6 st145 (fun r150 st150 => K r150 st150))
def w_X9_meetings_L92q (x1 : Int32) (x2 : Int32) (x3 : Int32) (x4 : Int32) (x5 : Int32) (x6 : Int32)  (K : Int64 → St → Prop) (c92 : Int64 → Int32 → St → Prop) (v8 : Int64) (v10 : Int32) (st : St) : Prop :=
  (((1 : Int32) <<< (x4 &&& 31)) ≤ v10 → w_X9_meetings_b139 x1 x2 x3 x4 x5 x6  K v8 st) ∧ (¬ ((1 : Int32) <<< (x4 &&& 31)) ≤ v10 → w_X9_isOpenMeeting x1 x2 x3 x4 v10 st (fun r111 st111 => (r111 = 0 → w_X9_meetings_b130 x1 x2 x3 x4 x5 x6 c92 K v10 0 v8 st111) ∧ (¬ r111 = 0 → w_X9_partsOf v10 x4 x5 st111 (fun r123 st123 => w_X9_meetings_b130 x1 x2 x3 x4 x5 x6 c92 K v10 r123 v8 st123))))
def w_X9_meetings_L92 (x1 : Int32) (x2 : Int32) (x3 : Int32) (x4 : Int32) (x5 : Int32) (x6 : Int32)  (K : Int64 → St → Prop) : Nat → Int64 → Int32 → St → Prop
  | 0, _, _, _ => False
  | n + 1, v8, v10, st => w_X9_meetings_L92q x1 x2 x3 x4 x5 x6  K (fun v8 v10 st => w_X9_meetings_L92 x1 x2 x3 x4 x5 x6  K n v8 v10 st) v8 v10 st
def w_X9_meetings_b72 (x1 : Int32) (x2 : Int32) (x3 : Int32) (x4 : Int32) (x5 : Int32) (x6 : Int32)  (K : Int64 → St → Prop) (s0 : Int32) (st : St) : Prop :=
  (s0 = 0 → ∃ n, w_X9_meetings_L92 x1 x2 x3 x4 x5 x6  K n 0 0 st) ∧ (¬ s0 = 0 → w_X9_lowestOf s0 st (fun r82 st82 => K r82 st82))
def w_X9_meetings_b17 (x1 : Int32) (x2 : Int32) (x3 : Int32) (x4 : Int32) (x5 : Int32) (x6 : Int32)  (K : Int64 → St → Prop)  (st : St) : Prop :=
  w_X9_meetings_b72 x1 x2 x3 x4 x5 x6  K (-1) st
def w_X9_meetings_b32 (x1 : Int32) (x2 : Int32) (x3 : Int32) (x4 : Int32) (x5 : Int32) (x6 : Int32)  (K : Int64 → St → Prop)  (st : St) : Prop :=
  w_X9_meetings_b72 x1 x2 x3 x4 x5 x6  K (-4) st
def w_X9_meetings_b51 (x1 : Int32) (x2 : Int32) (x3 : Int32) (x4 : Int32) (x5 : Int32) (x6 : Int32)  (K : Int64 → St → Prop)  (st : St) : Prop :=
  w_X9_meetings_b72 x1 x2 x3 x4 x5 x6  K (-6) st
def w_X9_meetings (x1 : Int32) (x2 : Int32) (x3 : Int32) (x4 : Int32) (x5 : Int32) (x6 : Int32) (st : St) (K : Int64 → St → Prop) : Prop :=
  w_X9_areTwo x1 x2 st (fun r3 st3 => (r3 = 0 → w_X9_meetings_b17 x1 x2 x3 x4 x5 x6  K st3) ∧ (¬ r3 = 0 → w_X9_isLetter x3 st3 (fun r11 st11 => (¬ r11 = 0 → (x4 < 0 → w_X9_meetings_b32 x1 x2 x3 x4 x5 x6  K st11) ∧ (¬ x4 < 0 → (2 ≤ x5 → (7 < x4 → w_X9_meetings_b51 x1 x2 x3 x4 x5 x6  K st11) ∧ (¬ 7 < x4 → (x5 ≤ 20 → w_X9_isIn x6 0 1 st11 (fun r60 st60 => (¬ r60 = 0 → w_X9_meetings_b72 x1 x2 x3 x4 x5 x6  K 0 st60) ∧ (r60 = 0 → w_X9_meetings_b72 x1 x2 x3 x4 x5 x6  K (-2) st60))) ∧ (¬ x5 ≤ 20 → w_X9_meetings_b51 x1 x2 x3 x4 x5 x6  K st11))) ∧ (¬ 2 ≤ x5 → w_X9_meetings_b32 x1 x2 x3 x4 x5 x6  K st11))) ∧ (r11 = 0 → w_X9_meetings_b17 x1 x2 x3 x4 x5 x6  K st11))))
def w_X9_fullest_b49 (x1 : Int32) (c20 : Int32 → Int32 → St → Prop) (K : Int32 → St → Prop) (v3 : Int32) (s0 : Int32) (st : St) : Prop :=
  c20 s0 (v3 + 1) st
def w_X9_fullest_b56 (x1 : Int32)  (K : Int32 → St → Prop) (v2 : Int32) (st : St) : Prop :=
  (¬ x1 = 0 → w_X9_keepersIn v2 st (fun r66 st66 => w_X9_bits r66 st66 (fun r69 st69 => K r69 st69))) ∧ (x1 = 0 → K v2 st)
def w_X9_fullest_L20q (x1 : Int32)  (K : Int32 → St → Prop) (c20 : Int32 → Int32 → St → Prop) (v2 : Int32) (v3 : Int32) (st : St) : Prop :=
  (4 ≤ v3 → w_X9_fullest_b56 x1  K v2 st) ∧ (¬ 4 ≤ v3 → w_X9_keepersIn v3 st (fun r27 st27 => w_X9_bits r27 st27 (fun r30 st30 => w_X9_keepersIn v2 st30 (fun r35 st35 => w_X9_bits r35 st35 (fun r38 st38 => (r30 ≤ r38 → w_X9_fullest_b49 x1 c20 K v3 v2 st38) ∧ (¬ r30 ≤ r38 → w_X9_fullest_b49 x1 c20 K v3 v3 st38))))))
def w_X9_fullest_L20 (x1 : Int32)  (K : Int32 → St → Prop) : Nat → Int32 → Int32 → St → Prop
  | 0, _, _, _ => False
  | n + 1, v2, v3, st => w_X9_fullest_L20q x1  K (fun v2 v3 st => w_X9_fullest_L20 x1  K n v2 v3 st) v2 v3 st
def w_X9_fullest (x1 : Int32) (st : St) (K : Int32 → St → Prop) : Prop :=
  w_X9_isIn x1 0 1 st (fun r3 st3 => (¬ r3 = 0 → ∃ n, w_X9_fullest_L20 x1  K n 0 1 st3) ∧ (r3 = 0 → w_X9_no (-2) st3 (fun r12 st12 => K r12 st12)))
def w_X9_thickest_b43  (c5 : Int32 → Int32 → St → Prop) (K : Int32 → St → Prop) (v1 : Int32) (v2 : Int32) (st : St) : Prop :=
  c5 v1 (v2 + 1) st
def w_X9_thickest_b41  (c5 : Int32 → Int32 → St → Prop) (K : Int32 → St → Prop) (v2 : Int32) (st : St) : Prop :=
  w_X9_thickest_b43  c5 K v2 v2 st
def w_X9_thickest_L5q   (K : Int32 → St → Prop) (c5 : Int32 → Int32 → St → Prop) (v1 : Int32) (v2 : Int32) (st : St) : Prop :=
  ((st 0 9) ≤ v2 → K v1 st) ∧ (¬ (st 0 9) ≤ v2 → vp_in v2 6 ∧ ((¬ (st 8 (v2).toNatClampNeg) = 0 → w_X9_thickest_b43  c5 K v1 v2 st) ∧ ((st 8 (v2).toNatClampNeg) = 0 → (v1 < 0 → w_X9_thickest_b41  c5 K v2 st) ∧ (¬ v1 < 0 → vp_in v2 6 ∧ (vp_in v1 6 ∧ (((st 6 (v2).toNatClampNeg) ≤ (st 6 (v1).toNatClampNeg) → w_X9_thickest_b43  c5 K v1 v2 st) ∧ (¬ (st 6 (v2).toNatClampNeg) ≤ (st 6 (v1).toNatClampNeg) → w_X9_thickest_b41  c5 K v2 st)))))))
def w_X9_thickest_L5   (K : Int32 → St → Prop) : Nat → Int32 → Int32 → St → Prop
  | 0, _, _, _ => False
  | n + 1, v1, v2, st => w_X9_thickest_L5q   K (fun v1 v2 st => w_X9_thickest_L5   K n v1 v2 st) v1 v2 st
def w_X9_thickest  (st : St) (K : Int32 → St → Prop) : Prop :=
  ∃ n, w_X9_thickest_L5   K n (-9) 0 st
def w_X9_hatesOf_b28 (x1 : Int32) (c4 : Int32 → Int32 → St → Prop) (K : Int32 → St → Prop) (v3 : Int32) (s0 : Int32) (s1 : Int32) (st : St) : Prop :=
  c4 (s1 + s0) (v3 + 1) st
def w_X9_hatesOf_L4q (x1 : Int32)  (K : Int32 → St → Prop) (c4 : Int32 → Int32 → St → Prop) (v2 : Int32) (v3 : Int32) (st : St) : Prop :=
  ((st 0 8) ≤ v3 → K v2 st) ∧ (¬ (st 0 8) ≤ v3 → (¬ v3 = x1 → w_X9_hateOf x1 v3 st (fun r25 st25 => w_X9_hatesOf_b28 x1 c4 K v3 r25 v2 st25)) ∧ (v3 = x1 → w_X9_hatesOf_b28 x1 c4 K v3 0 v2 st))
def w_X9_hatesOf_L4 (x1 : Int32)  (K : Int32 → St → Prop) : Nat → Int32 → Int32 → St → Prop
  | 0, _, _, _ => False
  | n + 1, v2, v3, st => w_X9_hatesOf_L4q x1  K (fun v2 v3 st => w_X9_hatesOf_L4 x1  K n v2 v3 st) v2 v3 st
def w_X9_hatesOf (x1 : Int32) (st : St) (K : Int32 → St → Prop) : Prop :=
  ∃ n, w_X9_hatesOf_L4 x1  K n 0 0 st
def w_X9_mildest_b35  (c5 : Int32 → Int32 → St → Prop) (K : Int32 → St → Prop) (v2 : Int32) (s0 : Int32) (st : St) : Prop :=
  c5 s0 (v2 + 1) st
def w_X9_mildest_b30  (c5 : Int32 → Int32 → St → Prop) (K : Int32 → St → Prop) (v2 : Int32) (st : St) : Prop :=
  w_X9_mildest_b35  c5 K v2 v2 st
def w_X9_mildest_L5q   (K : Int32 → St → Prop) (c5 : Int32 → Int32 → St → Prop) (v1 : Int32) (v2 : Int32) (st : St) : Prop :=
  ((st 0 8) ≤ v2 → K v1 st) ∧ (¬ (st 0 8) ≤ v2 → (v1 < 0 → w_X9_mildest_b30  c5 K v2 st) ∧ (¬ v1 < 0 → w_X9_hatesOf v2 st (fun r19 st19 => w_X9_hatesOf v1 st19 (fun r24 st24 => (r24 ≤ r19 → w_X9_mildest_b35  c5 K v2 v1 st24) ∧ (¬ r24 ≤ r19 → w_X9_mildest_b30  c5 K v2 st24)))))
def w_X9_mildest_L5   (K : Int32 → St → Prop) : Nat → Int32 → Int32 → St → Prop
  | 0, _, _, _ => False
  | n + 1, v1, v2, st => w_X9_mildest_L5q   K (fun v1 v2 st => w_X9_mildest_L5   K n v1 v2 st) v1 v2 st
def w_X9_mildest  (st : St) (K : Int32 → St → Prop) : Prop :=
  ∃ n, w_X9_mildest_L5   K n (-9) 0 st
def w_X9_bare_b51  (c4 : Int32 → Int32 → St → Prop) (K : Int32 → St → Prop) (v2 : Int32) (s0 : Int32) (s1 : Int32) (st : St) : Prop :=
  c4 (s1 ||| s0) (v2 + 1) st
def w_X9_bare_b50  (c4 : Int32 → Int32 → St → Prop) (K : Int32 → St → Prop) (v2 : Int32) (s0 : Int32) (st : St) : Prop :=
  w_X9_bare_b51  c4 K v2 0 s0 st
def w_X9_bare_L4q   (K : Int32 → St → Prop) (c4 : Int32 → Int32 → St → Prop) (v1 : Int32) (v2 : Int32) (st : St) : Prop :=
  ((st 0 9) ≤ v2 → K v1 st) ∧ (¬ (st 0 9) ≤ v2 → vp_in v2 6 ∧ ((¬ (st 8 (v2).toNatClampNeg) = 0 → w_X9_bare_b50  c4 K v2 v1 st) ∧ ((st 8 (v2).toNatClampNeg) = 0 → vp_in v2 6 ∧ (w_X9_keepersIn (st 7 (v2).toNatClampNeg) st (fun r29 st29 => w_X9_bits r29 st29 (fun r32 st32 => (2 ≤ r32 → w_X9_bare_b50  c4 K v2 v1 st32) ∧ (¬ 2 ≤ r32 → vp_in v2 6 ∧ (w_X9_bare_b51  c4 K v2 ((1 : Int32) <<< ((st32 7 (v2).toNatClampNeg) &&& 31)) v1 st32))))))))
def w_X9_bare_L4   (K : Int32 → St → Prop) : Nat → Int32 → Int32 → St → Prop
  | 0, _, _, _ => False
  | n + 1, v1, v2, st => w_X9_bare_L4q   K (fun v1 v2 st => w_X9_bare_L4   K n v1 v2 st) v1 v2 st
def w_X9_bare  (st : St) (K : Int32 → St → Prop) : Prop :=
  ∃ n, w_X9_bare_L4   K n 0 0 st
def w_X9_mean (x1 : Int32) (st : St) (K : Int64 → St → Prop) : Prop :=
  w_X9_isIn x1 0 1 st (fun r3 st3 => (¬ r3 = 0 → (2 ≤ (st3 0 8) → w_X9_allHate  st3 (fun r30 st30 => w_X9_partOf ((r30).toInt64) (((((st30 0 8) * ((st30 0 8) - 1)) / 2)).toInt64) x1 st30 (fun r49 st49 => K r49 st49))) ∧ (¬ 2 ≤ (st3 0 8) → K ((x1).toInt64) st3)) ∧ (r3 = 0 → w_X9_lowestOf (-2) st3 (fun r12 st12 => K r12 st12)))
def w_X9_used_b17 (x1 : Int32) (x2 : Int32) (x3 : Int32)  (K : Int32 → St → Prop) (s0 : Int32) (st : St) : Prop :=
  (s0 = 0 → w_X9_hateOf x1 x2 st (fun r36 st36 => w_X9_hateIn x1 x2 x3 st36 (fun r43 st43 => K (r36 - r43) st43))) ∧ (¬ s0 = 0 → w_X9_lower s0 st (fun r27 st27 => K r27 st27))
def w_X9_used (x1 : Int32) (x2 : Int32) (x3 : Int32) (st : St) (K : Int32 → St → Prop) : Prop :=
  w_X9_areTwo x1 x2 st (fun r3 st3 => (¬ r3 = 0 → w_X9_notWeeks x3 st3 (fun r14 st14 => w_X9_used_b17 x1 x2 x3  K r14 st14)) ∧ (r3 = 0 → w_X9_used_b17 x1 x2 x3  K (-1) st3))
def w_X9_manySwapped (x1 : Int32) (x2 : Int32) (x3 : Int32) (st : St) (K : Int32 → St → Prop) : Prop :=
  vp_in x1 6 ∧ (vp_in x2 6 ∧ (vp_in x1 6 ∧ (vp_in x2 6 ∧ (w_X9_openIn x3 (u2 (u2 st 4 (x1).toNatClampNeg (st 4 (x2).toNatClampNeg)) 4 (x2).toNatClampNeg (st 4 (x1).toNatClampNeg)) (fun r30 st30 => w_X9_bits r30 st30 (fun r33 st33 => vp_in x1 6 ∧ (vp_in x2 6 ∧ (vp_in x1 6 ∧ (K r33 (u2 (u2 st33 4 (x2).toNatClampNeg (st33 4 (x1).toNatClampNeg)) 4 (x1).toNatClampNeg (st 4 (x1).toNatClampNeg)))))))))))
def w_X9_swap_b111 (x1 : Int32) (c31 : Int32 → Int32 → Int32 → St → Prop) (c46 : Int32 → Int32 → Int32 → Int32 → St → Prop) (K : Int32 → St → Prop) (v3 : Int32) (v4 : Int32) (v5 : Int32) (v6 : Int32) (st : St) : Prop :=
  c46 v3 v4 v5 (v6 + 1) st
def w_X9_swap_b86 (x1 : Int32) (c31 : Int32 → Int32 → Int32 → St → Prop) (c46 : Int32 → Int32 → Int32 → Int32 → St → Prop) (K : Int32 → St → Prop) (v3 : Int32) (v4 : Int32) (v5 : Int32) (v6 : Int32) (s0 : Int32) (st : St) : Prop :=
  (v4 < s0 → w_X9_swap_b111 x1 c31 c46 K ((10 * v5) + v6) s0 v5 v6 st) ∧ (¬ v4 < s0 → w_X9_swap_b111 x1 c31 c46 K v3 v4 v5 v6 st)
def w_X9_swap_b117 (x1 : Int32) (c31 : Int32 → Int32 → Int32 → St → Prop) (K : Int32 → St → Prop) (v3 : Int32) (v4 : Int32) (v5 : Int32) (st : St) : Prop :=
  c31 v3 v4 (v5 + 1) st
def w_X9_swap_L46q (x1 : Int32) (c31 : Int32 → Int32 → Int32 → St → Prop) (K : Int32 → St → Prop) (c46 : Int32 → Int32 → Int32 → Int32 → St → Prop) (v3 : Int32) (v4 : Int32) (v5 : Int32) (v6 : Int32) (st : St) : Prop :=
  ((st 0 8) ≤ v6 → w_X9_swap_b117 x1 c31 K v3 v4 v5 st) ∧ (¬ (st 0 8) ≤ v6 → vp_in v5 6 ∧ (vp_in v6 6 ∧ ((¬ (st 4 (v5).toNatClampNeg) = (st 4 (v6).toNatClampNeg) → w_X9_manySwapped v5 v6 x1 st (fun r83 st83 => w_X9_swap_b86 x1 c31 c46 K v3 v4 v5 v6 r83 st83)) ∧ ((st 4 (v5).toNatClampNeg) = (st 4 (v6).toNatClampNeg) → w_X9_swap_b86 x1 c31 c46 K v3 v4 v5 v6 (-9) st))))
def w_X9_swap_L46 (x1 : Int32) (c31 : Int32 → Int32 → Int32 → St → Prop) (K : Int32 → St → Prop) : Nat → Int32 → Int32 → Int32 → Int32 → St → Prop
  | 0, _, _, _, _, _ => False
  | n + 1, v3, v4, v5, v6, st => w_X9_swap_L46q x1 c31 K (fun v3 v4 v5 v6 st => w_X9_swap_L46 x1 c31 K n v3 v4 v5 v6 st) v3 v4 v5 v6 st
def w_X9_swap_L31q (x1 : Int32)  (K : Int32 → St → Prop) (c31 : Int32 → Int32 → Int32 → St → Prop) (v3 : Int32) (v4 : Int32) (v5 : Int32) (st : St) : Prop :=
  ((st 0 8) ≤ v5 → K v3 st) ∧ (¬ (st 0 8) ≤ v5 → ∃ n, w_X9_swap_L46 x1 c31 K n v3 v4 v5 (v5 + 1) st)
def w_X9_swap_L31 (x1 : Int32)  (K : Int32 → St → Prop) : Nat → Int32 → Int32 → Int32 → St → Prop
  | 0, _, _, _, _ => False
  | n + 1, v3, v4, v5, st => w_X9_swap_L31q x1  K (fun v3 v4 v5 st => w_X9_swap_L31 x1  K n v3 v4 v5 st) v3 v4 v5 st
def w_X9_swap (x1 : Int32) (st : St) (K : Int32 → St → Prop) : Prop :=
  w_X9_notWeeks x1 st (fun r1 st1 => (r1 = 0 → w_X9_openIn x1 st1 (fun r20 st20 => w_X9_bits r20 st20 (fun r23 st23 => ∃ n, w_X9_swap_L31 x1  K n (-9) r23 0 st23))) ∧ (¬ r1 = 0 → w_X9_no r1 st1 (fun r11 st11 => K r11 st11)))
def w_X9_apart_b47 (x1 : Int32) (c24 : Int32 → Int32 → St → Prop) (K : Int32 → St → Prop) (v4 : Int32) (s0 : Int32) (s1 : Int32) (st : St) : Prop :=
  c24 (s1 + s0) (v4 + 1) st
def w_X9_apart_b55 (x1 : Int32)  (K : Int32 → St → Prop) (v3 : Int32) (st : St) : Prop :=
  w_X9_forgets  st (fun st56 => K v3 st56)
def w_X9_apart_L24q (x1 : Int32)  (K : Int32 → St → Prop) (c24 : Int32 → Int32 → St → Prop) (v3 : Int32) (v4 : Int32) (st : St) : Prop :=
  (x1 ≤ v4 → w_X9_apart_b55 x1  K v3 st) ∧ (¬ x1 ≤ v4 → w_X9_goesWeek  st (fun st31 => (¬ (st31 0 25) = 0 → w_X9_apart_b47 x1 c24 K v4 0 v3 st31) ∧ ((st31 0 25) = 0 → w_X9_apart_b47 x1 c24 K v4 1 v3 st31)))
def w_X9_apart_L24 (x1 : Int32)  (K : Int32 → St → Prop) : Nat → Int32 → Int32 → St → Prop
  | 0, _, _, _ => False
  | n + 1, v3, v4, st => w_X9_apart_L24q x1  K (fun v3 v4 st => w_X9_apart_L24 x1  K n v3 v4 st) v3 v4 st
def w_X9_apart (x1 : Int32) (st : St) (K : Int32 → St → Prop) : Prop :=
  w_X9_notWeeks x1 st (fun r1 st1 => (r1 = 0 → w_X9_thinks  st1 (fun st16 => ∃ n, w_X9_apart_L24 x1  K n 0 0 st16)) ∧ (¬ r1 = 0 → w_X9_no r1 st1 (fun r11 st11 => K r11 st11)))
def w_X9_enemy_b53 (x1 : Int32) (c19 : Int32 → Int32 → St → Prop) (K : Int32 → St → Prop) (v2 : Int32) (v3 : Int32) (st : St) : Prop :=
  c19 v2 (v3 + 1) st
def w_X9_enemy_b51 (x1 : Int32) (c19 : Int32 → Int32 → St → Prop) (K : Int32 → St → Prop) (v3 : Int32) (st : St) : Prop :=
  w_X9_enemy_b53 x1 c19 K v3 v3 st
def w_X9_enemy_L19q (x1 : Int32)  (K : Int32 → St → Prop) (c19 : Int32 → Int32 → St → Prop) (v2 : Int32) (v3 : Int32) (st : St) : Prop :=
  ((st 0 8) ≤ v3 → K v2 st) ∧ (¬ (st 0 8) ≤ v3 → (v3 = x1 → w_X9_enemy_b53 x1 c19 K v2 v3 st) ∧ (¬ v3 = x1 → (v2 < 0 → w_X9_enemy_b51 x1 c19 K v3 st) ∧ (¬ v2 < 0 → w_X9_hateOf x1 v3 st (fun r39 st39 => w_X9_hateOf x1 v2 st39 (fun r45 st45 => (r39 ≤ r45 → w_X9_enemy_b53 x1 c19 K v2 v3 st45) ∧ (¬ r39 ≤ r45 → w_X9_enemy_b51 x1 c19 K v3 st45))))))
def w_X9_enemy_L19 (x1 : Int32)  (K : Int32 → St → Prop) : Nat → Int32 → Int32 → St → Prop
  | 0, _, _, _ => False
  | n + 1, v2, v3, st => w_X9_enemy_L19q x1  K (fun v2 v3 st => w_X9_enemy_L19 x1  K n v2 v3 st) v2 v3 st
def w_X9_enemy (x1 : Int32) (st : St) (K : Int32 → St → Prop) : Prop :=
  w_X9_isKeeper x1 st (fun r2 st2 => (¬ r2 = 0 → ∃ n, w_X9_enemy_L19 x1  K n (-9) 0 st2) ∧ (r2 = 0 → w_X9_no (-1) st2 (fun r10 st10 => K r10 st10)))
def w_X9_can_b48 (x1 : Int32) (c23 : Int32 → Int32 → St → Prop) (K : Int32 → St → Prop) (v4 : Int32) (s0 : Int32) (s1 : Int32) (st : St) : Prop :=
  c23 (s1 ||| s0) (v4 + 1) st
def w_X9_can_L23q (x1 : Int32)  (K : Int32 → St → Prop) (c23 : Int32 → Int32 → St → Prop) (v3 : Int32) (v4 : Int32) (st : St) : Prop :=
  (4 ≤ v4 → K v3 st) ∧ (¬ 4 ≤ v4 → w_X9_opensAt v4 x1 st (fun r34 st34 => (r34 < 0 → w_X9_can_b48 x1 c23 K v4 0 v3 st34) ∧ (¬ r34 < 0 → w_X9_can_b48 x1 c23 K v4 ((1 : Int32) <<< (v4 &&& 31)) v3 st34)))
def w_X9_can_L23 (x1 : Int32)  (K : Int32 → St → Prop) : Nat → Int32 → Int32 → St → Prop
  | 0, _, _, _ => False
  | n + 1, v3, v4, st => w_X9_can_L23q x1  K (fun v3 v4 st => w_X9_can_L23 x1  K n v3 v4 st) v3 v4 st
def w_X9_can (x1 : Int32) (st : St) (K : Int32 → St → Prop) : Prop :=
  w_X9_bound x1 0 99 st (fun r4 st4 => (r4 = 0 → ∃ n, w_X9_can_L23 x1  K n 0 0 st4) ∧ (¬ r4 = 0 → w_X9_no r4 st4 (fun r14 st14 => K r14 st14)))
def w_X9_row_b24 (x1 : Int32)  (K : Int32 → St → Prop) (v2 : Int32) (st : St) : Prop :=
  (v2 = 0 → vp_in (st 0 29) 12 ∧ (K ((u2 (u2 st 16 ((st 0 29)).toNatClampNeg x1) 0 29 (((u2 st 16 ((st 0 29)).toNatClampNeg x1) 0 29) + 1)) 0 29) (u2 (u2 st 16 ((st 0 29)).toNatClampNeg x1) 0 29 (((u2 st 16 ((st 0 29)).toNatClampNeg x1) 0 29) + 1)))) ∧ (¬ v2 = 0 → w_X9_no v2 st (fun r30 st30 => K r30 st30))
def w_X9_row (x1 : Int32) (st : St) (K : Int32 → St → Prop) : Prop :=
  w_X9_bound x1 0 99 st (fun r4 st4 => (¬ r4 = 0 → w_X9_row_b24 x1  K r4 st4) ∧ (r4 = 0 → (¬ (st4 0 29) = 12 → w_X9_row_b24 x1  K r4 st4) ∧ ((st4 0 29) = 12 → w_X9_row_b24 x1  K (-6) st4)))
def w_X9_judge_b54 (x1 : Int32) (c26 : Int32 → Int32 → St → Prop) (K : Int32 → St → Prop) (v2 : Int32) (v3 : Int32) (s0 : Int32) (st : St) : Prop :=
  vp_in v3 12 ∧ ((s0 = (st 16 (v3).toNatClampNeg) → c26 v2 (v3 + 1) st) ∧ (¬ s0 = (st 16 (v3).toNatClampNeg) → K v3 st))
def w_X9_judge_L26q (x1 : Int32)  (K : Int32 → St → Prop) (c26 : Int32 → Int32 → St → Prop) (v2 : Int32) (v3 : Int32) (st : St) : Prop :=
  (v2 ≤ v3 → K (-9) st) ∧ (¬ v2 ≤ v3 → ((st 0 8) ≤ v3 → K v3 st) ∧ (¬ (st 0 8) ≤ v3 → (¬ v3 = x1 → w_X9_hateOf x1 v3 st (fun r51 st51 => w_X9_judge_b54 x1 c26 K v2 v3 r51 st51)) ∧ (v3 = x1 → w_X9_judge_b54 x1 c26 K v2 v3 0 st)))
def w_X9_judge_L26 (x1 : Int32)  (K : Int32 → St → Prop) : Nat → Int32 → Int32 → St → Prop
  | 0, _, _, _ => False
  | n + 1, v2, v3, st => w_X9_judge_L26q x1  K (fun v2 v3 st => w_X9_judge_L26 x1  K n v2 v3 st) v2 v3 st
def w_X9_judge (x1 : Int32) (st : St) (K : Int32 → St → Prop) : Prop :=
  w_X9_isKeeper x1 st (fun r2 st2 => (¬ r2 = 0 → ∃ n, w_X9_judge_L26 x1  K n (st2 0 29) 0 (u2 st2 0 29 0)) ∧ (r2 = 0 → w_X9_no (-1) st2 (fun r10 st10 => K r10 st10)))
def w_X9_clear  (st : St) (K : Int32 → St → Prop) : Prop :=
  K (st 0 29) (u2 st 0 29 0)
def w_X9_draw (x1 : Int32) (st : St) (K : Int32 → St → Prop) : Prop :=
  ¬ x1 = 0 ∧ (K (((((u2 st 0 30 (((st 0 30) * 1103515245) + 12345)) 0 30) &&& 2147483647) / 65536) - ((((u2 st 0 30 (((st 0 30) * 1103515245) + 12345)) 0 30) &&& 2147483647) / 65536) / x1 * x1) (u2 st 0 30 (((st 0 30) * 1103515245) + 12345)))
def w_X9_lots_b116 (x1 : Int32) (x2 : Int32) (x3 : Int32) (c59 : Int32 → Int32 → Int32 → St → Prop) (c72 : Int32 → Int32 → Int32 → Int32 → St → Prop) (K : Int32 → St → Prop) (v5 : Int32) (v6 : Int32) (v7 : Int32) (v8 : Int32) (st : St) : Prop :=
  c72 v5 v6 v7 (v8 + 1) st
def w_X9_lots_L87q (x1 : Int32) (x2 : Int32) (x3 : Int32) (c59 : Int32 → Int32 → Int32 → St → Prop) (c72 : Int32 → Int32 → Int32 → Int32 → St → Prop) (K : Int32 → St → Prop) (c87 : Int32 → Int32 → Int32 → Int32 → Int32 → St → Prop) (v5 : Int32) (v6 : Int32) (v7 : Int32) (v8 : Int32) (v9 : Int32) (st : St) : Prop :=
  ((st 0 8) ≤ v9 → w_X9_lots_b116 x1 x2 x3 c59 c72 K v5 v6 v7 v8 st) ∧ (¬ (st 0 8) ≤ v9 → w_X9_draw 60 st (fun r104 st104 => w_X9_sets v8 v9 r104 st104 (fun st107 => c87 v5 v6 v7 v8 (v9 + 1) st107)))
def w_X9_lots_L87 (x1 : Int32) (x2 : Int32) (x3 : Int32) (c59 : Int32 → Int32 → Int32 → St → Prop) (c72 : Int32 → Int32 → Int32 → Int32 → St → Prop) (K : Int32 → St → Prop) : Nat → Int32 → Int32 → Int32 → Int32 → Int32 → St → Prop
  | 0, _, _, _, _, _, _ => False
  | n + 1, v5, v6, v7, v8, v9, st => w_X9_lots_L87q x1 x2 x3 c59 c72 K (fun v5 v6 v7 v8 v9 st => w_X9_lots_L87 x1 x2 x3 c59 c72 K n v5 v6 v7 v8 v9 st) v5 v6 v7 v8 v9 st
def w_X9_lots_b151 (x1 : Int32) (x2 : Int32) (x3 : Int32) (c59 : Int32 → Int32 → Int32 → St → Prop) (K : Int32 → St → Prop) (v6 : Int32) (v7 : Int32) (s0 : Int32) (s1 : Int32) (st : St) : Prop :=
  w_X9_forgets  st (fun st155 => c59 (s1 + s0) v6 (v7 + 1) st155)
def w_X9_lots_b122 (x1 : Int32) (x2 : Int32) (x3 : Int32) (c59 : Int32 → Int32 → Int32 → St → Prop) (K : Int32 → St → Prop) (v5 : Int32) (v6 : Int32) (v7 : Int32) (st : St) : Prop :=
  w_X9_goesOn 10 st (fun st125 => (¬ x3 = 0 → w_X9_allHate  st125 (fun r148 st148 => w_X9_lots_b151 x1 x2 x3 c59 K v6 v7 r148 v5 st148)) ∧ (x3 = 0 → w_X9_openOnes  st125 (fun r135 st135 => w_X9_bits r135 st135 (fun r138 st138 => w_X9_lots_b151 x1 x2 x3 c59 K v6 v7 (r138 - v6) v5 st138))))
def w_X9_lots_L72q (x1 : Int32) (x2 : Int32) (x3 : Int32) (c59 : Int32 → Int32 → Int32 → St → Prop) (K : Int32 → St → Prop) (c72 : Int32 → Int32 → Int32 → Int32 → St → Prop) (v5 : Int32) (v6 : Int32) (v7 : Int32) (v8 : Int32) (st : St) : Prop :=
  ((st 0 8) ≤ v8 → w_X9_lots_b122 x1 x2 x3 c59 K v5 v6 v7 st) ∧ (¬ (st 0 8) ≤ v8 → ∃ n, w_X9_lots_L87 x1 x2 x3 c59 c72 K n v5 v6 v7 v8 (v8 + 1) st)
def w_X9_lots_L72 (x1 : Int32) (x2 : Int32) (x3 : Int32) (c59 : Int32 → Int32 → Int32 → St → Prop) (K : Int32 → St → Prop) : Nat → Int32 → Int32 → Int32 → Int32 → St → Prop
  | 0, _, _, _, _, _ => False
  | n + 1, v5, v6, v7, v8, st => w_X9_lots_L72q x1 x2 x3 c59 K (fun v5 v6 v7 v8 st => w_X9_lots_L72 x1 x2 x3 c59 K n v5 v6 v7 v8 st) v5 v6 v7 v8 st
def w_X9_lots_L59q (x1 : Int32) (x2 : Int32) (x3 : Int32)  (K : Int32 → St → Prop) (c59 : Int32 → Int32 → Int32 → St → Prop) (v5 : Int32) (v6 : Int32) (v7 : Int32) (st : St) : Prop :=
  (x1 ≤ v7 → K v5 st) ∧ (¬ x1 ≤ v7 → w_X9_thinks  st (fun st66 => ∃ n, w_X9_lots_L72 x1 x2 x3 c59 K n v5 v6 v7 0 st66))
def w_X9_lots_L59 (x1 : Int32) (x2 : Int32) (x3 : Int32)  (K : Int32 → St → Prop) : Nat → Int32 → Int32 → Int32 → St → Prop
  | 0, _, _, _, _ => False
  | n + 1, v5, v6, v7, st => w_X9_lots_L59q x1 x2 x3  K (fun v5 v6 v7 st => w_X9_lots_L59 x1 x2 x3  K n v5 v6 v7 st) v5 v6 v7 st
def w_X9_lots_b27 (x1 : Int32) (x2 : Int32) (x3 : Int32)  (K : Int32 → St → Prop) (v4 : Int32) (st : St) : Prop :=
  (v4 = 0 → w_X9_openOnes  (u2 st 0 30 x2) (fun r48 st48 => w_X9_bits r48 st48 (fun r51 st51 => ∃ n, w_X9_lots_L59 x1 x2 x3  K n 0 r51 0 st51))) ∧ (¬ v4 = 0 → w_X9_no v4 st (fun r35 st35 => K r35 st35))
def w_X9_lots (x1 : Int32) (x2 : Int32) (x3 : Int32) (st : St) (K : Int32 → St → Prop) : Prop :=
  w_X9_bound x1 1 20 st (fun r4 st4 => (¬ r4 = 0 → w_X9_lots_b27 x1 x2 x3  K r4 st4) ∧ (r4 = 0 → w_X9_isIn x3 0 1 st4 (fun r17 st17 => (¬ r17 = 0 → w_X9_lots_b27 x1 x2 x3  K r4 st17) ∧ (r17 = 0 → w_X9_lots_b27 x1 x2 x3  K (-2) st17))))
def w_X9_count (x1 : Int32) (st : St) (K : Int32 → St → Prop) : Prop :=
  w_X9_isIn x1 11 16 st (fun r5 st5 => (r5 = 0 → (x1 = 0 → K (st5 0 8) st5) ∧ (¬ x1 = 0 → (x1 = 1 → K (st5 0 9) st5) ∧ (¬ x1 = 1 → (x1 = 2 → K (st5 0 10) st5) ∧ (¬ x1 = 2 → (x1 = 3 → w_X9_openOnes  st5 (fun r84 st84 => K r84 st84)) ∧ (¬ x1 = 3 → (x1 = 4 → w_X9_allHate  st5 (fun r89 st89 => K r89 st89)) ∧ (¬ x1 = 4 → (x1 = 5 → K (st5 0 16) st5) ∧ (¬ x1 = 5 → (x1 = 6 → K (st5 0 29) st5) ∧ (¬ x1 = 6 → (x1 = 7 → K (st5 0 23) st5) ∧ (¬ x1 = 7 → K (-9) st5))))))))) ∧ (¬ r5 = 0 → vp_in (x1 - 10) 7 ∧ (K (st5 1 ((x1 - 10)).toNatClampNeg) st5)))
end
section
/-! pure part: folds, numbers, the leaves -/
def fo {σ : Type} : Nat → (Nat → σ → σ) → σ → σ
  | 0, _, s => s
  | n + 1, f, s => f n (fo n f s)
def fr {σ : Type} (a n : Nat) (f : Nat → σ → σ) (s : σ) : σ := fo (n - a) (fun i => f (a + i)) s
theorem fr_self {σ : Type} (a : Nat) (f : Nat → σ → σ) (s : σ) : fr a a f s = s := by simp [fr, fo]
theorem fr_succ {σ : Type} {a i : Nat} (h : a ≤ i) (f : Nat → σ → σ) (s : σ) : fr a (i + 1) f s = f i (fr a i f s) := by
  have e : i + 1 - a = (i - a) + 1 := by omega
  simp only [fr, e, fo]
  rw [Nat.add_sub_cancel' h]
/-- a loop that counts: its state goes by f -/
theorem lo_fr {σ : Type} (W : Nat → Nat → σ → Prop) (f : Nat → σ → σ) (I : Nat → σ → Prop) {e i0 : Nat} (s0 : σ) (hi : i0 ≤ e) (h0 : I i0 s0) (hI : ∀ i s, i0 ≤ i → i < e → I i s → I (i + 1) (f i s))
    (hx : I e (fr i0 e f s0) → ∀ n, W (n + 1) e (fr i0 e f s0)) (hs : ∀ n i s, i0 ≤ i → i < e → I i s → W n (i + 1) (f i s) → W (n + 1) i s) : ∃ n, W n i0 s0 := by
  have key : ∀ d i, i0 ≤ i → i + d = e → I i (fr i0 i f s0) → W (d + 1) i (fr i0 i f s0) := by
    intro d
    induction d with
    | zero =>
      intro i h1 h2 h3
      have : i = e := by omega
      subst this
      exact hx h3 0
    | succ d ih =>
      intro i h1 h2 h3
      have h4 := ih (i + 1) (by omega) (by omega) (by rw [fr_succ h1]; exact hI i _ h1 (by omega) h3)
      rw [fr_succ h1] at h4
      exact hs (d + 1) i _ h1 (by omega) h3 h4
  have h := key (e - i0) i0 (Nat.le_refl _) (by omega) (by rw [fr_self]; exact h0)
  rw [fr_self] at h
  exact ⟨_, h⟩
theorem fr_inv {σ : Type} (I : Nat → σ → Prop) (f : Nat → σ → σ) {e i0 : Nat} {s0 : σ} (hi : i0 ≤ e) (h0 : I i0 s0) (hI : ∀ i s, i0 ≤ i → i < e → I i s → I (i + 1) (f i s)) : I e (fr i0 e f s0) := by
  have key : ∀ d i, i0 ≤ i → i = i0 + d → i ≤ e → I i (fr i0 i f s0) := by
    intro d
    induction d with
    | zero => intro i h1 h2 h3; have : i = i0 := by omega
              subst this; rw [fr_self]; exact h0
    | succ d ih =>
      intro i h1 h2 h3
      obtain ⟨j, rfl⟩ : ∃ j, i = j + 1 := ⟨i - 1, by omega⟩
      rw [fr_succ (by omega)]
      exact hI j _ (by omega) (by omega) (ih j (by omega) (by omega) (by omega))
  exact key (e - i0) e hi (by omega) (Nat.le_refl _)
theorem n_lt0 {n : Nat} (h : n < 2147483648) : ¬ nI n < 0 := nI_pos h
theorem n_le0 {n : Nat} (h : n < 2147483648) : 0 ≤ nI n := nI_pos' h
theorem i_nlt {x y : Int32} : ¬ x < y ↔ y ≤ x := Int32.not_lt
theorem i_nle {x y : Int32} : ¬ x ≤ y ↔ y < x := Int32.not_le
def atF (n : Nat) (f : Nat → Int32) (x : Int32) : Int32 := if x < 0 then 0 else if nI n ≤ x then 0 else f x.toNatClampNeg
theorem vp_in_of2 {n : Nat} (hn : n < 2147483648) {x : Int32} (h1 : ¬ x < 0) (h2 : ¬ nI n ≤ x) : vp_in x n := by
  obtain ⟨j, hj, rfl⟩ := nI_of h1
  have : j < n := Nat.not_le.mp fun q => h2 (nI_le q hj)
  exact vp_in_nI this hn
theorem s_atX {k n : Nat} {x : Int32} {st : St} {K : Int32 → St → Prop} (hn : n < 2147483648) (h : K (atF n (st k) x) st) : w_X8_at k n x st K := by
  unfold w_X8_at
  refine ⟨fun h1 => ?_, fun h1 => ⟨fun h2 => ?_, fun h2 => ⟨vp_in_of2 hn h1 h2, ?_⟩⟩⟩
  · simpa [atF, h1] using h
  · simpa [atF, h1, h2] using h
  · simpa [atF, h1, h2] using h
theorem atF_in {n i : Nat} (hi : i < n) (hn : n < 2147483648) (f : Nat → Int32) : atF n f (nI i) = f i := by
  simp only [atF, if_neg (n_lt0 (show i < 2147483648 by omega)), if_neg (nI_ge hi hn)]
  rw [nI_clamp (show i < 2 ^ 31 by omega)]
theorem s_at {k n i : Nat} {st : St} {K : Int32 → St → Prop} (hi : i < n) (hn : n < 2147483648) (h : K (st k i) st) : w_X8_at k n (nI i) st K :=
  s_atX hn (by rw [atF_in hi hn]; exact h)
theorem s_put {k n i : Nat} {v : Int32} {st : St} {K : St → Prop} (hi : i < n) (hn : n < 2147483648) (h : K (u2 st k i v)) : w_X8_put k n (nI i) v st K := by
  unfold w_X8_put
  refine ⟨fun h1 => absurd h1 (n_lt0 (by omega)), fun _ => ⟨fun h2 => absurd h2 (nI_ge hi hn), fun _ => ⟨vp_in_nI hi hn, ?_⟩⟩⟩
  rw [nI_clamp (show i < 2 ^ 31 by omega)]
  exact h
def rangeF (v a b : Int32) : Int32 := if v < a then -4 else if b < v then -6 else 0
theorem s_range {v a b : Int32} {st : St} {K : Int32 → St → Prop} (h : K (rangeF v a b) st) : w_X8_range v a b st K := by
  unfold w_X8_range
  simp only [rangeF, i_nle] at *
  refine ⟨fun h1 => ⟨fun h2 => ?_, fun h2 => ?_⟩, fun h1 => ?_⟩
  · rw [if_neg (i_nlt.mpr h1), if_neg (i_nlt.mpr h2)] at h; exact h
  · rw [if_neg (i_nlt.mpr h1), if_pos h2] at h; exact h
  · rw [if_pos h1] at h; exact h
def choiceF (v g : Int32) : Int32 := if v < 0 then -2 else if g < v then -2 else 0
theorem s_choice {v g : Int32} {st : St} {K : Int32 → St → Prop} (h : K (choiceF v g) st) : w_X8_choice v g st K := by
  unfold w_X8_choice
  refine ⟨fun h1 => ?_, fun h1 => ⟨fun h2 => ?_, fun h2 => ?_⟩⟩ <;> simpa [choiceF, h1, *] using h
def firstF (a b c : Int32) : Int32 := if a = 0 then (if b = 0 then c else b) else a
theorem s_firstOf {a b c : Int32} {st : St} {K : Int32 → St → Prop} (h : K (firstF a b c) st) : w_X8_firstOf a b c st K := by
  unfold w_X8_firstOf
  refine ⟨fun h1 => ⟨fun h2 => ?_, fun h2 => ?_⟩, fun h1 => ?_⟩ <;> simpa [firstF, h1, *] using h
def bitF (b x : Int32) : Int32 := if x < 0 then 0 else if 31 ≤ x then 0 else (b >>> (x &&& 31)) &&& 1
theorem s_bit {b x : Int32} {st : St} {K : Int32 → St → Prop} (h : K (bitF b x) st) : w_X8_bit b x st K := by
  unfold w_X8_bit
  refine ⟨fun h1 => ?_, fun h1 => ⟨fun h2 => ?_, fun h2 => ?_⟩⟩ <;> simpa [bitF, h1, *] using h
def townF (x : Int32) : Int32 := if x < 0 then 0 else if 4 ≤ x then 0 else 1
theorem s_isTown {x : Int32} {st : St} {K : Int32 → St → Prop} (h : K (townF x) st) : w_X8_isTown x st K := by
  unfold w_X8_isTown
  refine ⟨fun h1 => ?_, fun h1 => ⟨fun h2 => ?_, fun h2 => ?_⟩⟩ <;> simpa [townF, h1, *] using h
theorem s_twoName {p q : Nat} {st : St} {K : Int32 → St → Prop} (hp : p < 6) (hq : q < 6) (h : K (nI (10 * min p q + max p q)) st) : w_X8_twoName (nI p) (nI q) st K := by
  unfold w_X8_twoName
  have e : ∀ p, p < 6 → ∀ q, q < 6 → (10 * (if nI q < nI p then nI q else nI p)) + (if nI p < nI q then nI q else nI p) = nI (10 * min p q + max p q) := by decide +kernel
  rw [e p hp q hq]; exact h
theorem s_copy {k n k' : Nat} {st : St} {K : St → Prop} (hn : n < 2147483648) (h : K (u1 st k' (va_cpy (st k) (st k') 0 0 n))) : w_X8_copy k n k' n st K := by
  unfold w_X8_copy
  have e : (if nI n < nI n then nI n else nI n) = nI n := by split <;> rfl
  rw [e, nI_clamp (show n < 2 ^ 31 from hn)]
  exact ⟨⟨n_lt0 hn, Nat.le_refl _, Nat.le_refl _⟩, h⟩
def pc (n : Nat) : Nat := (List.range 10).foldl (fun s i => s + (n / 2 ^ i) % 2) 0
def ushF (x : Int32) (s : Int32) : Int32 := (x.toUInt32 >>> (s.toUInt32 &&& Int32.toUInt32 31)).toInt32
def bc1 (x : Int32) : Int32 := x - (ushF x 1 &&& 1431655765)
def bc2 (a : Int32) : Int32 := (a &&& 858993459) + (ushF a 2 &&& 858993459)
def bc3 (b : Int32) : Int32 := (b + ushF b 4) &&& 252645135
def bc4 (d : Int32) : Int32 := d + ushF d 8
def bc5 (e : Int32) : Int32 := e + ushF e 16
def bcF (x : Int32) : Int32 := bc5 (bc4 (bc3 (bc2 (bc1 x)))) &&& 63
theorem bcF_pc : ∀ n, n < 256 → bcF (nI n) = nI (pc n) := by decide +kernel
theorem s_bitCount {n : Nat} {st : St} {K : Int32 → St → Prop} (hn : n < 256) (h : K (nI (pc n)) st) : w_J6_bitCount_0f7a4 (nI n) st K := by
  rw [← bcF_pc n hn] at h
  exact h
end
section
/-! pure part: a country by itself, and where it lies -/
abbrev Ct : Type := Nat → Nat → Int32
def cv (st : St) (k : Nat) : Ct := fun j => if j < 8 then st (k + j) else fun _ => 0
def sv (st : St) (k : Nat) (c : Ct) : St := fun i => if k ≤ i ∧ i < k + 8 then c (i - k) else st i
def nC (c : Ct) : Prop := ∀ j, 8 ≤ j → c j = fun _ => 0
theorem sv_at {st : St} {k : Nat} {c : Ct} {j : Nat} (hj : j < 8) : sv st k c (k + j) = c j := by
  unfold sv
  rw [if_pos ⟨by omega, by omega⟩, Nat.add_sub_cancel_left]
theorem sv_0 {st : St} {k : Nat} {c : Ct} : sv st k c k = c 0 := sv_at (j := 0) (by decide)
theorem sv_off {st : St} {k : Nat} {c : Ct} {i : Nat} (h : i < k ∨ k + 8 ≤ i) : sv st k c i = st i := by
  unfold sv
  rw [if_neg (by omega)]
theorem cv_sv {st : St} {k : Nat} {c : Ct} (h : nC c) : cv (sv st k c) k = c := by
  funext j
  unfold cv
  by_cases hj : j < 8
  · rw [if_pos hj, sv_at hj]
  · rw [if_neg hj, h j (by omega)]
theorem cv_off {st : St} {k k' : Nat} {c : Ct} (h : k' + 8 ≤ k ∨ k + 8 ≤ k') : cv (sv st k c) k' = cv st k' := by
  funext j
  unfold cv
  by_cases hj : j < 8
  · rw [if_pos hj, if_pos hj, sv_off (by omega)]
  · rw [if_neg hj, if_neg hj]
theorem sv_cv {st : St} {k : Nat} : sv st k (cv st k) = st := by
  funext i
  unfold sv cv
  split
  next h =>
    rw [if_pos (by omega)]
    congr 1
    omega
  next => rfl
theorem sv_sv {st : St} {k : Nat} {c c' : Ct} : sv (sv st k c) k c' = sv st k c' := by
  funext i
  unfold sv
  split <;> rfl
theorem nC_cv {st : St} {k : Nat} : nC (cv st k) := fun j h => by simp [cv, Nat.not_lt.mpr h]
theorem sv_u1 {st : St} {k : Nat} {c : Ct} {j : Nat} (hj : j < 8) (f : Nat → Int32) : u1 (sv st k c) (k + j) f = sv st k (u1 c j f) := by
  funext a
  unfold u1 sv
  by_cases ha : a = k + j
  · subst ha
    rw [if_pos rfl, if_pos ⟨by omega, by omega⟩, Nat.add_sub_cancel_left]
    exact (if_pos rfl).symm
  · rw [if_neg ha]
    by_cases h : k ≤ a ∧ a < k + 8
    · rw [if_pos h, if_pos h]
      exact (if_neg (by omega)).symm
    · rw [if_neg h, if_neg h]
theorem sv_u2 {st : St} {k : Nat} {c : Ct} {j : Nat} (hj : j < 8) (i : Nat) (v : Int32) : u2 (sv st k c) (k + j) i v = sv st k (u2 c j i v) := by
  unfold u2
  rw [sv_at hj, sv_u1 hj]
theorem sv_u20 {st : St} {k : Nat} {c : Ct} (i : Nat) (v : Int32) : u2 (sv st k c) k i v = sv st k (u2 c 0 i v) := sv_u2 (j := 0) (by decide) i v
theorem nC_u1 {c : Ct} (h : nC c) {j : Nat} (hj : j < 8) (f : Nat → Int32) : nC (u1 c j f) := fun i hi => by
  unfold u1
  rw [if_neg (by omega)]
  exact h i hi
theorem nC_u2 {c : Ct} (h : nC c) {j : Nat} (hj : j < 8) (i : Nat) (v : Int32) : nC (u2 c j i v) := nC_u1 h hj _
theorem u2_same {st : St} {k i : Nat} {v : Int32} : u2 st k i v k i = v := by simp [u2, u1, upd]
theorem u2_ne {st : St} {k i k' i' : Nat} {v : Int32} (h : k' ≠ k ∨ i' ≠ i) : u2 st k i v k' i' = st k' i' := by
  unfold u2 u1 upd
  by_cases h1 : k' = k
  · subst h1
    have h2 : i' ≠ i := h.resolve_left (fun z => z rfl)
    simp [h2]
  · simp [h1]
theorem u2_off {st : St} {k i k' : Nat} {v : Int32} (h : k' ≠ k) : u2 st k i v k' = st k' := by
  unfold u2 u1
  rw [if_neg h]
def hI (p q : Nat) : Nat := 6 * min p q + max p q
theorem hI_lt {p q : Nat} (hp : p < 6) (hq : q < 6) : hI p q < 36 := by unfold hI; omega
theorem hI_e : ∀ p, p < 6 → ∀ q, q < 6 → (((if nI q < nI p then nI q else nI p) * 6) + (if nI p < nI q then nI q else nI p)) = nI (hI p q) := by decide +kernel
theorem s_hateOf {st : St} {k : Nat} {c : Ct} {p q : Nat} {K : Int32 → St → Prop} (hp : p < 6) (hq : q < 6) (h : K (c 4 (hI p q)) (sv st k c)) : w_X1_hateOf k (nI p) (nI q) (sv st k c) K := by
  unfold w_X1_hateOf
  rw [hI_e p hp q hq]
  refine s_at (hI_lt hp hq) (by decide) ?_
  rw [sv_at (by decide)]
  exact h
def heldF (v : Int32) : Int32 := if 0 < (if v < 99 then v else 99) then (if v < 99 then v else 99) else 0
theorem s_setHate {st : St} {k : Nat} {c : Ct} {p q : Nat} {v : Int32} {K : St → Prop} (hp : p < 6) (hq : q < 6) (h : K (sv st k (u2 c 4 (hI p q) (heldF v)))) : w_X1_setHate k (nI p) (nI q) v (sv st k c) K := by
  unfold w_X1_setHate
  rw [hI_e p hp q hq]
  refine s_put (hI_lt hp hq) (by decide) ?_
  rw [sv_u2 (by decide)]
  exact h
end
section
/-! pure part: a week of a country (the class's side) -/
theorem sv_1 {st : St} {k : Nat} {c : Ct} : sv st k c (k + 1) = c 1 := sv_at (by decide)
theorem sv_2 {st : St} {k : Nat} {c : Ct} : sv st k c (k + 2) = c 2 := sv_at (by decide)
theorem sv_3 {st : St} {k : Nat} {c : Ct} : sv st k c (k + 3) = c 3 := sv_at (by decide)
theorem sv_4 {st : St} {k : Nat} {c : Ct} : sv st k c (k + 4) = c 4 := sv_at (by decide)
theorem sv_5 {st : St} {k : Nat} {c : Ct} : sv st k c (k + 5) = c 5 := sv_at (by decide)
theorem sv_6 {st : St} {k : Nat} {c : Ct} : sv st k c (k + 6) = c 6 := sv_at (by decide)
theorem sv_7 {st : St} {k : Nat} {c : Ct} : sv st k c (k + 7) = c 7 := sv_at (by decide)
def fadingF (k f : Int32) : Int32 := if k = 1 then 0 else if k = 2 then 2 else if k = 3 then f / 2 + 1 else if k = 4 then 0 else if k = 5 then 3 else 1
theorem s_fading {k f : Int32} {st : St} {K : Int32 → St → Prop} (h : K (fadingF k f) st) : w_X2_fading k f st K := by
  unfold w_X2_fading
  refine ⟨fun h1 => ?_, fun h1 => ⟨fun h2 => ?_, fun h2 => ⟨fun h3 => ?_, fun h3 => ⟨fun h4 => ?_, fun h4 => ⟨fun h5 => ?_, fun h5 => ?_⟩⟩⟩⟩⟩ <;> simpa [fadingF, *] using h
def stirringF (k f : Int32) : Int32 := if k = 1 then 1 else if k = 4 then 1 + f / 4 else 0
theorem s_stirring {k f : Int32} {st : St} {K : Int32 → St → Prop} (h : K (stirringF k f) st) : w_X2_stirring k f st K := by
  unfold w_X2_stirring
  refine ⟨fun h1 => ?_, fun h1 => ⟨fun h2 => ?_, fun h2 => ?_⟩⟩ <;> simpa [stirringF, *] using h
def wagingF (k f : Int32) : Int32 := if k = 1 then 2 * (f + 1) else if k = 2 then 5 else if k = 3 then 0 else if k = 4 then 2 * (f + 1) - 1 else if k = 5 then 2 else f + 1
theorem s_wage {k f : Int32} {st : St} {K : Int32 → St → Prop} (h : K (wagingF k f) st) : w_X2_wage k f st K := by
  unfold w_X2_wage
  refine ⟨fun h1 => ?_, fun h1 => ⟨fun h2 => ?_, fun h2 => ⟨fun h3 => ?_, fun h3 => ⟨fun h4 => ?_, fun h4 => ⟨fun h5 => ?_, fun h5 => ?_⟩⟩⟩⟩⟩ <;> simpa [wagingF, *] using h
def fadeF (c : Ct) (p : Nat) : Int32 := fadingF (c 1 p) (c 2 p)
def stirF (c : Ct) (p : Nat) : Int32 := stirringF (c 1 p) (c 2 p)
def wageF (c : Ct) (p : Nat) : Int32 := wagingF (c 1 p) (c 2 p)
theorem s_fadeOf {st : St} {k : Nat} {c : Ct} {p : Nat} {K : Int32 → St → Prop} (hp : p < 6) (h : K (fadeF c p) (sv st k c)) : w_X1_fadeOf k (nI p) (sv st k c) K := by
  unfold w_X1_fadeOf
  refine s_at hp (by decide) (s_at hp (by decide) (s_fading ?_))
  rw [sv_1, sv_2]
  exact h
theorem s_stirOf {st : St} {k : Nat} {c : Ct} {p : Nat} {K : Int32 → St → Prop} (hp : p < 6) (h : K (stirF c p) (sv st k c)) : w_X1_stirOf k (nI p) (sv st k c) K := by
  unfold w_X1_stirOf
  refine s_at hp (by decide) (s_at hp (by decide) (s_stirring ?_))
  rw [sv_1, sv_2]
  exact h
theorem s_wageOf {st : St} {k : Nat} {c : Ct} {p : Nat} {K : Int32 → St → Prop} (hp : p < 6) (h : K (wageF c p) (sv st k c)) : w_X1_wageOf k (nI p) (sv st k c) K := by
  unfold w_X1_wageOf
  refine s_at hp (by decide) (s_at hp (by decide) (s_wage ?_))
  rw [sv_1, sv_2]
  exact h
def chgF (c : Ct) (p q : Nat) : Int32 := if c 3 p = -1 then 0 else if c 3 q = -1 then 0 else if c 3 p = c 3 q then (-fadeF c p) - fadeF c q else stirF c p + stirF c q
theorem s_change {st : St} {k : Nat} {c : Ct} {p q : Nat} {K : Int32 → St → Prop} (hp : p < 6) (hq : q < 6) (h : K (chgF c p q) (sv st k c)) : w_X1_change k (nI p) (nI q) (sv st k c) K := by
  unfold w_X1_change
  refine s_at hp (by decide) (s_at hq (by decide) ?_)
  rw [sv_3]
  unfold chgF at h
  refine ⟨fun h1 => ?_, fun h1 => ⟨fun h2 => ⟨fun h3 => ?_, fun h3 => ?_⟩, fun h2 => ?_⟩⟩
  · rw [if_pos h1] at h; exact h
  · rw [if_neg h1, if_neg h2, if_neg h3] at h; exact s_stirOf hp (s_stirOf hq h)
  · rw [if_neg h1, if_neg h2, if_pos h3] at h; exact s_fadeOf hp (s_fadeOf hq h)
  · rw [if_neg h1, if_pos h2] at h; exact h
def stepH (p q : Nat) (c : Ct) : Ct := u2 c 4 (hI p q) (heldF (c 4 (hI p q) + chgF c p q))
theorem stepH_off {p q : Nat} {c : Ct} {j : Nat} (h : j ≠ 4) : stepH p q c j = c j := u2_off h
def hatesF (n : Nat) (c : Ct) : Ct := fr 0 n (fun p c => fr (p + 1) n (fun q c => stepH p q c) c) c
theorem nI_inc (p : Nat) : nI p + 1 = nI (p + 1) := nI_1 p
theorem s_pw24 {st : St} {k p n : Nat} {c : Ct} {c12 : Int32 → St → Prop} {K : Int32 → St → Prop} (hp : p < n) (hn : n ≤ 6) (h7 : c 0 7 = nI n) (h : c12 (nI (p + 1)) (sv st k (fr (p + 1) n (fun q c => stepH p q c) c))) :
    ∃ m, w_X1_passWeek_L24 k c12 K m (nI p) (nI (p + 1)) (sv st k c) := by
  refine lo_fr (fun m q c => w_X1_passWeek_L24 k c12 K m (nI p) (nI q) (sv st k c)) (fun q c => stepH p q c) (fun _ c => c 0 7 = nI n) c (show p + 1 ≤ n by omega) h7 (fun i s _ _ h => by rw [stepH_off (by decide)]; exact h) (fun h7 m => ?_) (fun m q s h1 h2 h7 hw => ?_)
  · rw [w_X1_passWeek_L24, w_X1_passWeek_L24q, sv_0, h7]
    refine ⟨fun _ => ?_, fun h9 => absurd (nI_le (Nat.le_refl n) (by omega)) h9⟩
    rw [w_X1_passWeek_b57, nI_inc]
    exact h
  · rw [w_X1_passWeek_L24, w_X1_passWeek_L24q, sv_0, h7]
    refine ⟨fun h9 => absurd h9 (nI_ge h2 (by omega)), fun _ => ?_⟩
    refine s_hateOf (by omega) (by omega) (s_change (by omega) (by omega) (s_setHate (by omega) (by omega) ?_))
    rw [nI_inc]
    exact hw
theorem fr_comp {n a : Nat} {c : Ct} {f : Nat → Ct → Ct} {j : Nat} (hf : ∀ i c, f i c j = c j) (h : a ≤ n) : fr a n f c j = c j :=
  fr_inv (fun _ (x : Ct) => x j = c j) f h rfl (fun i s _ _ e => by rw [hf]; exact e)
theorem rowH_off {n p : Nat} {c : Ct} {j : Nat} (hp : p < n) (h : j ≠ 4) : fr (p + 1) n (fun q c => stepH p q c) c j = c j := fr_comp (fun i c => stepH_off h) (by omega)
theorem s_pw12 {st : St} {k n : Nat} {c : Ct} {K : Int32 → St → Prop} (hn : n ≤ 6) (h7 : c 0 7 = nI n) (h : w_X1_passWeek_b63 k K (sv st k (hatesF n c))) :
    ∃ m, w_X1_passWeek_L12 k K m 0 (sv st k c) := by
  have e := lo_fr (fun m p c => w_X1_passWeek_L12 k K m (nI p) (sv st k c)) (fun p c => fr (p + 1) n (fun q c => stepH p q c) c) (fun _ c => c 0 7 = nI n) c (Nat.zero_le n) h7 (fun i s _ h2 h => by rw [rowH_off h2 (by decide)]; exact h) (fun h7 m => ?_) (fun m p s h1 h2 h7 hw => ?_)
  · exact e
  · rw [w_X1_passWeek_L12, w_X1_passWeek_L12q, sv_0, h7]
    refine ⟨fun _ => h, fun h9 => absurd (nI_le (Nat.le_refl n) (by omega)) h9⟩
  · rw [w_X1_passWeek_L12, w_X1_passWeek_L12q, sv_0, h7]
    refine ⟨fun h9 => absurd h9 (nI_ge h2 (by omega)), fun _ => ?_⟩
    rw [nI_inc]
    exact s_pw24 h2 hn h7 hw
end
section
/-! pure part: who opens what, and the letters of a week -/
def oI : Option (Nat × Nat) → Int32
  | none => -9
  | some (p, q) => nI (10 * p + q)
theorem s_bothIn {st : St} {k : Nat} {c : Ct} {t : Int32} {p q : Nat} {K : Int32 → St → Prop} (hp : p < 6) (hq : q < 6) (h : K (if c 3 p = t ∧ c 3 q = t then 1 else 0) (sv st k c)) : w_X1_areBothIn k t (nI p) (nI q) (sv st k c) K := by
  unfold w_X1_areBothIn
  refine s_at hp (by decide) ?_
  rw [sv_3]
  refine ⟨fun h1 => ?_, fun h1 => s_at hq (by decide) ?_⟩
  · rw [if_neg (fun z => h1 z.1)] at h; exact h
  · rw [sv_3]
    refine ⟨fun h2 => ?_, fun h2 => ?_⟩
    · rw [if_neg (fun z => h2 z.2)] at h; exact h
    · rw [if_pos ⟨h1, h2⟩] at h; exact h
def oS (c : Ct) (t d : Int32) (p q : Nat) (s : Option (Nat × Nat) × Int32) : Option (Nat × Nat) × Int32 :=
  if c 3 p = t ∧ c 3 q = t then (if c 4 (hI p q) < d then s else if s.2 ≤ c 4 (hI p q) then s else (some (p, q), c 4 (hI p q))) else s
def opS (c : Ct) (n : Nat) (t d : Int32) : Option (Nat × Nat) × Int32 := fr 0 n (fun p s => fr (p + 1) n (fun q s => oS c t d p q s) s) (none, 100)
theorem m10 {p q : Nat} (h : p < q) : 10 * min p q + max p q = 10 * p + q := by omega
theorem s_op44 {st : St} {k n p : Nat} {c : Ct} {t d x1 : Int32} {s : Option (Nat × Nat) × Int32} {c29 : Int32 → Int32 → Int32 → Int32 → Int32 → St → Prop} {K : Int32 → St → Prop} (hp : p < n) (hn : n ≤ 6) (h7 : c 0 7 = nI n) (hd : (-9) < d)
    (h : c29 t d (oI (fr (p + 1) n (fun q s => oS c t d p q s) s).1) (fr (p + 1) n (fun q s => oS c t d p q s) s).2 (nI (p + 1)) (sv st k c)) : ∃ m, w_X1_opener_L44 k x1 c29 K m t d (oI s.1) s.2 (nI p) (nI (p + 1)) (sv st k c) := by
  refine lo_fr (fun m q s => w_X1_opener_L44 k x1 c29 K m t d (oI s.1) s.2 (nI p) (nI q) (sv st k c)) (fun q s => oS c t d p q s) (fun _ _ => True) s (show p + 1 ≤ n by omega) trivial (fun _ _ _ _ _ => trivial) (fun _ m => ?_) (fun m q s h1 h2 _ hw => ?_)
  · rw [w_X1_opener_L44, w_X1_opener_L44q, sv_0, h7]
    refine ⟨fun _ => ?_, fun h9 => absurd (nI_le (Nat.le_refl n) (by omega)) h9⟩
    rw [w_X1_opener_b112, nI_inc]
    exact h
  · rw [w_X1_opener_L44, w_X1_opener_L44q, sv_0, h7]
    refine ⟨fun h9 => absurd h9 (nI_ge h2 (by omega)), fun _ => ?_⟩
    refine s_bothIn (by omega) (by omega) ?_
    by_cases hb : c 3 p = t ∧ c 3 q = t
    · rw [if_pos hb]
      refine ⟨fun h9 => absurd h9 (by decide), fun _ => s_hateOf (by omega) (by omega) ?_⟩
      simp only [oS, if_pos hb] at hw
      rw [w_X1_opener_b78, w_X1_opener_b106, nI_inc]
      refine ⟨fun h3 => ?_, fun h3 => ⟨fun h4 => ?_, fun h4 => s_twoName (by omega) (by omega) ?_⟩⟩
      · rw [if_pos h3] at hw; exact hw
      · rw [if_neg h3, if_pos h4] at hw; exact hw
      · rw [if_neg h3, if_neg h4] at hw
        rw [w_X1_opener_b106, nI_inc, m10 (by omega)]
        exact hw
    · rw [if_neg hb]
      refine ⟨fun _ => ?_, fun h9 => absurd rfl h9⟩
      simp only [oS, if_neg hb] at hw
      rw [w_X1_opener_b78, w_X1_opener_b106, nI_inc]
      exact ⟨fun _ => hw, fun h3 => absurd hd h3⟩
theorem s_op29 {st : St} {k n : Nat} {c : Ct} {t d x1 : Int32} {K : Int32 → St → Prop} (hn : n ≤ 6) (h7 : c 0 7 = nI n) (hd : (-9) < d) (h : K (oI (opS c n t d).1) (sv st k c)) :
    ∃ m, w_X1_opener_L29 k x1 K m t d (-9) 100 0 (sv st k c) := by
  refine lo_fr (fun m p s => w_X1_opener_L29 k x1 K m t d (oI s.1) s.2 (nI p) (sv st k c)) (fun p s => fr (p + 1) n (fun q s => oS c t d p q s) s) (fun _ _ => True) (none, 100) (Nat.zero_le n) trivial (fun _ _ _ _ _ => trivial) (fun _ m => ?_) (fun m p s h1 h2 _ hw => ?_)
  · rw [w_X1_opener_L29, w_X1_opener_L29q, sv_0, h7]
    exact ⟨fun _ => h, fun h9 => absurd (nI_le (Nat.le_refl n) (by omega)) h9⟩
  · rw [w_X1_opener_L29, w_X1_opener_L29q, sv_0, h7]
    refine ⟨fun h9 => absurd h9 (nI_ge h2 (by omega)), fun _ => ?_⟩
    rw [nI_inc]
    exact s_op44 h2 hn h7 hd hw
def openerF (c : Ct) (n l : Nat) : Option (Nat × Nat) := (opS c n (c 6 l) (c 5 l)).1
theorem s_opener {st : St} {k n l : Nat} {c : Ct} {K : Int32 → St → Prop} (hl : l < 6) (hn : n ≤ 6) (h7 : c 0 7 = nI n) (hd : (-9) < c 5 l) (h : K (oI (openerF c n l)) (sv st k c)) : w_X1_opener k (nI l) (sv st k c) K := by
  unfold w_X1_opener
  refine s_at hl (by decide) (s_at hl (by decide) ?_)
  rw [sv_6, sv_5]
  exact s_op29 hn h7 hd h
theorem opS_in {c : Ct} {n : Nat} {t d : Int32} : ∀ a b, (opS c n t d).1 = some (a, b) → a < b ∧ b < n ∧ c 3 a = t ∧ c 3 b = t ∧ d ≤ c 4 (hI a b) := by
  refine fr_inv (fun _ (s : Option (Nat × Nat) × Int32) => ∀ a b, s.1 = some (a, b) → a < b ∧ b < n ∧ c 3 a = t ∧ c 3 b = t ∧ d ≤ c 4 (hI a b)) _ (Nat.zero_le n) (fun a b h => by cases h) (fun p s _ hp hs => ?_)
  refine fr_inv (fun _ (s : Option (Nat × Nat) × Int32) => ∀ a b, s.1 = some (a, b) → a < b ∧ b < n ∧ c 3 a = t ∧ c 3 b = t ∧ d ≤ c 4 (hI a b)) _ (show p + 1 ≤ n by omega) hs (fun q s h1 h2 hs => ?_)
  unfold oS
  split
  next hb =>
    split
    next => exact hs
    next h3 =>
      split
      next => exact hs
      next =>
        intro a b e
        cases e
        exact ⟨by omega, h2, hb.1, hb.2, i_nlt.mp h3⟩
  next => exact hs
theorem s_isOpen {st : St} {k : Nat} {c : Ct} {x : Int32} {K : Int32 → St → Prop} (h : K (if bitF (c 0 9) x = 1 then 1 else 0) (sv st k c)) : w_X1_isOpen k x (sv st k c) K := by
  unfold w_X1_isOpen
  refine s_bit ?_
  rw [sv_0]
  refine ⟨fun h1 => ?_, fun h1 => ?_⟩
  · rw [if_neg h1] at h; exact h
  · rw [if_pos h1] at h; exact h
theorem o10 : ∀ p, p < 6 → ∀ q, q < 6 → nI (10 * p + q) / 10 = nI p ∧ nI (10 * p + q) - nI (10 * p + q) / 10 * 10 = nI q ∧ ¬ nI (10 * p + q) = -9 := by decide +kernel
def lbit (l : Nat) : Int32 := (1 : Int32) <<< (nI l &&& 31)
def opens (c : Ct) (l p q : Nat) : Ct := u2 (u2 (u2 c 0 9 (c 0 9 ||| lbit l)) 7 l (nI (10 * p + q))) 4 (hI p q) (heldF (c 4 (hI p q) - 5))
def stepL (n l : Nat) (s : Int32 × Ct) : Int32 × Ct := if bitF (s.2 0 9) (nI l) = 1 then s else match openerF s.2 n l with
  | none => s
  | some (p, q) => (s.1 ||| lbit l, opens s.2 l p q)
theorem opens_off {c : Ct} {l p q j : Nat} (h0 : j ≠ 0) (h4 : j ≠ 4) (h7 : j ≠ 7) : opens c l p q j = c j := by
  unfold opens
  rw [u2_off h4, u2_off h7, u2_off h0]
theorem opens_0 {c : Ct} {l p q i : Nat} (h : i ≠ 9) : opens c l p q 0 i = c 0 i := by
  unfold opens
  rw [u2_off (by decide), u2_off (by decide), u2_ne (Or.inr h)]
theorem stepL_off {n l : Nat} {s : Int32 × Ct} {j : Nat} (h0 : j ≠ 0) (h4 : j ≠ 4) (h7 : j ≠ 7) : (stepL n l s).2 j = s.2 j := by
  unfold stepL
  split
  · rfl
  · split
    · rfl
    · exact opens_off h0 h4 h7
theorem stepL_0 {n l : Nat} {s : Int32 × Ct} {i : Nat} (h : i ≠ 9) : (stepL n l s).2 0 i = s.2 0 i := by
  unfold stepL
  split
  · rfl
  · split
    · rfl
    next p q _ =>
      show opens s.2 l p q 0 i = s.2 0 i
      exact opens_0 h
def dOk (nL : Nat) (c : Ct) : Prop := ∀ l, l < nL → (-9) < c 5 l
theorem s_pw67 {st : St} {k n nL : Nat} {c : Ct} {K : Int32 → St → Prop} (hn : n ≤ 6) (hL : nL ≤ 6) (h7 : c 0 7 = nI n) (h8 : c 0 8 = nI nL) (hd : dOk nL c) (h : K (fr 0 nL (stepL n) (0, c)).1 (sv st k (fr 0 nL (stepL n) (0, c)).2)) :
    ∃ m, w_X1_passWeek_L67 k K m 0 0 (sv st k c) := by
  refine lo_fr (fun m l (s : Int32 × Ct) => w_X1_passWeek_L67 k K m s.1 (nI l) (sv st k s.2)) (stepL n) (fun _ s => s.2 0 7 = nI n ∧ s.2 0 8 = nI nL ∧ dOk nL s.2) (0, c) (Nat.zero_le nL) ⟨h7, h8, hd⟩
    (fun l s _ _ hI => ⟨by rw [stepL_0 (by decide)]; exact hI.1, by rw [stepL_0 (by decide)]; exact hI.2.1, fun j hj => by rw [stepL_off (by decide) (by decide) (by decide)]; exact hI.2.2 j hj⟩) (fun hI m => ?_) (fun m l s _ h2 hI hw => ?_)
  · rw [w_X1_passWeek_L67, w_X1_passWeek_L67q, sv_0, hI.2.1]
    exact ⟨fun _ => h, fun h9 => absurd (nI_le (Nat.le_refl nL) (by omega)) h9⟩
  · rw [w_X1_passWeek_L67, w_X1_passWeek_L67q, sv_0, hI.2.1]
    refine ⟨fun h9 => absurd h9 (nI_ge h2 (by omega)), fun _ => s_isOpen ?_⟩
    by_cases hb : bitF (s.2 0 9) (nI l) = 1
    · rw [if_pos hb]
      refine ⟨fun h9 => absurd h9 (by decide), fun _ => ?_⟩
      simp only [stepL, if_pos hb] at hw
      rw [w_X1_passWeek_b93, w_X1_passWeek_b153, nI_inc]
      exact ⟨fun _ => hw, fun h9 => absurd rfl h9⟩
    · rw [if_neg hb]
      refine ⟨fun _ => s_opener (by omega) hn hI.1 (hI.2.2 l h2) ?_, fun h9 => absurd rfl h9⟩
      simp only [stepL, if_neg hb] at hw
      rw [w_X1_passWeek_b93, w_X1_passWeek_b153, nI_inc]
      cases ho : openerF s.2 n l with
      | none =>
        rw [ho] at hw
        exact ⟨fun _ => hw, fun h9 => absurd rfl h9⟩
      | some pq =>
        obtain ⟨p, q⟩ := pq
        rw [ho] at hw
        have hpq := opS_in p q ho
        have h10 := o10 p (by omega) q (by omega)
        refine ⟨fun h9 => absurd h9 h10.2.2, fun _ => ?_⟩
        show w_X8_put (k + 7) 6 (nI l) (nI (10 * p + q)) _ _
        rw [sv_u20, sv_0]
        refine s_put (by omega) (by decide) ?_
        rw [sv_u2 (by decide)]
        show w_X1_hateOf k (nI (10 * p + q) / 10) (nI (10 * p + q) - nI (10 * p + q) / 10 * 10) _ _
        rw [h10.2.1, h10.1]
        refine s_hateOf (by omega) (by omega) ?_
        show w_X1_setHate k (nI (10 * p + q) / 10) (nI (10 * p + q) - nI (10 * p + q) / 10 * 10) _ _ _
        rw [h10.2.1, h10.1]
        refine s_setHate (by omega) (by omega) ?_
        rw [u2_off (by decide), u2_off (by decide), w_X1_passWeek_b153, nI_inc]
        exact hw
def weekF (n nL : Nat) (c : Ct) : Int32 × Ct := fr 0 nL (stepL n) (0, hatesF n (u2 c 0 10 (c 0 10 + 1)))
theorem hatesF_off {n : Nat} {c : Ct} {j : Nat} (h : j ≠ 4) : hatesF n c j = c j :=
  fr_inv (fun _ (x : Ct) => x j = c j) _ (Nat.zero_le n) rfl (fun p s _ h2 e => by rw [rowH_off h2 h]; exact e)
theorem s_passWeek {st : St} {k n nL : Nat} {c : Ct} {K : Int32 → St → Prop} (hn : n ≤ 6) (hL : nL ≤ 6) (h7 : c 0 7 = nI n) (h8 : c 0 8 = nI nL) (hd : dOk nL c) (h : K (weekF n nL c).1 (sv st k (weekF n nL c).2)) : w_X1_passWeek k (sv st k c) K := by
  unfold w_X1_passWeek
  rw [sv_0, sv_u20]
  refine s_pw12 hn (by rw [u2_ne (Or.inr (by decide))]; exact h7) ?_
  rw [w_X1_passWeek_b63]
  refine s_pw67 hn hL (by rw [hatesF_off (by decide), u2_ne (Or.inr (by decide))]; exact h7) (by rw [hatesF_off (by decide), u2_ne (Or.inr (by decide))]; exact h8) (fun l hl => by rw [hatesF_off (by decide), u2_off (by decide)]; exact hd l hl) h
end
section
/-! pure part: weeks, a country that becomes as another is -/
def ob (c : Ct) : Nat := (c 0 9).toNatClampNeg
def vC (n nL : Nat) (c : Ct) : Prop := n ≤ 6 ∧ nL ≤ 6 ∧ c 0 7 = nI n ∧ c 0 8 = nI nL ∧ dOk nL c ∧ c 0 9 = nI (ob c) ∧ ob c < 2 ^ nL
theorem p64 {nL : Nat} (h : nL ≤ 6) {b : Nat} (hb : b < 2 ^ nL) : b < 64 := Nat.lt_of_lt_of_le hb (Nat.pow_le_pow_right (by decide) h)
theorem or_bit : ∀ b, b < 64 → ∀ l, l < 6 → nI b ||| lbit l = nI (b ||| 2 ^ l) := by decide +kernel
theorem bit_is : ∀ b, b < 64 → ∀ l, l < 6 → bitF (nI b) (nI l) = if b.testBit l then 1 else 0 := by decide +kernel
theorem ob_of {c : Ct} {b : Nat} (h : c 0 9 = nI b) (hb : b < 64) : ob c = b := by
  unfold ob
  rw [h, nI_clamp (show b < 2 ^ 31 by omega)]
theorem opens_ob {c : Ct} {l p q b : Nat} (h : c 0 9 = nI b) (hb : b < 64) (hl : l < 6) : opens c l p q 0 9 = nI (b ||| 2 ^ l) := by
  unfold opens
  rw [u2_off (by decide), u2_off (by decide), u2_same, h, or_bit b hb l hl]
theorem stepL_ob {n nL l : Nat} {s : Int32 × Ct} (hL : nL ≤ 6) (hl : l < nL) (h : ∃ b, b < 2 ^ nL ∧ s.2 0 9 = nI b) : ∃ b, b < 2 ^ nL ∧ (stepL n l s).2 0 9 = nI b := by
  obtain ⟨b, h1, h2⟩ := h
  unfold stepL
  split
  · exact ⟨b, h1, h2⟩
  · split
    · exact ⟨b, h1, h2⟩
    next p q _ => exact ⟨b ||| 2 ^ l, Nat.or_lt_two_pow h1 (Nat.pow_lt_pow_right (by decide) hl), opens_ob (p := p) (q := q) h2 (p64 hL h1) (by omega)⟩
theorem vC_of {n nL : Nat} {c : Ct} (h1 : n ≤ 6) (h2 : nL ≤ 6) (h3 : c 0 7 = nI n) (h4 : c 0 8 = nI nL) (h5 : dOk nL c) (h6 : ∃ b, b < 2 ^ nL ∧ c 0 9 = nI b) : vC n nL c := by
  obtain ⟨b, g1, g2⟩ := h6
  have e := ob_of g2 (p64 h2 g1)
  exact ⟨h1, h2, h3, h4, h5, by rw [e]; exact g2, by rw [e]; exact g1⟩
theorem vC_week {n nL : Nat} {c : Ct} (h : vC n nL c) : vC n nL (weekF n nL c).2 := by
  obtain ⟨h1, h2, h3, h4, h5, h6, h7⟩ := h
  have b0 : ∀ i, i ≠ 10 → hatesF n (u2 c 0 10 (c 0 10 + 1)) 0 i = c 0 i := fun i hi => by rw [hatesF_off (by decide), u2_ne (Or.inr hi)]
  have b5 : hatesF n (u2 c 0 10 (c 0 10 + 1)) 5 = c 5 := by rw [hatesF_off (by decide), u2_off (by decide)]
  have key := fr_inv (fun _ (s : Int32 × Ct) => s.2 0 7 = nI n ∧ s.2 0 8 = nI nL ∧ dOk nL s.2 ∧ ∃ b, b < 2 ^ nL ∧ s.2 0 9 = nI b) (stepL n) (Nat.zero_le nL)
    (s0 := (0, hatesF n (u2 c 0 10 (c 0 10 + 1)))) ⟨(b0 7 (by decide)).trans h3, (b0 8 (by decide)).trans h4, fun l hl => by
      show (-9) < hatesF n (u2 c 0 10 (c 0 10 + 1)) 5 l
      rw [b5]
      exact h5 l hl, ob c, h7, (b0 9 (by decide)).trans h6⟩
    (fun l s _ h2' hI => ⟨by rw [stepL_0 (by decide)]; exact hI.1, by rw [stepL_0 (by decide)]; exact hI.2.1, fun j hj => by rw [stepL_off (by decide) (by decide) (by decide)]; exact hI.2.2.1 j hj, stepL_ob h2 h2' hI.2.2.2⟩)
  exact vC_of h1 h2 key.1 key.2.1 key.2.2.1 key.2.2.2
def weeksF (n nL w : Nat) (c : Ct) : Ct := fr 0 w (fun _ c => (weekF n nL c).2) c
theorem vC_weeks {n nL w : Nat} {c : Ct} (h : vC n nL c) : vC n nL (weeksF n nL w c) := fr_inv (fun _ c => vC n nL c) _ (Nat.zero_le w) h (fun _ _ _ _ h => vC_week h)
theorem s_openCount {st : St} {k n nL : Nat} {c : Ct} {K : Int32 → St → Prop} (hc : vC n nL c) (h : K (nI (pc (ob c))) (sv st k c)) : w_X1_openCount k (sv st k c) K := by
  obtain ⟨-, h2, -, -, -, h6, h7⟩ := hc
  unfold w_X1_openCount
  rw [sv_0, h6]
  exact s_bitCount (Nat.lt_of_lt_of_le (p64 h2 h7) (by decide)) h
theorem s_week1 {st : St} {k n nL : Nat} {c : Ct} {K : Int32 → St → Prop} (hc : vC n nL c) (h : K (weekF n nL c).1 (sv st k (weekF n nL c).2)) : w_X1_passWeek k (sv st k c) K :=
  s_passWeek hc.1 hc.2.1 hc.2.2.1 hc.2.2.2.1 hc.2.2.2.2.1 h
theorem s_passWeeks {st : St} {k n nL w : Nat} {c : Ct} {K : Int32 → St → Prop} (hw : w < 2147483648) (hc : vC n nL c) (h : K (nI (pc (ob (weeksF n nL w c)))) (sv st k (weeksF n nL w c))) : w_X1_passWeeks k (nI w) (sv st k c) K := by
  unfold w_X1_passWeeks
  refine lo_fr (fun m i c => w_X1_passWeeks_L2 k (nI w) K m (nI i) (sv st k c)) (fun _ c => (weekF n nL c).2) (fun _ c => vC n nL c) c (Nat.zero_le w) hc (fun _ _ _ _ h => vC_week h) (fun hv m => ?_) (fun m i c _ h2 hv hk => ?_)
  · rw [w_X1_passWeeks_L2, w_X1_passWeeks_L2q]
    refine ⟨fun _ => ?_, fun h9 => absurd (nI_le (Nat.le_refl w) hw) h9⟩
    rw [w_X1_passWeeks_b18]
    exact s_openCount hv h
  · rw [w_X1_passWeeks_L2, w_X1_passWeeks_L2q]
    refine ⟨fun h9 => absurd h9 (nI_ge h2 hw), fun _ => s_week1 hv ?_⟩
    rw [nI_inc]
    exact hk
def lenC (j : Nat) : Nat := if j = 0 then 11 else if j = 4 then 36 else 6
def zC (c : Ct) : Prop := (∀ j i, lenC j ≤ i → c j i = 0) ∧ ∀ i, i < 7 → c 0 i = 0
theorem cpy_z {f g : Nat → Int32} {n : Nat} (hf : ∀ i, n ≤ i → f i = 0) (hg : ∀ i, n ≤ i → g i = 0) : va_cpy f g 0 0 n = f := by
  funext i
  unfold va_cpy
  by_cases h : i < n
  · rw [if_pos ⟨Nat.zero_le _, by omega⟩]; congr 1; omega
  · rw [if_neg (by omega), hf i (by omega), hg i (by omega)]
theorem s_fill {k n : Nat} {v : Int32} {st : St} {K : St → Prop} (hn : n < 2147483648) (h : K (u1 st k (fun i => if i < n then v else st k i))) : w_J7_fill_53178 k n v st K := by
  have e : fr 0 n (fun i st => u2 st k i v) st = u1 st k (fun i => if i < n then v else st k i) := by
    have key := fr_inv (fun i (s : St) => s = u1 st k (fun j => if j < i then v else st k j)) (fun i st => u2 st k i v) (Nat.zero_le n) (s0 := st) (by
      funext a b
      unfold u1
      split
      next h => subst h; simp
      next => rfl) (fun i s _ _ e => by
      subst e
      funext a b
      unfold u2 u1 upd
      by_cases ha : a = k
      · subst ha
        simp only [if_true]
        by_cases hb : b = i
        · subst hb; simp
        · rw [if_neg hb]
          by_cases h3 : b < i
          · rw [if_pos h3, if_pos (by omega)]
          · rw [if_neg h3, if_neg (by omega)]
      · simp only [if_neg ha])
    exact key
  unfold w_J7_fill_53178
  refine lo_fr (fun m i (s : St) => w_J7_fill_53178_L5 k n v K m (nI i) (nI n) s) (fun i st => u2 st k i v) (fun _ _ => True) st (Nat.zero_le n) trivial (fun _ _ _ _ _ => trivial) (fun _ m => ?_) (fun m i s _ h2 _ hk => ?_)
  · rw [w_J7_fill_53178_L5, w_J7_fill_53178_L5q, e]
    exact ⟨fun _ => h, fun h9 => absurd (nI_le (Nat.le_refl n) hn) h9⟩
  · rw [w_J7_fill_53178_L5, w_J7_fill_53178_L5q]
    refine ⟨fun h9 => absurd h9 (nI_ge h2 hn), fun _ => ⟨vp_in_nI h2 hn, ?_⟩⟩
    rw [nI_inc, nI_clamp (show i < 2 ^ 31 by omega)]
    exact hk
def opN : Nat → Int32 := fun i => if i < 6 then -9 else 0
/-- what a country is that becomes as another is -/
def bec (c : Ct) : Ct := fun j => if j = 7 then opN else c j
theorem st_of_cv {st : St} {k j : Nat} (hj : j < 8) : st (k + j) = cv st k j := by unfold cv; rw [if_pos hj]
theorem s_become {st : St} {k k' : Nat} {K : St → Prop} (hkk : k' + 8 ≤ k ∨ k + 8 ≤ k') (hz : zC (cv st k)) (hz' : zC (cv st k')) (h : K (sv st k (bec (cv st k')))) : w_X1_become k k' st K := by
  have step : ∀ (c : Ct) (j n : Nat), j < 8 → lenC j = n → c j = cv st k j → u1 (sv st k c) (k + j) (va_cpy (sv st k c (k' + j)) (sv st k c (k + j)) 0 0 n) = sv st k (u1 c j (cv st k' j)) := by
    intro c j n hj hl hc
    rw [sv_u1 hj, sv_at hj, sv_off (by omega), hc, st_of_cv (st := st) (k := k') hj, cpy_z (fun i hi => hz'.1 j i (by omega)) (fun i hi => hz.1 j i (by omega))]
  unfold w_X1_become
  rw [← sv_cv (st := st) (k := k)]
  refine s_copy (by decide) ?_
  rw [step (cv st k) 1 6 (by decide) rfl rfl]
  refine s_copy (by decide) ?_
  rw [step (u1 (cv st k) 1 (cv st k' 1)) 2 6 (by decide) rfl rfl]
  refine s_copy (by decide) ?_
  rw [step (u1 (u1 (cv st k) 1 (cv st k' 1)) 2 (cv st k' 2)) 3 6 (by decide) rfl rfl]
  refine s_copy (by decide) ?_
  rw [step (u1 (u1 (u1 (cv st k) 1 (cv st k' 1)) 2 (cv st k' 2)) 3 (cv st k' 3)) 4 36 (by decide) rfl rfl]
  refine s_copy (by decide) ?_
  rw [step (u1 (u1 (u1 (u1 (cv st k) 1 (cv st k' 1)) 2 (cv st k' 2)) 3 (cv st k' 3)) 4 (cv st k' 4)) 5 6 (by decide) rfl rfl]
  refine s_copy (by decide) ?_
  rw [step (u1 (u1 (u1 (u1 (u1 (cv st k) 1 (cv st k' 1)) 2 (cv st k' 2)) 3 (cv st k' 3)) 4 (cv st k' 4)) 5 (cv st k' 5)) 6 6 (by decide) rfl rfl]
  refine s_fill (by decide) ?_
  rw [sv_u1 (by decide)]
  have r0 : ∀ (c : Ct) (i : Nat), sv st k c k' i = cv st k' 0 i := fun c i => by rw [sv_off (by omega)]; exact congrFun (st_of_cv (st := st) (k := k') (j := 0) (by decide)) i
  simp only [sv_u20, r0]
  refine Eq.mp (congrArg (fun c => K (sv st k c)) ?_) h
  funext j i
  by_cases h0 : j = 0
  · subst h0
    simp only [bec, u2, u1, upd, sv_7]
    by_cases e10 : i = 10
    · subst e10; simp [upd]
    · by_cases e9 : i = 9
      · subst e9; simp [upd]
      · by_cases e8 : i = 8
        · subst e8; simp [upd]
        · by_cases e7 : i = 7
          · subst e7; simp [upd]
          · have z : cv st k' 0 i = cv st k 0 i := by
              by_cases hi : i < 7
              · rw [hz'.2 i hi, hz.2 i hi]
              · have l0 : lenC 0 = 11 := rfl
                rw [hz'.1 0 i (by omega), hz.1 0 i (by omega)]
            simp [upd, e10, e9, e8, e7, z]
  · by_cases h7 : j = 7
    · subst h7
      simp only [bec, u2, u1, upd, sv_7, opN]
      have l7 : lenC 7 = 6 := rfl
      have z : ¬ i < 6 → cv st k 7 i = 0 := fun h => hz.1 7 i (by omega)
      by_cases hi : i < 6
      · simp [upd, hi, opN]
      · simp [upd, hi, z hi, opN]
    · by_cases h8 : 8 ≤ j
      · rw [show bec (cv st k') j = cv st k' j from by simp [bec, h7], nC_cv j h8]
        simp only [u2, u1]
        rw [if_neg h0, if_neg h0, if_neg h0, if_neg h0, if_neg h7, if_neg (by omega), if_neg (by omega), if_neg (by omega), if_neg (by omega), if_neg (by omega), if_neg (by omega), nC_cv j h8]
      · rw [show bec (cv st k') j = cv st k' j from by simp [bec, h7]]
        simp only [u2, u1]
        rw [if_neg h0, if_neg h0, if_neg h0, if_neg h0, if_neg h7]
        have : j = 1 ∨ j = 2 ∨ j = 3 ∨ j = 4 ∨ j = 5 ∨ j = 6 := by omega
        rcases this with rfl | rfl | rfl | rfl | rfl | rfl <;> rfl
end
section
/-! pure part: the check's country against the class's -/
theorem m_hI : ∀ p, p < 6 → ∀ q, q < 6 → (6 * nI p) + nI q = nI (6 * p + q) := by decide +kernel
theorem clI {i n : Nat} (h : i < n) (hn : n < 2147483648) : (nI i).toNatClampNeg = i := nI_clamp (show i < 2 ^ 31 by omega)
theorem t_hateOf {mt : St} {p q : Nat} {K : Int32 → St → Prop} (hp : p < 6) (hq : q < 6) (h : K (mt 5 (6 * p + q)) mt) : w_X9_hateOf (nI p) (nI q) mt K := by
  unfold w_X9_hateOf
  rw [m_hI p hp q hq, clI (show 6 * p + q < 36 by omega) (by decide)]
  exact ⟨vp_in_nI (by omega) (by decide), h⟩
def setsF (mt : St) (p q : Nat) (v : Int32) : St := u2 (u2 mt 5 (6 * p + q) v) 5 (6 * q + p) v
theorem t_sets {mt : St} {p q : Nat} {v : Int32} {K : St → Prop} (hp : p < 6) (hq : q < 6) (h : K (setsF mt p q v)) : w_X9_sets (nI p) (nI q) v mt K := by
  unfold w_X9_sets
  rw [m_hI p hp q hq, m_hI q hq p hp, clI (show 6 * p + q < 36 by omega) (by decide), clI (show 6 * q + p < 36 by omega) (by decide)]
  exact ⟨vp_in_nI (by omega) (by decide), vp_in_nI (by omega) (by decide), h⟩
def hlF (v a b : Int32) : Int32 := if v < a then a else if b < v then b else v
theorem t_held {v a b : Int32} {mt : St} {K : Int32 → St → Prop} (h : K (hlF v a b) mt) : w_X9_held v a b mt K := by
  unfold w_X9_held
  unfold hlF at h
  refine ⟨fun h1 => ⟨fun h2 => ?_, fun h2 => ?_⟩, fun h1 => ?_⟩
  · rw [if_neg (i_nlt.mpr h1), if_neg (i_nlt.mpr h2)] at h; exact h
  · rw [if_neg (i_nlt.mpr h1), if_pos (i_nle.mp h2)] at h; exact h
  · rw [if_pos (i_nle.mp h1)] at h; exact h
theorem hlF_held (v : Int32) : hlF v 0 99 = heldF v := by
  unfold hlF heldF
  have a0 : (0 : Int32).toInt = 0 := by decide
  have a9 : (99 : Int32).toInt = 99 := by decide
  simp only [Int32.lt_iff_toInt_lt]
  by_cases h1 : v.toInt < 99
  · rw [if_pos (by omega : v.toInt < (99 : Int32).toInt)]
    by_cases h2 : v.toInt < 0
    · rw [if_pos (by omega), if_neg (by omega)]
    · by_cases h3 : v.toInt = 0
      · rw [if_neg (by omega), if_neg (by omega), if_neg (by omega)]
        exact Int32.toInt_inj.mp (by omega)
      · rw [if_neg (by omega), if_neg (by omega), if_pos (by omega)]
  · rw [if_neg (by omega : ¬ v.toInt < (99 : Int32).toInt), if_pos (show (0 : Int32).toInt < (99 : Int32).toInt by omega), if_neg (by omega)]
    by_cases h2 : 99 < v.toInt
    · rw [if_pos (by omega)]
    · rw [if_neg (by omega)]
      exact Int32.toInt_inj.mp (by omega)
def hasB (x : Int32) (p : Nat) : Prop := ((x >>> (nI p &&& 31)) &&& 1) = 1
theorem t_has {x : Int32} {p : Nat} {mt : St} {K : Int32 → St → Prop} (h1 : hasB x p → K 1 mt) (h0 : ¬ hasB x p → K 0 mt) : w_X9_has x (nI p) mt K := ⟨h0, h1⟩
theorem t_fadesOf {mt : St} {p : Nat} {K : Int32 → St → Prop} (hp : p < 6) (h : K (fadingF (mt 2 p) (mt 3 p)) mt) : w_X9_fadesOf (nI p) mt K := by
  unfold w_X9_fadesOf
  have hi : vp_in (nI p) 6 := vp_in_nI hp (by decide)
  rw [clI hp (by decide)]
  refine ⟨hi, ⟨fun h1 => ?_, fun h1 => ⟨fun h2 => ?_, fun h2 => ⟨fun h3 => ⟨hi, ?_⟩, fun h3 => ⟨fun h4 => ?_, fun h4 => ⟨fun h5 => ?_, fun h5 => ?_⟩⟩⟩⟩⟩⟩ <;> simpa [fadingF, *] using h
theorem i_comm (x y : Int32) : x + y = y + x := Int32.add_comm x y
theorem t_stirsOf {mt : St} {p : Nat} {K : Int32 → St → Prop} (hp : p < 6) (h : K (stirringF (mt 2 p) (mt 3 p)) mt) : w_X9_stirsOf (nI p) mt K := by
  unfold w_X9_stirsOf
  have hi : vp_in (nI p) 6 := vp_in_nI hp (by decide)
  rw [clI hp (by decide)]
  unfold stirringF at h
  refine ⟨hi, ⟨fun h1 => ⟨hi, ⟨fun h2 => ?_, fun h2 => ⟨hi, ?_⟩⟩⟩, fun h1 => ?_⟩⟩
  · rw [if_neg h1, if_neg h2] at h; exact h
  · rw [if_neg h1, if_pos h2, i_comm] at h; exact h
  · rw [if_pos h1] at h; exact h
theorem pay2 (x : Int32) : 2 * (x + 1) = 2 * x + 2 := by rw [Int32.mul_add]; rfl
theorem pay4 (x : Int32) : 2 * (x + 1) - 1 = 2 * x + 1 := by rw [pay2, Int32.sub_eq_add_neg, Int32.add_assoc]; rfl
theorem t_payOf {mt : St} {p : Nat} {K : Int32 → St → Prop} (hp : p < 6) (h : K (wagingF (mt 2 p) (mt 3 p)) mt) : w_X9_payOf (nI p) mt K := by
  unfold w_X9_payOf
  have hi : vp_in (nI p) 6 := vp_in_nI hp (by decide)
  rw [clI hp (by decide)]
  unfold wagingF at h
  rw [pay4, pay2] at h
  refine ⟨hi, ⟨fun h1 => ⟨hi, ?_⟩, fun h1 => ⟨fun h2 => ?_, fun h2 => ⟨fun h3 => ?_, fun h3 => ⟨fun h4 => ⟨hi, ?_⟩, fun h4 => ⟨fun h5 => ?_, fun h5 => ⟨hi, ?_⟩⟩⟩⟩⟩⟩⟩ <;> simpa [*] using h
/-- hates lie in their bounds -/
def hOk (n : Nat) (c : Ct) : Prop := ∀ p q, p < q → q < n → 0 ≤ c 4 (hI p q) ∧ c 4 (hI p q) ≤ 99
/-- the check's live rows are the class's country c; who is out stands nowhere in c -/
def RM (n nL : Nat) (mt : St) (c : Ct) : Prop :=
  vC n nL c ∧ hOk n c ∧ mt 0 8 = nI n ∧ mt 0 9 = nI nL ∧ mt 0 10 = c 0 10 ∧ (∀ p, p < n → mt 2 p = c 1 p ∧ mt 3 p = c 2 p ∧ (hasB (mt 0 11) p ↔ c 3 p = -1) ∧ (c 3 p ≠ -1 → mt 4 p = c 3 p)) ∧
  (∀ p q, p < q → q < n → mt 5 (6 * p + q) = c 4 (hI p q) ∧ mt 5 (6 * q + p) = c 4 (hI p q)) ∧ (∀ l, l < nL → mt 6 l = c 5 l ∧ mt 7 l = c 6 l ∧ c 6 l ≠ -1 ∧ mt 8 l = if (ob c).testBit l then 1 else 0)
theorem hI_lt' {p q : Nat} (h : p < q) : hI p q = 6 * p + q := by unfold hI; omega
theorem hI_inj {p q p' q' : Nat} (h : p < q) (hq : q < 6) (h' : p' < q') (hq' : q' < 6) (e : hI p q = hI p' q') : p = p' ∧ q = q' := by
  rw [hI_lt' h, hI_lt' h'] at e
  omega
theorem addsub (v a b : Int32) : v + ((-a) - b) = v - a - b := by
  rw [Int32.sub_eq_add_neg, Int32.sub_eq_add_neg, Int32.sub_eq_add_neg, Int32.add_assoc]
theorem held_id {v : Int32} (h0 : 0 ≤ v) (h9 : v ≤ 99) : heldF (v + 0) = v := by
  rw [Int32.add_zero, ← hlF_held]
  unfold hlF
  rw [if_neg (i_nlt.mpr h0), if_neg (i_nlt.mpr h9)]
theorem heldF_in (v : Int32) : 0 ≤ heldF v ∧ heldF v ≤ 99 := by
  rw [← hlF_held]
  unfold hlF
  split
  · exact ⟨by decide, by decide⟩
  next h1 =>
    split
    · exact ⟨by decide, by decide⟩
    next h2 => exact ⟨i_nlt.mp h1, i_nlt.mp h2⟩
end
section
/-! pure part: the check's week against the class's -/
theorem lo_rel {σ : Type} (W : Nat → Nat → σ → Prop) (I : Nat → σ → Prop) {e i0 : Nat} (s0 : σ) (hi : i0 ≤ e) (h0 : I i0 s0) (hx : ∀ s, I e s → ∀ n, W (n + 1) e s)
    (hs : ∀ n i s, i0 ≤ i → i < e → I i s → (∀ s', I (i + 1) s' → W n (i + 1) s') → W (n + 1) i s) : ∃ n, W n i0 s0 := by
  have key : ∀ d i s, i0 ≤ i → i + d = e → I i s → W (d + 1) i s := by
    intro d
    induction d with
    | zero =>
      intro i s h1 h2 h3
      have : i = e := by omega
      subst this
      exact hx s h3 0
    | succ d ih => intro i s h1 h2 h3; exact hs (d + 1) i s h1 (by omega) h3 fun s' h4 => ih (i + 1) s' (by omega) (by omega) h4
  exact ⟨_, key (e - i0) i0 s0 (Nat.le_refl _) (by omega) h0⟩
/-- what a week of the check leaves -/
def wf (mt mt' : St) : Prop := (∀ j, j ≠ 0 → j ≠ 5 → j ≠ 8 → j ≠ 14 → mt' j = mt j) ∧ ∀ i, i ≠ 10 → i ≠ 25 → mt' 0 i = mt 0 i
theorem wf_rf {mt : St} : wf mt mt := ⟨fun _ _ _ _ _ => rfl, fun _ _ _ => rfl⟩
theorem wf.tr {a b c : St} (h1 : wf a b) (h2 : wf b c) : wf a c := ⟨fun j p q r s => (h2.1 j p q r s).trans (h1.1 j p q r s), fun i p q => (h2.2 i p q).trans (h1.2 i p q)⟩
theorem wf_u2 {mt : St} {j i : Nat} {v : Int32} (h : j = 5 ∨ j = 8 ∨ j = 14) : wf mt (u2 mt j i v) :=
  ⟨fun k a b c d => u2_off (by omega), fun k _ _ => by rw [u2_off (by omega)]⟩
theorem wf_u20 {mt : St} {i : Nat} {v : Int32} (h : i = 10 ∨ i = 25) : wf mt (u2 mt 0 i v) :=
  ⟨fun k a b c d => u2_off a, fun k _ _ => u2_ne (Or.inr (by omega))⟩
theorem wf_sets {mt : St} {p q : Nat} {v : Int32} : wf mt (setsF mt p q v) := (wf_u2 (Or.inl rfl)).tr (wf_u2 (Or.inl rfl))
theorem ob_off {c : Ct} {j i : Nat} {v : Int32} (h : j ≠ 0) : ob (u2 c j i v) = ob c := by
  unfold ob
  rw [u2_off (fun e => h e.symm)]
theorem vC_u4 {n nL : Nat} {c : Ct} {j i : Nat} {v : Int32} (h : vC n nL c) (hj : j ≠ 0) (hj5 : j ≠ 5) : vC n nL (u2 c j i v) := by
  obtain ⟨h1, h2, h3, h4, h5, h6, h7⟩ := h
  refine ⟨h1, h2, by rw [u2_off (Ne.symm hj)]; exact h3, by rw [u2_off (Ne.symm hj)]; exact h4, fun l hl => by rw [u2_off (Ne.symm hj5)]; exact h5 l hl, by rw [ob_off hj, u2_off (Ne.symm hj)]; exact h6, by rw [ob_off hj]; exact h7⟩
/-- hate set on both sides -/
theorem RM_hate {n nL p q : Nat} {mt : St} {c : Ct} {v : Int32} (h : RM n nL mt c) (hp : p < q) (hq : q < n) (h0 : 0 ≤ v) (h9 : v ≤ 99) : RM n nL (setsF mt p q v) (u2 c 4 (hI p q) v) ∧ RM n nL (setsF mt q p v) (u2 c 4 (hI p q) v) := by
  obtain ⟨g1, g2, g3, g4, g5, g6, g7, g8⟩ := h
  have hn := g1.1
  have cell : ∀ a b, a < b → b < n → u2 c 4 (hI p q) v 4 (hI a b) = if a = p ∧ b = q then v else c 4 (hI a b) := by
    intro a b h1 h2
    by_cases e : a = p ∧ b = q
    · obtain ⟨rfl, rfl⟩ := e
      rw [u2_same, if_pos ⟨rfl, rfl⟩]
    · rw [if_neg e, u2_ne (Or.inr (fun z => e (hI_inj h1 (by omega) hp (by omega) z)))]
  have r1 : ∀ (a b : Nat), a < 6 → b < 6 → setsF mt p q v 5 (6 * a + b) = if (a = p ∧ b = q) ∨ (a = q ∧ b = p) then v else mt 5 (6 * a + b) := by
    intro a b ha hb
    unfold setsF
    by_cases e2 : a = q ∧ b = p
    · obtain ⟨rfl, rfl⟩ := e2
      rw [u2_same, if_pos (Or.inr ⟨rfl, rfl⟩)]
    · rw [u2_ne (Or.inr (by omega))]
      by_cases e1 : a = p ∧ b = q
      · obtain ⟨rfl, rfl⟩ := e1
        rw [u2_same, if_pos (Or.inl ⟨rfl, rfl⟩)]
      · rw [u2_ne (Or.inr (by omega)), if_neg (by omega)]
  have r2 : ∀ (a b : Nat), a < 6 → b < 6 → setsF mt q p v 5 (6 * a + b) = if (a = p ∧ b = q) ∨ (a = q ∧ b = p) then v else mt 5 (6 * a + b) := by
    intro a b ha hb
    unfold setsF
    by_cases e2 : a = p ∧ b = q
    · obtain ⟨rfl, rfl⟩ := e2
      rw [u2_same, if_pos (Or.inl ⟨rfl, rfl⟩)]
    · rw [u2_ne (Or.inr (by omega))]
      by_cases e1 : a = q ∧ b = p
      · obtain ⟨rfl, rfl⟩ := e1
        rw [u2_same, if_pos (Or.inr ⟨rfl, rfl⟩)]
      · rw [u2_ne (Or.inr (by omega)), if_neg (by omega)]
  have key : ∀ mt' : St, (∀ j, j ≠ 5 → mt' j = mt j) → (∀ a b, a < 6 → b < 6 → mt' 5 (6 * a + b) = if (a = p ∧ b = q) ∨ (a = q ∧ b = p) then v else mt 5 (6 * a + b)) → RM n nL mt' (u2 c 4 (hI p q) v) := by
    intro mt' ho hr
    refine ⟨vC_u4 g1 (by decide) (by decide), fun a b h1 h2 => ?_, by rw [ho 0 (by decide)]; exact g3, by rw [ho 0 (by decide)]; exact g4, by rw [ho 0 (by decide), u2_off (by decide)]; exact g5, fun a ha => ?_, fun a b h1 h2 => ?_, fun l hl => ?_⟩
    · rw [cell a b h1 h2]
      split
      · exact ⟨h0, h9⟩
      · exact g2 a b h1 h2
    · rw [ho 2 (by decide), ho 3 (by decide), ho 4 (by decide), ho 0 (by decide), u2_off (by decide), u2_off (by decide), u2_off (by decide)]
      exact g6 a ha
    · have e := g7 a b h1 h2
      rw [hr a b (by omega) (by omega), hr b a (by omega) (by omega), cell a b h1 h2]
      by_cases z : a = p ∧ b = q
      · rw [if_pos (Or.inl z), if_pos (Or.inr ⟨z.2, z.1⟩), if_pos z]; exact ⟨rfl, rfl⟩
      · rw [if_neg (show ¬ ((a = p ∧ b = q) ∨ (a = q ∧ b = p)) by omega), if_neg (show ¬ ((b = p ∧ a = q) ∨ (b = q ∧ a = p)) by omega), if_neg z]; exact e
    · rw [ho 6 (by decide), ho 7 (by decide), ho 8 (by decide), u2_off (by decide), u2_off (by decide), ob_off (by decide)]
      exact g8 l hl
  exact ⟨key _ (fun j hj => by unfold setsF; rw [u2_off hj, u2_off hj]) r1, key _ (fun j hj => by unfold setsF; rw [u2_off hj, u2_off hj]) r2⟩
theorem u2_id {st : St} {k i : Nat} {v : Int32} (h : st k i = v) : u2 st k i v = st := by
  subst h
  funext a b
  unfold u2 u1 upd
  split
  next e =>
    subst e
    show (if b = i then st a i else st a b) = st a b
    split
    next e => subst e; rfl
    next => rfl
  next => rfl
def ef (mt mt' : St) : Prop := ∀ j, j ≠ 5 → mt' j = mt j
theorem ef_sets {mt : St} {p q : Nat} {v : Int32} : ef mt (setsF mt p q v) := fun j hj => by
  unfold setsF
  rw [u2_off hj, u2_off hj]
theorem ef.wf {mt mt' : St} (h : ef mt mt') : wf mt mt' := ⟨fun j _ h5 _ _ => h j h5, fun i _ _ => by rw [h 0 (by decide)]⟩
theorem ef.tr {a b c : St} (h1 : ef a b) (h2 : ef b c) : ef a c := fun j hj => (h2 j hj).trans (h1 j hj)
theorem t_fadesTwo {n nL p q : Nat} {mt : St} {c : Ct} {K : St → Prop} (h : RM n nL mt c) (hp : p < q) (hq : q < n) (hk : ∀ mt', RM n nL mt' (stepH p q c) → ef mt mt' → K mt') : w_X9_fadesTwo (nI p) (nI q) mt K := by
  have h' := h
  obtain ⟨g1, g2, g3, g4, g5, g6, g7, g8⟩ := h'
  have hn := g1.1
  have hb := g2 p q hp hq
  obtain ⟨a1, a2, a3, a4⟩ := g6 p (by omega)
  obtain ⟨b1, b2, b3, b4⟩ := g6 q hq
  have stay : c 3 p = -1 ∨ c 3 q = -1 → K mt := fun z => by
    have e : chgF c p q = 0 := by
      unfold chgF
      rcases z with z | z
      · rw [if_pos z]
      · by_cases h1 : c 3 p = -1
        · rw [if_pos h1]
        · rw [if_neg h1, if_pos z]
    have e2 : stepH p q c = c := by
      unfold stepH
      rw [e, held_id hb.1 hb.2]
      exact u2_id rfl
    exact hk mt (by rw [e2]; exact h) (fun _ _ => rfl)
  unfold w_X9_fadesTwo
  refine t_has (fun z => ⟨fun _ => stay (Or.inl (a3.mp z)), fun e => absurd e (by decide)⟩) (fun z => ⟨fun e => absurd rfl e, fun _ => t_has (fun z2 => ⟨fun e => absurd e (by decide), fun _ => stay (Or.inr (b3.mp z2))⟩) (fun z2 => ⟨fun _ => ?_, fun e => absurd rfl e⟩)⟩)
  have y1 : c 3 p ≠ -1 := fun e => z (a3.mpr e)
  have y2 : c 3 q ≠ -1 := fun e => z2 (b3.mpr e)
  refine t_hateOf (by omega) (by omega) ?_
  rw [clI (show p < 6 by omega) (by decide), clI (show q < 6 by omega) (by decide), (g7 p q hp hq).1, a4 y1, b4 y2]
  refine ⟨vp_in_nI (by omega) (by decide), vp_in_nI (by omega) (by decide), fun e => ?_, fun e => ?_⟩
  · refine t_stirsOf (by omega) (t_stirsOf (by omega) (t_held ?_))
    rw [w_X9_fadesTwo_b89]
    refine t_sets (by omega) (by omega) (hk _ ?_ ef_sets)
    rw [hlF_held, a1, a2, b1, b2]
    have e2 : stepH p q c = u2 c 4 (hI p q) (heldF (c 4 (hI p q) + stirF c p + stirF c q)) := by
      unfold stepH chgF
      rw [if_neg y1, if_neg y2, if_neg e, Int32.add_assoc]
    rw [e2]
    exact (RM_hate h hp hq (heldF_in _).1 (heldF_in _).2).1
  · refine t_fadesOf (by omega) (t_fadesOf (by omega) (t_held ?_))
    rw [w_X9_fadesTwo_b89]
    refine t_sets (by omega) (by omega) (hk _ ?_ ef_sets)
    rw [hlF_held, a1, a2, b1, b2]
    have e2 : stepH p q c = u2 c 4 (hI p q) (heldF (c 4 (hI p q) - fadeF c p - fadeF c q)) := by
      unfold stepH chgF
      rw [if_neg y1, if_neg y2, if_pos e, addsub]
    rw [e2]
    exact (RM_hate h hp hq (heldF_in _).1 (heldF_in _).2).1
end
section
/-! pure part: who opens what, on the check's side -/
theorem t_areThere {n nL p q : Nat} {mt : St} {c : Ct} {t : Int32} {K : Int32 → St → Prop} (h : RM n nL mt c) (hp : p < n) (hq : q < n) (ht : t ≠ -1) (hk : K (if c 3 p = t ∧ c 3 q = t then 1 else 0) mt) : w_X9_areThere (nI p) (nI q) t mt K := by
  obtain ⟨g1, g2, g3, g4, g5, g6, g7, g8⟩ := h
  have hn := g1.1
  obtain ⟨a1, a2, a3, a4⟩ := g6 p hp
  obtain ⟨b1, b2, b3, b4⟩ := g6 q hq
  have no : ¬ (c 3 p = t ∧ c 3 q = t) → K 0 mt := fun z => by rw [if_neg z] at hk; exact hk
  unfold w_X9_areThere
  rw [clI (show p < 6 by omega) (by decide), clI (show q < 6 by omega) (by decide)]
  refine ⟨vp_in_nI (by omega) (by decide), fun e => no fun z => e ?_, fun e => ⟨vp_in_nI (by omega) (by decide), fun e2 => no fun z => e2 ?_, fun e2 => ?_⟩⟩
  · rw [a4 (by rw [z.1]; exact ht)]; exact z.1
  · rw [b4 (by rw [z.2]; exact ht)]; exact z.2
  · refine t_has (fun y => ⟨fun _ => no fun z => ht ?_, fun x => absurd x (by decide)⟩) (fun y => ⟨fun x => absurd rfl x, fun _ => t_has (fun y2 => ⟨fun _ => no fun z => ht ?_, fun x => absurd x (by decide)⟩) (fun y2 => ⟨fun x => absurd rfl x, fun _ => ?_⟩)⟩)
    · rw [← z.1]; exact a3.mp y
    · rw [← z.2]; exact b3.mp y2
    · have e3 : c 3 p = t := by rw [← a4 (fun e => y (a3.mpr e))]; exact e
      have e4 : c 3 q = t := by rw [← b4 (fun e => y2 (b3.mpr e))]; exact e2
      rw [if_pos ⟨e3, e4⟩] at hk
      exact hk
theorem n10 : ∀ p, p < 6 → ∀ q, q < 6 → (10 * nI p) + nI q = nI (10 * p + q) := by decide +kernel
theorem t_op25 {n nL p : Nat} {mt : St} {c : Ct} {t d : Int32} {s : Option (Nat × Nat) × Int32} {c10 : Int32 → Int32 → Int32 → St → Prop} {K : Int32 → St → Prop} (h : RM n nL mt c) (hp : p < n) (ht : t ≠ -1)
    (hk : c10 (oI (fr (p + 1) n (fun q s => oS c t d p q s) s).1) (fr (p + 1) n (fun q s => oS c t d p q s) s).2 (nI (p + 1)) mt) : ∃ m, w_X9_opensAt_L25 t d c10 K m (oI s.1) s.2 (nI p) (nI (p + 1)) mt := by
  have hn := h.1.1
  have h8 : mt 0 8 = nI n := h.2.2.1
  refine lo_fr (fun m q s => w_X9_opensAt_L25 t d c10 K m (oI s.1) s.2 (nI p) (nI q) mt) (fun q s => oS c t d p q s) (fun _ _ => True) s (show p + 1 ≤ n by omega) trivial (fun _ _ _ _ _ => trivial) (fun _ m => ?_) (fun m q s h1 h2 _ hw => ?_)
  · rw [w_X9_opensAt_L25, w_X9_opensAt_L25q, h8]
    refine ⟨fun _ => ?_, fun h9 => absurd (nI_le (Nat.le_refl n) (by omega)) h9⟩
    rw [w_X9_opensAt_b99, nI_inc]
    exact hk
  · rw [w_X9_opensAt_L25, w_X9_opensAt_L25q, h8]
    refine ⟨fun h9 => absurd h9 (nI_ge h2 (by omega)), fun _ => t_areThere h hp h2 ht ?_⟩
    have e7 := (h.2.2.2.2.2.2.1 p q (by omega) h2).1
    by_cases hb : c 3 p = t ∧ c 3 q = t
    · rw [if_pos hb]
      refine ⟨fun h9 => absurd h9 (by decide), fun _ => t_hateOf (by omega) (by omega) ?_⟩
      simp only [oS, if_pos hb] at hw
      rw [w_X9_opensAt_b93, nI_inc, e7]
      refine ⟨fun h3 => ?_, fun h3 => t_hateOf (by omega) (by omega) ?_⟩
      · rw [if_pos h3] at hw; exact hw
      · rw [if_neg h3] at hw
        rw [e7]
        refine ⟨fun h4 => t_hateOf (by omega) (by omega) ?_, fun h4 => ?_⟩
        · rw [if_neg (i_nle.mpr h4)] at hw
          rw [w_X9_opensAt_b93, nI_inc, n10 p (by omega) q (by omega), e7]
          exact hw
        · rw [if_pos (i_nlt.mp h4)] at hw
          rw [w_X9_opensAt_b93, nI_inc]
          exact hw
    · rw [if_neg hb]
      refine ⟨fun _ => ?_, fun h9 => absurd rfl h9⟩
      simp only [oS, if_neg hb] at hw
      rw [w_X9_opensAt_b93, nI_inc]
      exact hw
theorem t_opensAt {n nL : Nat} {mt : St} {c : Ct} {t d : Int32} {K : Int32 → St → Prop} (h : RM n nL mt c) (ht : t ≠ -1) (hk : K (oI (opS c n t d).1) mt) : w_X9_opensAt t d mt K := by
  have hn := h.1.1
  have h8 : mt 0 8 = nI n := h.2.2.1
  refine lo_fr (fun m p s => w_X9_opensAt_L10 t d K m (oI s.1) s.2 (nI p) mt) (fun p s => fr (p + 1) n (fun q s => oS c t d p q s) s) (fun _ _ => True) (none, 100) (Nat.zero_le n) trivial (fun _ _ _ _ _ => trivial) (fun _ m => ?_) (fun m p s h1 h2 _ hw => ?_)
  · rw [w_X9_opensAt_L10, w_X9_opensAt_L10q, h8]
    exact ⟨fun _ => hk, fun h9 => absurd (nI_le (Nat.le_refl n) (by omega)) h9⟩
  · rw [w_X9_opensAt_L10, w_X9_opensAt_L10q, h8]
    refine ⟨fun h9 => absurd h9 (nI_ge h2 (by omega)), fun _ => ?_⟩
    rw [nI_inc]
    exact t_op25 h h2 ht hw
end
section
/-! pure part: the letters of a week, on the check's side -/
theorem RM_off {n nL : Nat} {mt mt' : St} {c : Ct} (h : RM n nL mt c) (h2 : ∀ j, 2 ≤ j → j ≤ 8 → mt' j = mt j) (h0 : ∀ i, 8 ≤ i → i ≤ 11 → mt' 0 i = mt 0 i) : RM n nL mt' c := by
  obtain ⟨g1, g2, g3, g4, g5, g6, g7, g8⟩ := h
  refine ⟨g1, g2, by rw [h0 8 (by decide) (by decide)]; exact g3, by rw [h0 9 (by decide) (by decide)]; exact g4, by rw [h0 10 (by decide) (by decide)]; exact g5, fun p hp => ?_, fun p q a b => ?_, fun l hl => ?_⟩
  · rw [h2 2 (by decide) (by decide), h2 3 (by decide) (by decide), h2 4 (by decide) (by decide), h0 11 (by decide) (by decide)]
    exact g6 p hp
  · rw [h2 5 (by decide) (by decide)]
    exact g7 p q a b
  · rw [h2 6 (by decide) (by decide), h2 7 (by decide) (by decide), h2 8 (by decide) (by decide)]
    exact g8 l hl
theorem RM_7 {n nL : Nat} {mt : St} {c : Ct} {i : Nat} {v : Int32} (h : RM n nL mt c) : RM n nL mt (u2 c 7 i v) := by
  obtain ⟨g1, g2, g3, g4, g5, g6, g7, g8⟩ := h
  refine ⟨vC_u4 g1 (by decide) (by decide), fun p q a b => by rw [u2_off (by decide)]; exact g2 p q a b, g3, g4, by rw [u2_off (by decide)]; exact g5, fun p hp => ?_, fun p q a b => ?_, fun l hl => ?_⟩
  · rw [u2_off (by decide), u2_off (by decide), u2_off (by decide)]
    exact g6 p hp
  · rw [u2_off (by decide)]
    exact g7 p q a b
  · rw [u2_off (by decide), u2_off (by decide), ob_off (by decide)]
    exact g8 l hl
theorem tb_or {b l j : Nat} : (b ||| 2 ^ l).testBit j = (b.testBit j || decide (l = j)) := by
  rw [Nat.testBit_or, Nat.testBit_two_pow]
theorem RM_open {n nL l : Nat} {mt : St} {c : Ct} (h : RM n nL mt c) (hl : l < nL) : RM n nL (u2 mt 8 l 1) (u2 c 0 9 (c 0 9 ||| lbit l)) := by
  obtain ⟨g1, g2, g3, g4, g5, g6, g7, g8⟩ := h
  have g1' := g1
  obtain ⟨h1, h2, h3, h4, h5, h6, h7⟩ := g1'
  have hb := p64 h2 h7
  have e9 : u2 c 0 9 (c 0 9 ||| lbit l) 0 9 = nI (ob c ||| 2 ^ l) := by
    rw [u2_same]
    conv => lhs; rw [h6]
    exact or_bit _ hb l (by omega)
  have hlt : ob c ||| 2 ^ l < 2 ^ nL := Nat.or_lt_two_pow h7 (Nat.pow_lt_pow_right (by decide) hl)
  have eo : ob (u2 c 0 9 (c 0 9 ||| lbit l)) = ob c ||| 2 ^ l := ob_of e9 (p64 h2 hlt)
  refine ⟨vC_of h1 h2 (by rw [u2_ne (Or.inr (by decide))]; exact h3) (by rw [u2_ne (Or.inr (by decide))]; exact h4) (fun j hj => by rw [u2_off (by decide)]; exact h5 j hj) ⟨_, hlt, e9⟩, fun p q a b => by rw [u2_off (by decide)]; exact g2 p q a b,
    by rw [u2_off (by decide)]; exact g3, by rw [u2_off (by decide)]; exact g4, by rw [u2_off (by decide), u2_ne (Or.inr (by decide))]; exact g5, fun p hp => ?_, fun p q a b => ?_, fun j hj => ?_⟩
  · rw [u2_off (by decide), u2_off (by decide), u2_off (by decide), u2_off (by decide), u2_off (by decide), u2_off (by decide), u2_off (by decide)]
    exact g6 p hp
  · rw [u2_off (by decide), u2_off (by decide)]
    exact g7 p q a b
  · have g := g8 j hj
    rw [u2_off (by decide), u2_off (by decide), u2_off (by decide), u2_off (by decide), eo, tb_or]
    refine ⟨g.1, g.2.1, g.2.2.1, ?_⟩
    by_cases e : j = l
    · subst e
      rw [u2_same]
      simp
    · rw [u2_ne (Or.inr e), g.2.2.2]
      simp [Ne.symm e]
theorem stepL_open {n l : Nat} {s : Int32 × Ct} (h : bitF (s.2 0 9) (nI l) = 1) : stepL n l s = s := by
  unfold stepL
  rw [if_pos h]
theorem stepL_none {n l : Nat} {s : Int32 × Ct} (h : ¬ bitF (s.2 0 9) (nI l) = 1) (ho : openerF s.2 n l = none) : stepL n l s = s := by
  unfold stepL
  rw [if_neg h, ho]
theorem stepL_some {n l p q : Nat} {s : Int32 × Ct} (h : ¬ bitF (s.2 0 9) (nI l) = 1) (ho : openerF s.2 n l = some (p, q)) : stepL n l s = (s.1 ||| lbit l, opens s.2 l p q) := by
  unfold stepL
  rw [if_neg h, ho]
theorem lb_ne : ∀ b, b < 64 → ∀ l, l < 6 → ¬ nI (b ||| 2 ^ l) = 0 := by decide +kernel
theorem s10 : ∀ p, p < 6 → ∀ q, q < 6 → 0 ≤ nI (10 * p + q) := by decide +kernel
def LI (n nL : Nat) (c : Ct) (mt : St) (l : Nat) (mt' : St) : Prop :=
  ∃ b cnt, (fr 0 l (stepL n) (0, c)).1 = nI b ∧ b < 2 ^ l ∧ RM n nL mt' (fr 0 l (stepL n) (0, c)).2 ∧ wf mt mt' ∧ mt' 0 25 = nI cnt ∧ cnt ≤ l ∧ (cnt = 0 ↔ b = 0) ∧ ∀ j, j < l → mt' 14 j = if b.testBit j then (fr 0 l (stepL n) (0, c)).2 7 j else -9
theorem opens_7 {c : Ct} {l p q j : Nat} (h : j ≠ l) : opens c l p q 7 j = c 7 j := by
  unfold opens
  rw [u2_off (by decide), u2_ne (Or.inr h), u2_off (by decide)]
theorem opens_7s {c : Ct} {l p q : Nat} : opens c l p q 7 l = nI (10 * p + q) := by
  unfold opens
  rw [u2_off (by decide), u2_same]
theorem t_letters {n nL : Nat} {mt : St} {c : Ct} {K : St → Prop} (h : RM n nL mt c) (h25 : mt 0 25 = 0) (hk : ∀ mt', LI n nL c mt nL mt' → K mt') : ∃ m, w_X9_goesWeek_L57 K m 0 mt := by
  refine lo_rel (fun m l (s : St) => w_X9_goesWeek_L57 K m (nI l) s) (LI n nL c mt) mt (Nat.zero_le nL) ⟨0, 0, rfl, by decide, h, wf_rf, h25, Nat.le_refl 0, Iff.rfl, fun j hj => absurd hj (Nat.not_lt_zero j)⟩ (fun s hI m => ?_) (fun m l s _ hl hI hw => ?_)
  · obtain ⟨b, cnt, e1, e2, e3, e4, e5, e6, e7, e8⟩ := hI
    rw [w_X9_goesWeek_L57, w_X9_goesWeek_L57q, e3.2.2.2.1]
    exact ⟨fun _ => hk s ⟨b, cnt, e1, e2, e3, e4, e5, e6, e7, e8⟩, fun h9 => absurd (nI_le (Nat.le_refl nL) (by have := e3.1.2.1; omega)) h9⟩
  · obtain ⟨b, cnt, e1, e2, e3, e4, e5, e6, e7, e8⟩ := hI
    have hL := e3.1.2.1
    have hn := e3.1.1
    have g8 := e3.2.2.2.2.2.2.2 l hl
    have hob := e3.1.2.2.2.2.2
    have hbt := bit_is _ (p64 hL hob.2) l (by omega)
    have fs : fr 0 (l + 1) (stepL n) (0, c) = stepL n l (fr 0 l (stepL n) (0, c)) := fr_succ (Nat.zero_le l) _ _
    have hb64 : b < 64 := p64 (show l ≤ 6 by omega) e2
    -- nothing is opened: the next
    have skip : (fr 0 (l + 1) (stepL n) (0, c)) = (fr 0 l (stepL n) (0, c)) → LI n nL c mt (l + 1) (u2 s 14 l (-9)) := by
      intro e
      refine ⟨b, cnt, by rw [e]; exact e1, Nat.lt_of_lt_of_le e2 (Nat.pow_le_pow_right (by decide) (by omega)), by rw [e]; exact RM_off e3 (fun j a b => u2_off (by omega)) (fun i _ _ => by rw [u2_off (by decide)]), e4.tr (wf_u2 (Or.inr (Or.inr rfl))), by rw [u2_off (by decide)]; exact e5, by omega, e7, fun j hj => ?_⟩
      rw [e]
      by_cases ej : j = l
      · subst ej
        rw [u2_same, Nat.testBit_lt_two_pow e2]
        rfl
      · rw [u2_ne (Or.inr ej)]
        exact e8 j (by omega)
    rw [w_X9_goesWeek_L57, w_X9_goesWeek_L57q, e3.2.2.2.1, clI (show l < 6 by omega) (by decide)]
    refine ⟨fun h9 => absurd h9 (nI_ge hl (by omega)), fun _ => ⟨vp_in_nI (by omega) (by decide), fun ho => ⟨vp_in_nI (by omega) (by decide), vp_in_nI (by omega) (by decide), ?_⟩, fun ho => ?_⟩⟩
    · -- sealed
      have hsl : ¬ (ob (fr 0 l (stepL n) (0, c)).2).testBit l = true := fun z => ho (by rw [g8.2.2.2, if_pos z])
      have hbf : ¬ bitF ((fr 0 l (stepL n) (0, c)).2 0 9) (nI l) = 1 := by
        rw [hob.1, hbt, if_neg hsl]; decide
      refine t_opensAt e3 (by rw [g8.2.1]; exact g8.2.2.1) ?_
      rw [g8.1, g8.2.1]
      have hop : (opS (fr 0 l (stepL n) (0, c)).2 n ((fr 0 l (stepL n) (0, c)).2 6 l) ((fr 0 l (stepL n) (0, c)).2 5 l)).1 = openerF (fr 0 l (stepL n) (0, c)).2 n l := rfl
      rw [hop, w_X9_goesWeek_b101]
      cases ho2 : openerF (fr 0 l (stepL n) (0, c)).2 n l with
      | none =>
        have e : stepL n l (fr 0 l (stepL n) (0, c)) = fr 0 l (stepL n) (0, c) := stepL_none hbf ho2
        refine ⟨vp_in_nI (by omega) (by decide), vp_in_nI (by omega) (by decide), ?_⟩
        rw [clI (show l < 6 by omega) (by decide), u2_same]
        refine ⟨fun h9 => absurd h9 (by decide), fun _ => ?_⟩
        rw [w_X9_goesWeek_b171, nI_inc]
        exact hw _ (skip (fs.trans e))
      | some pq =>
        obtain ⟨p, q⟩ := pq
        have hpq := opS_in p q ho2
        have h10 := o10 p (by omega) q (by omega)
        have e : stepL n l (fr 0 l (stepL n) (0, c)) = ((fr 0 l (stepL n) (0, c)).1 ||| lbit l, opens (fr 0 l (stepL n) (0, c)).2 l p q) := stepL_some hbf ho2
        refine ⟨vp_in_nI (by omega) (by decide), vp_in_nI (by omega) (by decide), ?_⟩
        rw [clI (show l < 6 by omega) (by decide), u2_same]
        show (0 ≤ nI (10 * p + q) → _) ∧ _
        refine ⟨fun _ => ⟨vp_in_nI (by omega) (by decide), vp_in_nI (by omega) (by decide), vp_in_nI (by omega) (by decide), ?_⟩, fun h9 => absurd (s10 p (by omega) q (by omega)) h9⟩
        simp only [oI]
        rw [h10.2.1, h10.1]
        refine t_hateOf (by omega) (by omega) (t_held (t_sets (by omega) (by omega) ?_))
        rw [w_X9_goesWeek_b171, nI_inc]
        have q1 := RM_7 (i := l) (v := nI (10 * p + q)) (RM_open e3 hl)
        have q2 : RM n nL (u2 (u2 (u2 s 14 l (nI (10 * p + q))) 8 l 1) 0 25 (u2 (u2 s 14 l (nI (10 * p + q))) 8 l 1 0 25 + 1)) (u2 (u2 (fr 0 l (stepL n) (0, c)).2 0 9 ((fr 0 l (stepL n) (0, c)).2 0 9 ||| lbit l)) 7 l (nI (10 * p + q))) := by
          refine RM_off q1 (fun j a b => ?_) (fun i a b => ?_)
          · rw [u2_off (by omega)]
            unfold u2 u1
            by_cases e8 : j = 8
            · subst e8; simp
            · rw [if_neg e8, if_neg (by omega), if_neg e8]
          · rw [u2_ne (Or.inr (by omega)), u2_off (by decide), u2_off (by decide), u2_off (by decide)]
        have hh : u2 (u2 (u2 s 14 l (nI (10 * p + q))) 8 l 1) 0 25 (u2 (u2 s 14 l (nI (10 * p + q))) 8 l 1 0 25 + 1) 5 (6 * p + q) = (fr 0 l (stepL n) (0, c)).2 4 (hI p q) := by
          rw [u2_off (by decide), u2_off (by decide), u2_off (by decide)]
          exact (e3.2.2.2.2.2.2.1 p q hpq.1 hpq.2.1).1
        have h25' : u2 (u2 s 14 l (nI (10 * p + q))) 8 l 1 0 25 = nI cnt := by rw [u2_off (by decide), u2_off (by decide)]; exact e5
        rw [hh, hlF_held]
        refine hw _ ⟨b ||| 2 ^ l, cnt + 1, ?_, Nat.or_lt_two_pow (Nat.lt_of_lt_of_le e2 (Nat.pow_le_pow_right (by decide) (by omega))) (Nat.pow_lt_pow_right (by decide) (by omega)), ?_, ?_, ?_, by omega, ?_, fun j hj => ?_⟩
        · rw [fs, e, e1]; exact or_bit b hb64 l (by omega)
        · rw [fs, e]
          exact (RM_hate q2 hpq.1 hpq.2.1 (heldF_in _).1 (heldF_in _).2).1
        · exact ((((e4.tr (wf_u2 (Or.inr (Or.inr rfl)))).tr (wf_u2 (Or.inr (Or.inl rfl)))).tr (wf_u20 (Or.inr rfl))).tr wf_sets)
        · unfold setsF
          rw [u2_off (by decide), u2_off (by decide), u2_same, h25', nI_inc]
        · refine ⟨fun z => by omega, fun z => absurd ?_ (lb_ne b hb64 l (by omega))⟩
          rw [z]; rfl
        · rw [fs, e, tb_or]
          unfold setsF
          rw [u2_off (by decide), u2_off (by decide), u2_off (by decide), u2_off (by decide)]
          by_cases ej : j = l
          · subst ej
            rw [u2_same]
            simp [opens_7s]
          · rw [u2_ne (Or.inr ej), e8 j (by omega)]
            simp only [decide_eq_false (Ne.symm ej), Bool.or_false]
            split
            · exact (opens_7 ej).symm
            · rfl
    · -- open already
      have hsl : (ob (fr 0 l (stepL n) (0, c)).2).testBit l = true := by
        cases hq : (ob (fr 0 l (stepL n) (0, c)).2).testBit l with
        | true => rfl
        | false =>
          rw [g8.2.2.2, hq] at ho
          exact absurd ho (by decide)
      have e : stepL n l (fr 0 l (stepL n) (0, c)) = fr 0 l (stepL n) (0, c) := stepL_open (by rw [hob.1, hbt, if_pos hsl])
      rw [w_X9_goesWeek_b101]
      refine ⟨vp_in_nI (by omega) (by decide), vp_in_nI (by omega) (by decide), ?_⟩
      rw [clI (show l < 6 by omega) (by decide), u2_same]
      refine ⟨fun h9 => absurd h9 (by decide), fun _ => ?_⟩
      rw [w_X9_goesWeek_b171, nI_inc]
      exact hw _ (skip (fs.trans e))
end
section
/-! pure part: the check's week is the class's -/
theorem t_row29 {n nL p : Nat} {mt : St} {c : Ct} {c17 : Int32 → St → Prop} {K : St → Prop} (h : RM n nL mt c) (hp : p < n) (hk : ∀ mt', RM n nL mt' (fr (p + 1) n (fun q c => stepH p q c) c) → ef mt mt' → c17 (nI (p + 1)) mt') : ∃ m, w_X9_goesWeek_L29 c17 K m (nI p) (nI (p + 1)) mt := by
  have hn := h.1.1
  refine lo_rel (fun m q (s : St) => w_X9_goesWeek_L29 c17 K m (nI p) (nI q) s) (fun q s => RM n nL s (fr (p + 1) q (fun q c => stepH p q c) c) ∧ ef mt s) mt (show p + 1 ≤ n by omega) ⟨by rw [fr_self]; exact h, fun _ _ => rfl⟩ (fun s hI m => ?_) (fun m q s h1 h2 hI hw => ?_)
  · rw [w_X9_goesWeek_L29, w_X9_goesWeek_L29q, hI.1.2.2.1]
    refine ⟨fun _ => ?_, fun h9 => absurd (nI_le (Nat.le_refl n) (by omega)) h9⟩
    rw [w_X9_goesWeek_b49, nI_inc]
    exact hk s hI.1 hI.2
  · rw [w_X9_goesWeek_L29, w_X9_goesWeek_L29q, hI.1.2.2.1]
    refine ⟨fun h9 => absurd h9 (nI_ge h2 (by omega)), fun _ => t_fadesTwo hI.1 (by omega) h2 (fun s' e1 e2 => ?_)⟩
    rw [nI_inc]
    exact hw s' ⟨by rw [fr_succ h1]; exact e1, hI.2.tr e2⟩
theorem t_rows17 {n nL : Nat} {mt : St} {c : Ct} {K : St → Prop} (h : RM n nL mt c) (hk : ∀ mt', RM n nL mt' (hatesF n c) → ef mt mt' → w_X9_goesWeek_b55 K mt') : ∃ m, w_X9_goesWeek_L17 K m 0 mt := by
  have hn := h.1.1
  refine lo_rel (fun m p (s : St) => w_X9_goesWeek_L17 K m (nI p) s) (fun p s => RM n nL s (fr 0 p (fun p c => fr (p + 1) n (fun q c => stepH p q c) c) c) ∧ ef mt s) mt (Nat.zero_le n) ⟨by rw [fr_self]; exact h, fun _ _ => rfl⟩ (fun s hI m => ?_) (fun m p s h1 h2 hI hw => ?_)
  · rw [w_X9_goesWeek_L17, w_X9_goesWeek_L17q, hI.1.2.2.1]
    exact ⟨fun _ => hk s hI.1 hI.2, fun h9 => absurd (nI_le (Nat.le_refl n) (by omega)) h9⟩
  · rw [w_X9_goesWeek_L17, w_X9_goesWeek_L17q, hI.1.2.2.1]
    refine ⟨fun h9 => absurd h9 (nI_ge h2 (by omega)), fun _ => ?_⟩
    rw [nI_inc]
    exact t_row29 hI.1 h2 fun s' e1 e2 => hw s' ⟨by rw [fr_succ h1]; exact e1, hI.2.tr e2⟩
/-- what a week of the check says beside its country: how many it opened, by whom -/
def WS (n nL : Nat) (c : Ct) (mt' : St) : Prop := ∃ b cnt, (weekF n nL c).1 = nI b ∧ b < 2 ^ nL ∧ mt' 0 25 = nI cnt ∧ cnt ≤ nL ∧ (cnt = 0 ↔ b = 0) ∧ ∀ j, j < nL → mt' 14 j = if b.testBit j then (weekF n nL c).2 7 j else -9
theorem vC_wk {n nL : Nat} {c : Ct} {v : Int32} (h : vC n nL c) : vC n nL (u2 c 0 10 v) := by
  obtain ⟨h1, h2, h3, h4, h5, h6, h7⟩ := h
  exact vC_of h1 h2 (by rw [u2_ne (Or.inr (by decide))]; exact h3) (by rw [u2_ne (Or.inr (by decide))]; exact h4) (fun l hl => by rw [u2_off (by decide)]; exact h5 l hl) ⟨ob c, h7, by rw [u2_ne (Or.inr (by decide))]; exact h6⟩
theorem ob_wk {c : Ct} {v : Int32} : ob (u2 c 0 10 v) = ob c := by
  unfold ob
  rw [u2_ne (Or.inr (by decide))]
theorem t_goesWeek {n nL : Nat} {mt : St} {c : Ct} {K : St → Prop} (h : RM n nL mt c) (hk : ∀ mt', RM n nL mt' (weekF n nL c).2 → wf mt mt' → WS n nL c mt' → K mt') : w_X9_goesWeek mt K := by
  have h1 : RM n nL (u2 (u2 mt 0 10 (mt 0 10 + 1)) 0 25 0) (u2 c 0 10 (c 0 10 + 1)) := by
    obtain ⟨g1, g2, g3, g4, g5, g6, g7, g8⟩ := h
    refine ⟨vC_wk g1, fun p q a b => by rw [u2_off (by decide)]; exact g2 p q a b, by rw [u2_ne (Or.inr (by decide)), u2_ne (Or.inr (by decide))]; exact g3, by rw [u2_ne (Or.inr (by decide)), u2_ne (Or.inr (by decide))]; exact g4, by rw [u2_ne (Or.inr (by decide)), u2_same, u2_same, g5], fun p hp => ?_, fun p q a b => ?_, fun l hl => ?_⟩
    · rw [u2_off (by decide), u2_off (by decide), u2_off (by decide), u2_off (by decide), u2_off (by decide), u2_off (by decide), u2_ne (Or.inr (by decide)), u2_ne (Or.inr (by decide)), u2_off (by decide), u2_off (by decide), u2_off (by decide)]
      exact g6 p hp
    · rw [u2_off (by decide), u2_off (by decide), u2_off (by decide)]
      exact g7 p q a b
    · rw [u2_off (by decide), u2_off (by decide), u2_off (by decide), u2_off (by decide), u2_off (by decide), u2_off (by decide), u2_off (by decide), u2_off (by decide), ob_wk]
      exact g8 l hl
  unfold w_X9_goesWeek
  refine t_rows17 h1 fun s e1 e2 => ?_
  rw [w_X9_goesWeek_b55]
  refine t_letters e1 (by rw [e2 0 (by decide), u2_same]) fun s' hI => ?_
  obtain ⟨b, cnt, f1, f2, f3, f4, f5, f6, f7, f8⟩ := hI
  exact hk s' f3 ((((wf_u20 (Or.inl rfl)).tr (wf_u20 (Or.inr rfl))).tr e2.wf).tr f4) ⟨b, cnt, f1, f2, f5, f6, f7, f8⟩
theorem t_goesOn {n nL w : Nat} {mt : St} {c : Ct} {K : St → Prop} (hw : w < 2147483648) (h : RM n nL mt c) (hk : ∀ mt', RM n nL mt' (weeksF n nL w c) → wf mt mt' → K mt') : w_X9_goesOn (nI w) mt K := by
  unfold w_X9_goesOn
  refine lo_rel (fun m i (s : St) => w_X9_goesOn_L2 (nI w) K m (nI i) s) (fun i s => RM n nL s (weeksF n nL i c) ∧ wf mt s) mt (Nat.zero_le w) ⟨h, wf_rf⟩ (fun s hI m => ?_) (fun m i s h1 h2 hI hk2 => ?_)
  · rw [w_X9_goesOn_L2, w_X9_goesOn_L2q]
    exact ⟨fun _ => hk s hI.1 hI.2, fun h9 => absurd (nI_le (Nat.le_refl w) hw) h9⟩
  · rw [w_X9_goesOn_L2, w_X9_goesOn_L2q]
    refine ⟨fun h9 => absurd h9 (nI_ge h2 hw), fun _ => t_goesWeek hI.1 fun s' e1 e2 _ => ?_⟩
    rw [nI_inc]
    exact hk2 s' ⟨by unfold weeksF; rw [fr_succ (Nat.zero_le i)]; exact e1, hI.2.tr e2⟩
end
section
/-! pure part: the check keeps its country in a row, and puts it back -/
theorem t_passesS {k n cur : Nat} {mt : St} {K : St → Prop} (hk0 : k ≠ 0) (hk13 : k ≠ 13) (hc : mt 0 22 = nI cur) (hf : mt 0 21 = 1) (hb : cur + n ≤ 825)
    (hk : ∀ s : St, s 0 22 = nI (cur + n) → (∀ j, j ≠ 0 → j ≠ 13 → s j = mt j) → (∀ a, a ≠ 22 → s 0 a = mt 0 a) → (∀ a, s 13 a = if cur ≤ a ∧ a < cur + n then mt k (a - cur) else mt 13 a) → K s) : w_X9_passes k n mt K := by
  unfold w_X9_passes
  refine lo_rel (fun m i (s : St) => w_X9_passes_L2 k n K m (nI i) s) (fun i s => s 0 22 = nI (cur + i) ∧ (∀ j, j ≠ 0 → j ≠ 13 → s j = mt j) ∧ (∀ a, a ≠ 22 → s 0 a = mt 0 a) ∧ ∀ a, s 13 a = if cur ≤ a ∧ a < cur + i then mt k (a - cur) else mt 13 a) mt (Nat.zero_le n)
    ⟨hc, fun _ _ _ => rfl, fun _ _ => rfl, fun a => (if_neg (show ¬ (cur ≤ a ∧ a < cur + 0) by omega)).symm⟩ (fun s hI m => ?_) (fun m i s h1 h2 hI hw => ?_)
  · rw [w_X9_passes_L2, w_X9_passes_L2q]
    exact ⟨fun _ => hk s hI.1 hI.2.1 hI.2.2.1 hI.2.2.2, fun h9 => absurd (nI_le (Nat.le_refl n) (by omega)) h9⟩
  · obtain ⟨e1, e2, e3, e4⟩ := hI
    rw [w_X9_passes_L2, w_X9_passes_L2q]
    refine ⟨fun h9 => absurd h9 (nI_ge h2 (by omega)), fun _ => ⟨fun h9 => ?_, fun _ => ⟨vp_in_nI h2 (by omega), ?_⟩⟩⟩
    · rw [e3 21 (by decide), hf] at h9
      exact absurd h9 (by decide)
    · rw [e1, clI (show i < 825 by omega) (by decide), clI (show cur + i < 825 by omega) (by decide)]
      refine ⟨vp_in_nI (by omega) (by decide), ?_⟩
      rw [w_X9_passes_b42, nI_inc]
      refine hw _ ⟨?_, fun j a b => ?_, fun a ha => ?_, fun a => ?_⟩
      · rw [u2_same, u2_off (by decide), e1, nI_inc]; rfl
      · rw [u2_off a, u2_off b]; exact e2 j a b
      · rw [u2_ne (Or.inr ha), u2_off (by decide)]; exact e3 a ha
      · rw [u2_off (by decide)]
        by_cases h : a = cur + i
        · subst h
          rw [u2_same, e2 k hk0 hk13, if_pos ⟨by omega, by omega⟩, Nat.add_sub_cancel_left]
        · rw [u2_ne (Or.inr h), e4 a]
          by_cases h3 : cur ≤ a ∧ a < cur + i
          · rw [if_pos h3, if_pos ⟨h3.1, by omega⟩]
          · rw [if_neg h3, if_neg (by omega)]
theorem t_passesR {k n cur : Nat} {mt : St} {K : St → Prop} (hk0 : k ≠ 0) (hk13 : k ≠ 13) (hc : mt 0 22 = nI cur) (hf : mt 0 21 = 0) (hb : cur + n ≤ 825)
    (hk : ∀ s : St, s 0 22 = nI (cur + n) → (∀ j, j ≠ 0 → j ≠ k → s j = mt j) → (∀ a, a ≠ 22 → s 0 a = mt 0 a) → (∀ a, s k a = if a < n then mt 13 (cur + a) else mt k a) → K s) : w_X9_passes k n mt K := by
  unfold w_X9_passes
  refine lo_rel (fun m i (s : St) => w_X9_passes_L2 k n K m (nI i) s) (fun i s => s 0 22 = nI (cur + i) ∧ (∀ j, j ≠ 0 → j ≠ k → s j = mt j) ∧ (∀ a, a ≠ 22 → s 0 a = mt 0 a) ∧ ∀ a, s k a = if a < i then mt 13 (cur + a) else mt k a) mt (Nat.zero_le n)
    ⟨hc, fun _ _ _ => rfl, fun _ _ => rfl, fun a => (if_neg (Nat.not_lt_zero a)).symm⟩ (fun s hI m => ?_) (fun m i s h1 h2 hI hw => ?_)
  · rw [w_X9_passes_L2, w_X9_passes_L2q]
    exact ⟨fun _ => hk s hI.1 hI.2.1 hI.2.2.1 hI.2.2.2, fun h9 => absurd (nI_le (Nat.le_refl n) (by omega)) h9⟩
  · obtain ⟨e1, e2, e3, e4⟩ := hI
    rw [w_X9_passes_L2, w_X9_passes_L2q]
    refine ⟨fun h9 => absurd h9 (nI_ge h2 (by omega)), fun _ => ⟨fun _ => ?_, fun h9 => ?_⟩⟩
    · rw [e1, clI (show i < 825 by omega) (by decide), clI (show cur + i < 825 by omega) (by decide)]
      refine ⟨vp_in_nI (by omega) (by decide), vp_in_nI h2 (by omega), ?_⟩
      rw [w_X9_passes_b42, nI_inc]
      refine hw _ ⟨?_, fun j a b => ?_, fun a ha => ?_, fun a => ?_⟩
      · rw [u2_same, u2_off (Ne.symm hk0), e1, nI_inc]; rfl
      · rw [u2_off a, u2_off b]; exact e2 j a b
      · rw [u2_ne (Or.inr ha), u2_off (Ne.symm hk0)]; exact e3 a ha
      · rw [u2_off hk0]
        by_cases h : a = i
        · subst h
          rw [u2_same, if_pos (by omega), e2 13 (by decide) (Ne.symm hk13)]
        · rw [u2_ne (Or.inr h), e4 a]
          by_cases h3 : a < i
          · rw [if_pos h3, if_pos (by omega)]
          · rw [if_neg h3, if_neg (by omega)]
    · rw [e3 21 (by decide), hf] at h9
      exact absurd rfl h9
theorem t_oneS {cur : Nat} {v : Int32} {mt : St} {K : Int32 → St → Prop} (hc : mt 0 22 = nI cur) (hf : mt 0 21 = 1) (hb : cur < 825) (hk : K v (u2 (u2 mt 13 cur v) 0 22 (nI (cur + 1)))) : w_X9_passOne v mt K := by
  unfold w_X9_passOne
  refine ⟨fun h9 => absurd (hf.symm.trans h9) (by decide), fun _ => ?_⟩
  rw [w_X9_passOne_b20]
  refine ⟨fun h9 => absurd (hf.symm.trans h9) (by decide), fun _ => ?_⟩
  rw [hc, clI hb (by decide), w_X9_passOne_b38, u2_off (by decide), hc, nI_inc]
  exact ⟨vp_in_nI hb (by decide), hk⟩
theorem t_oneR {cur : Nat} {v : Int32} {mt : St} {K : Int32 → St → Prop} (hc : mt 0 22 = nI cur) (hf : mt 0 21 = 0) (hb : cur < 825) (hk : K (mt 13 cur) (u2 mt 0 22 (nI (cur + 1)))) : w_X9_passOne v mt K := by
  unfold w_X9_passOne
  refine ⟨fun _ => ?_, fun h9 => absurd hf h9⟩
  rw [hc, clI hb (by decide), w_X9_passOne_b20]
  refine ⟨vp_in_nI hb (by decide), fun _ => ?_, fun h9 => absurd hf h9⟩
  rw [w_X9_passOne_b38, hc, nI_inc]
  exact hk
def lvM (mt : St) (i : Nat) : Int32 := if i < 6 then mt 2 i else if i < 12 then mt 3 (i - 6) else if i < 18 then mt 4 (i - 12) else if i < 54 then mt 5 (i - 18) else if i < 60 then mt 6 (i - 54) else if i < 66 then mt 7 (i - 60) else if i < 72 then mt 8 (i - 66) else if i = 72 then mt 0 8 else if i = 73 then mt 0 9 else mt 0 10
theorem c75 : ∀ w, w < 11 → 75 * nI w = nI (75 * w) := by decide +kernel
theorem t_saves {w : Nat} {mt : St} {K : St → Prop} (hw : w < 11) (hk : ∀ s : St, (∀ j, j ≠ 0 → j ≠ 13 → s j = mt j) → (∀ a, a ≠ 21 → a ≠ 22 → s 0 a = mt 0 a) → (∀ a, s 13 a = if 75 * w ≤ a ∧ a < 75 * w + 75 then lvM mt (a - 75 * w) else mt 13 a) → K s) : w_X9_passesAll (nI w) 1 mt K := by
  unfold w_X9_passesAll
  refine ⟨Or.inr rfl, ?_⟩
  rw [c75 w hw]
  refine t_passesS (cur := 75 * w) (by decide) (by decide) (by rw [u2_ne (Or.inr (by decide)), u2_same]) (by rw [u2_same]) (by omega) fun s1 a1 b1 c1 d1 => ?_
  refine t_passesS (cur := 75 * w + 6) (by decide) (by decide) (a1) (by rw [c1 21 (by decide), u2_same]) (by omega) fun s2 a2 b2 c2 d2 => ?_
  refine t_passesS (cur := 75 * w + 12) (by decide) (by decide) (a2) (by rw [c2 21 (by decide), c1 21 (by decide), u2_same]) (by omega) fun s3 a3 b3 c3 d3 => ?_
  refine t_passesS (cur := 75 * w + 18) (by decide) (by decide) (a3) (by rw [c3 21 (by decide), c2 21 (by decide), c1 21 (by decide), u2_same]) (by omega) fun s4 a4 b4 c4 d4 => ?_
  refine t_passesS (cur := 75 * w + 54) (by decide) (by decide) (a4) (by rw [c4 21 (by decide), c3 21 (by decide), c2 21 (by decide), c1 21 (by decide), u2_same]) (by omega) fun s5 a5 b5 c5 d5 => ?_
  refine t_passesS (cur := 75 * w + 60) (by decide) (by decide) (a5) (by rw [c5 21 (by decide), c4 21 (by decide), c3 21 (by decide), c2 21 (by decide), c1 21 (by decide), u2_same]) (by omega) fun s6 a6 b6 c6 d6 => ?_
  refine t_passesS (cur := 75 * w + 66) (by decide) (by decide) (a6) (by rw [c6 21 (by decide), c5 21 (by decide), c4 21 (by decide), c3 21 (by decide), c2 21 (by decide), c1 21 (by decide), u2_same]) (by omega) fun s7 a7 b7 c7 d7 => ?_
  have f7 : s7 0 21 = 1 := by rw [c7 21 (by decide), c6 21 (by decide), c5 21 (by decide), c4 21 (by decide), c3 21 (by decide), c2 21 (by decide), c1 21 (by decide), u2_same]
  have base0 : ∀ a, a ≠ 21 → a ≠ 22 → s7 0 a = mt 0 a := fun a h1 h2 => by rw [c7 a h2, c6 a h2, c5 a h2, c4 a h2, c3 a h2, c2 a h2, c1 a h2, u2_ne (Or.inr h1), u2_ne (Or.inr h2)]
  have baseJ : ∀ j, j ≠ 0 → j ≠ 13 → s7 j = mt j := fun j h1 h2 => by rw [b7 j h1 h2, b6 j h1 h2, b5 j h1 h2, b4 j h1 h2, b3 j h1 h2, b2 j h1 h2, b1 j h1 h2, u2_off h1, u2_off h1]
  have j2 : s1 3 = mt 3 := by rw [b1 3 (by decide) (by decide), u2_off (by decide), u2_off (by decide)]
  have j3 : s2 4 = mt 4 := by rw [b2 4 (by decide) (by decide), b1 4 (by decide) (by decide), u2_off (by decide), u2_off (by decide)]
  have j4 : s3 5 = mt 5 := by rw [b3 5 (by decide) (by decide), b2 5 (by decide) (by decide), b1 5 (by decide) (by decide), u2_off (by decide), u2_off (by decide)]
  have j5 : s4 6 = mt 6 := by rw [b4 6 (by decide) (by decide), b3 6 (by decide) (by decide), b2 6 (by decide) (by decide), b1 6 (by decide) (by decide), u2_off (by decide), u2_off (by decide)]
  have j6 : s5 7 = mt 7 := by rw [b5 7 (by decide) (by decide), b4 7 (by decide) (by decide), b3 7 (by decide) (by decide), b2 7 (by decide) (by decide), b1 7 (by decide) (by decide), u2_off (by decide), u2_off (by decide)]
  have j7 : s6 8 = mt 8 := by rw [b6 8 (by decide) (by decide), b5 8 (by decide) (by decide), b4 8 (by decide) (by decide), b3 8 (by decide) (by decide), b2 8 (by decide) (by decide), b1 8 (by decide) (by decide), u2_off (by decide), u2_off (by decide)]
  have j1 : u2 (u2 mt 0 22 (nI (75 * w))) 0 21 1 2 = mt 2 := by rw [u2_off (by decide), u2_off (by decide)]
  have j0 : u2 (u2 mt 0 22 (nI (75 * w))) 0 21 1 13 = mt 13 := by rw [u2_off (by decide), u2_off (by decide)]
  rw [j1, j0] at d1
  rw [j2] at d2
  rw [j3] at d3
  rw [j4] at d4
  rw [j5] at d5
  rw [j6] at d6
  rw [j7] at d7
  refine t_oneS (cur := 75 * w + 72) a7 f7 (by omega) ?_
  refine t_oneS (cur := 75 * w + 73) (by rw [u2_ne (Or.inr (by decide)), u2_same]) (by rw [u2_ne (Or.inr (by decide)), u2_ne (Or.inr (by decide)), u2_off (by decide)]; exact f7) (by omega) ?_
  refine t_oneS (cur := 75 * w + 74) (by rw [u2_ne (Or.inr (by decide)), u2_same]) (by rw [u2_ne (Or.inr (by decide)), u2_ne (Or.inr (by decide)), u2_off (by decide), u2_ne (Or.inr (by decide)), u2_ne (Or.inr (by decide)), u2_off (by decide)]; exact f7) (by omega) ?_
  have g8 : s7 0 8 = mt 0 8 := base0 8 (by decide) (by decide)
  have g9 : s7 0 9 = mt 0 9 := base0 9 (by decide) (by decide)
  have g10 : s7 0 10 = mt 0 10 := base0 10 (by decide) (by decide)
  refine hk _ (fun j h1 h2 => ?_) (fun a h1 h2 => ?_) (fun a => ?_)
  · simp only [u2_off h1, u2_off h2]; exact baseJ j h1 h2
  · by_cases e8 : a = 8
    · subst e8; simp [u2, u1, upd, g8]
    · by_cases e9 : a = 9
      · subst e9; simp [u2, u1, upd, g9]
      · by_cases e10 : a = 10
        · subst e10; simp [u2, u1, upd, g10]
        · rw [← base0 a h1 h2]; simp [u2, u1, upd, e8, e9, e10, h1, h2]
  · have z : a < 75 * w ∨ 75 * w + 75 ≤ a ∨ ∃ r, r < 75 ∧ a = 75 * w + r := by
      by_cases h1 : a < 75 * w
      · exact Or.inl h1
      · by_cases h2 : a < 75 * w + 75
        · exact Or.inr (Or.inr ⟨a - 75 * w, by omega, by omega⟩)
        · exact Or.inr (Or.inl (by omega))
    have out : (a < 75 * w ∨ 75 * w + 72 ≤ a) → s7 13 a = mt 13 a := fun h => by rw [d7, if_neg (by omega), d6, if_neg (by omega), d5, if_neg (by omega), d4, if_neg (by omega), d3, if_neg (by omega), d2, if_neg (by omega), d1, if_neg (by omega)]
    rcases z with z | z | ⟨r, hr, rfl⟩
    · rw [if_neg (by omega), ← out (Or.inl z)]
      simp [u2, u1, upd, show a ≠ 75 * w + 72 by omega, show a ≠ 75 * w + 73 by omega, show a ≠ 75 * w + 74 by omega]
    · rw [if_neg (by omega), ← out (Or.inr (by omega))]
      simp [u2, u1, upd, show a ≠ 75 * w + 72 by omega, show a ≠ 75 * w + 73 by omega, show a ≠ 75 * w + 74 by omega]
    · rw [if_pos ⟨by omega, by omega⟩, Nat.add_sub_cancel_left]
      by_cases r2 : r = 72
      · subst r2; simp [u2, u1, upd, lvM, g8]
      · by_cases r3 : r = 73
        · subst r3; simp [u2, u1, upd, lvM, g8, g9]
        · by_cases r4 : r = 74
          · subst r4; simp [u2, u1, upd, lvM, g8, g9, g10]
          · have q : s7 13 (75 * w + r) = lvM mt r := by
              unfold lvM
              by_cases k1 : r < 6
              · rw [d7, if_neg (by omega), d6, if_neg (by omega), d5, if_neg (by omega), d4, if_neg (by omega), d3, if_neg (by omega), d2, if_neg (by omega), d1, if_pos ⟨by omega, by omega⟩, if_pos k1]; congr 1; omega
              by_cases k2 : r < 12
              · rw [d7, if_neg (by omega), d6, if_neg (by omega), d5, if_neg (by omega), d4, if_neg (by omega), d3, if_neg (by omega), d2, if_pos ⟨by omega, by omega⟩, if_neg (show ¬ r < 6 by omega), if_pos k2]; congr 1; omega
              by_cases k3 : r < 18
              · rw [d7, if_neg (by omega), d6, if_neg (by omega), d5, if_neg (by omega), d4, if_neg (by omega), d3, if_pos ⟨by omega, by omega⟩, if_neg (show ¬ r < 6 by omega), if_neg (show ¬ r < 12 by omega), if_pos k3]; congr 1; omega
              by_cases k4 : r < 54
              · rw [d7, if_neg (by omega), d6, if_neg (by omega), d5, if_neg (by omega), d4, if_pos ⟨by omega, by omega⟩, if_neg (show ¬ r < 6 by omega), if_neg (show ¬ r < 12 by omega), if_neg (show ¬ r < 18 by omega), if_pos k4]; congr 1; omega
              by_cases k5 : r < 60
              · rw [d7, if_neg (by omega), d6, if_neg (by omega), d5, if_pos ⟨by omega, by omega⟩, if_neg (show ¬ r < 6 by omega), if_neg (show ¬ r < 12 by omega), if_neg (show ¬ r < 18 by omega), if_neg (show ¬ r < 54 by omega), if_pos k5]; congr 1; omega
              by_cases k6 : r < 66
              · rw [d7, if_neg (by omega), d6, if_pos ⟨by omega, by omega⟩, if_neg (show ¬ r < 6 by omega), if_neg (show ¬ r < 12 by omega), if_neg (show ¬ r < 18 by omega), if_neg (show ¬ r < 54 by omega), if_neg (show ¬ r < 60 by omega), if_pos k6]; congr 1; omega
              by_cases k7 : r < 72
              · rw [d7, if_pos ⟨by omega, by omega⟩, if_neg (show ¬ r < 6 by omega), if_neg (show ¬ r < 12 by omega), if_neg (show ¬ r < 18 by omega), if_neg (show ¬ r < 54 by omega), if_neg (show ¬ r < 60 by omega), if_neg (show ¬ r < 66 by omega), if_pos k7]; congr 1; omega
              omega
            rw [← q]
            simp [u2, u1, upd, show r ≠ 72 from r2, show r ≠ 73 from r3, show r ≠ 74 from r4]
end
section
/-! pure part: the check puts a kept country back -/
theorem RM_lv {n nL : Nat} {mt mt' : St} {c : Ct} (h : RM n nL mt c) (hl : ∀ i, i < 75 → lvM mt' i = lvM mt i) (h11 : mt' 0 11 = mt 0 11) : RM n nL mt' c := by
  obtain ⟨g1, g2, g3, g4, g5, g6, g7, g8⟩ := h
  have hn := g1.1
  have hL := g1.2.1
  have k2 : ∀ i, i < 6 → mt' 2 i = mt 2 i := fun i hi => by have e := hl i (by omega); simpa [lvM, hi] using e
  have k3 : ∀ i, i < 6 → mt' 3 i = mt 3 i := fun i hi => by have e := hl (6 + i) (by omega); simpa [lvM, show ¬ 6 + i < 6 by omega, show 6 + i < 12 by omega, show 6 + i - 6 = i by omega] using e
  have k4 : ∀ i, i < 6 → mt' 4 i = mt 4 i := fun i hi => by have e := hl (12 + i) (by omega); simpa [lvM, show ¬ 12 + i < 6 by omega, show ¬ 12 + i < 12 by omega, show 12 + i < 18 by omega, show 12 + i - 12 = i by omega] using e
  have k5 : ∀ i, i < 36 → mt' 5 i = mt 5 i := fun i hi => by have e := hl (18 + i) (by omega); simpa [lvM, show ¬ 18 + i < 6 by omega, show ¬ 18 + i < 12 by omega, show ¬ 18 + i < 18 by omega, show 18 + i < 54 by omega, show 18 + i - 18 = i by omega] using e
  have k6 : ∀ i, i < 6 → mt' 6 i = mt 6 i := fun i hi => by have e := hl (54 + i) (by omega); simpa [lvM, show ¬ 54 + i < 6 by omega, show ¬ 54 + i < 12 by omega, show ¬ 54 + i < 18 by omega, show ¬ 54 + i < 54 by omega, show 54 + i < 60 by omega, show 54 + i - 54 = i by omega] using e
  have k7 : ∀ i, i < 6 → mt' 7 i = mt 7 i := fun i hi => by have e := hl (60 + i) (by omega); simpa [lvM, show ¬ 60 + i < 6 by omega, show ¬ 60 + i < 12 by omega, show ¬ 60 + i < 18 by omega, show ¬ 60 + i < 54 by omega, show ¬ 60 + i < 60 by omega, show 60 + i < 66 by omega, show 60 + i - 60 = i by omega] using e
  have k8 : ∀ i, i < 6 → mt' 8 i = mt 8 i := fun i hi => by have e := hl (66 + i) (by omega); simpa [lvM, show ¬ 66 + i < 6 by omega, show ¬ 66 + i < 12 by omega, show ¬ 66 + i < 18 by omega, show ¬ 66 + i < 54 by omega, show ¬ 66 + i < 60 by omega, show ¬ 66 + i < 66 by omega, show 66 + i < 72 by omega, show 66 + i - 66 = i by omega] using e
  have z8 : mt' 0 8 = mt 0 8 := hl 72 (by decide)
  have z9 : mt' 0 9 = mt 0 9 := hl 73 (by decide)
  have z10 : mt' 0 10 = mt 0 10 := hl 74 (by decide)
  refine ⟨g1, g2, z8.trans g3, z9.trans g4, z10.trans g5, fun p hp => ?_, fun p q a b => ?_, fun l hl => ?_⟩
  · rw [k2 p (by omega), k3 p (by omega), k4 p (by omega), h11]
    exact g6 p hp
  · rw [k5 _ (by omega), k5 _ (by omega)]
    exact g7 p q a b
  · rw [k6 l (by omega), k7 l (by omega), k8 l (by omega)]
    exact g8 l hl
theorem t_puts {w : Nat} {mt : St} {K : St → Prop} (hw : w < 11) (hk : ∀ s : St, (∀ i, i < 75 → lvM s i = mt 13 (75 * w + i)) → (∀ j, j ≠ 0 → (j < 2 ∨ 8 < j) → s j = mt j) → (∀ a, a ≠ 8 → a ≠ 9 → a ≠ 10 → a ≠ 21 → a ≠ 22 → s 0 a = mt 0 a) → K s) : w_X9_passesAll (nI w) 0 mt K := by
  unfold w_X9_passesAll
  refine ⟨Or.inl rfl, ?_⟩
  rw [c75 w hw]
  refine t_passesR (cur := 75 * w) (by decide) (by decide) (by rw [u2_ne (Or.inr (by decide)), u2_same]) (by rw [u2_same]) (by omega) fun s1 a1 b1 c1 d1 => ?_
  refine t_passesR (cur := 75 * w + 6) (by decide) (by decide) (a1) (by rw [c1 21 (by decide), u2_same]) (by omega) fun s2 a2 b2 c2 d2 => ?_
  refine t_passesR (cur := 75 * w + 12) (by decide) (by decide) (a2) (by rw [c2 21 (by decide), c1 21 (by decide), u2_same]) (by omega) fun s3 a3 b3 c3 d3 => ?_
  refine t_passesR (cur := 75 * w + 18) (by decide) (by decide) (a3) (by rw [c3 21 (by decide), c2 21 (by decide), c1 21 (by decide), u2_same]) (by omega) fun s4 a4 b4 c4 d4 => ?_
  refine t_passesR (cur := 75 * w + 54) (by decide) (by decide) (a4) (by rw [c4 21 (by decide), c3 21 (by decide), c2 21 (by decide), c1 21 (by decide), u2_same]) (by omega) fun s5 a5 b5 c5 d5 => ?_
  refine t_passesR (cur := 75 * w + 60) (by decide) (by decide) (a5) (by rw [c5 21 (by decide), c4 21 (by decide), c3 21 (by decide), c2 21 (by decide), c1 21 (by decide), u2_same]) (by omega) fun s6 a6 b6 c6 d6 => ?_
  refine t_passesR (cur := 75 * w + 66) (by decide) (by decide) (a6) (by rw [c6 21 (by decide), c5 21 (by decide), c4 21 (by decide), c3 21 (by decide), c2 21 (by decide), c1 21 (by decide), u2_same]) (by omega) fun s7 a7 b7 c7 d7 => ?_
  have f7 : s7 0 21 = 0 := by rw [c7 21 (by decide), c6 21 (by decide), c5 21 (by decide), c4 21 (by decide), c3 21 (by decide), c2 21 (by decide), c1 21 (by decide), u2_same]
  have base0 : ∀ a, a ≠ 21 → a ≠ 22 → s7 0 a = mt 0 a := fun a h1 h2 => by rw [c7 a h2, c6 a h2, c5 a h2, c4 a h2, c3 a h2, c2 a h2, c1 a h2, u2_ne (Or.inr h1), u2_ne (Or.inr h2)]
  have baseJ : ∀ j, j ≠ 0 → (j < 2 ∨ 8 < j) → s7 j = mt j := fun j h1 h2 => by rw [b7 j h1 (by omega), b6 j h1 (by omega), b5 j h1 (by omega), b4 j h1 (by omega), b3 j h1 (by omega), b2 j h1 (by omega), b1 j h1 (by omega), u2_off h1, u2_off h1]
  have e13 : s7 13 = mt 13 := baseJ 13 (by decide) (by decide)
  have r1 : ∀ i, i < 6 → s7 2 i = mt 13 (75 * w + i) := fun i hi => by rw [b7 2 (by decide) (by decide), b6 2 (by decide) (by decide), b5 2 (by decide) (by decide), b4 2 (by decide) (by decide), b3 2 (by decide) (by decide), b2 2 (by decide) (by decide), d1, if_pos hi, u2_off (by decide), u2_off (by decide)]
  have r2 : ∀ i, i < 6 → s7 3 i = mt 13 (75 * w + 6 + i) := fun i hi => by rw [b7 3 (by decide) (by decide), b6 3 (by decide) (by decide), b5 3 (by decide) (by decide), b4 3 (by decide) (by decide), b3 3 (by decide) (by decide), d2, if_pos hi, b1 13 (by decide) (by decide), u2_off (by decide), u2_off (by decide)]
  have r3 : ∀ i, i < 6 → s7 4 i = mt 13 (75 * w + 12 + i) := fun i hi => by rw [b7 4 (by decide) (by decide), b6 4 (by decide) (by decide), b5 4 (by decide) (by decide), b4 4 (by decide) (by decide), d3, if_pos hi, b2 13 (by decide) (by decide), b1 13 (by decide) (by decide), u2_off (by decide), u2_off (by decide)]
  have r4 : ∀ i, i < 36 → s7 5 i = mt 13 (75 * w + 18 + i) := fun i hi => by rw [b7 5 (by decide) (by decide), b6 5 (by decide) (by decide), b5 5 (by decide) (by decide), d4, if_pos hi, b3 13 (by decide) (by decide), b2 13 (by decide) (by decide), b1 13 (by decide) (by decide), u2_off (by decide), u2_off (by decide)]
  have r5 : ∀ i, i < 6 → s7 6 i = mt 13 (75 * w + 54 + i) := fun i hi => by rw [b7 6 (by decide) (by decide), b6 6 (by decide) (by decide), d5, if_pos hi, b4 13 (by decide) (by decide), b3 13 (by decide) (by decide), b2 13 (by decide) (by decide), b1 13 (by decide) (by decide), u2_off (by decide), u2_off (by decide)]
  have r6 : ∀ i, i < 6 → s7 7 i = mt 13 (75 * w + 60 + i) := fun i hi => by rw [b7 7 (by decide) (by decide), d6, if_pos hi, b5 13 (by decide) (by decide), b4 13 (by decide) (by decide), b3 13 (by decide) (by decide), b2 13 (by decide) (by decide), b1 13 (by decide) (by decide), u2_off (by decide), u2_off (by decide)]
  have r7 : ∀ i, i < 6 → s7 8 i = mt 13 (75 * w + 66 + i) := fun i hi => by rw [d7, if_pos hi, b6 13 (by decide) (by decide), b5 13 (by decide) (by decide), b4 13 (by decide) (by decide), b3 13 (by decide) (by decide), b2 13 (by decide) (by decide), b1 13 (by decide) (by decide), u2_off (by decide), u2_off (by decide)]
  refine t_oneR (cur := 75 * w + 72) a7 f7 (by omega) ?_
  refine t_oneR (cur := 75 * w + 73) (by rw [u2_ne (Or.inr (by decide)), u2_same]) (by rw [u2_ne (Or.inr (by decide)), u2_ne (Or.inr (by decide))]; exact f7) (by omega) ?_
  refine t_oneR (cur := 75 * w + 74) (by rw [u2_ne (Or.inr (by decide)), u2_same]) (by rw [u2_ne (Or.inr (by decide)), u2_ne (Or.inr (by decide)), u2_ne (Or.inr (by decide)), u2_ne (Or.inr (by decide))]; exact f7) (by omega) ?_
  refine hk _ (fun i hi => ?_) (fun j h1 h2 => ?_) (fun a q8 q9 q10 h1 h2 => ?_)
  · unfold lvM
    simp only [u2_off (show (2 : Nat) ≠ 0 by decide), u2_off (show (3 : Nat) ≠ 0 by decide), u2_off (show (4 : Nat) ≠ 0 by decide), u2_off (show (5 : Nat) ≠ 0 by decide), u2_off (show (6 : Nat) ≠ 0 by decide), u2_off (show (7 : Nat) ≠ 0 by decide), u2_off (show (8 : Nat) ≠ 0 by decide), u2_off (show (13 : Nat) ≠ 0 by decide), e13]
    by_cases k1 : i < 6
    · rw [if_pos k1, r1 _ (by omega)]
    rw [if_neg k1]
    by_cases k2 : i < 12
    · rw [if_pos k2, r2 _ (by omega)]; congr 1; omega
    rw [if_neg k2]
    by_cases k3 : i < 18
    · rw [if_pos k3, r3 _ (by omega)]; congr 1; omega
    rw [if_neg k3]
    by_cases k4 : i < 54
    · rw [if_pos k4, r4 _ (by omega)]; congr 1; omega
    rw [if_neg k4]
    by_cases k5 : i < 60
    · rw [if_pos k5, r5 _ (by omega)]; congr 1; omega
    rw [if_neg k5]
    by_cases k6 : i < 66
    · rw [if_pos k6, r6 _ (by omega)]; congr 1; omega
    rw [if_neg k6]
    by_cases k7 : i < 72
    · rw [if_pos k7, r7 _ (by omega)]; congr 1; omega
    rw [if_neg k7]
    by_cases k8 : i = 72
    · subst k8; rw [if_pos rfl]; simp [u2, u1, upd]
    rw [if_neg k8]
    by_cases k9 : i = 73
    · subst k9; rw [if_pos rfl]; simp [u2, u1, upd]
    rw [if_neg k9]
    have : i = 74 := by omega
    subst this
    simp [u2, u1, upd]
  · simp only [u2_off h1]; exact baseJ j h1 h2
  · rw [← base0 a h1 h2]; simp [u2, u1, upd, q8, q9, q10, h2]
end
section
/-! pure part: the check thinks, and forgets -/
theorem t_thinks {mt : St} {K : St → Prop} (hk : ∀ s : St, (∀ j, j ≠ 0 → j ≠ 13 → s j = mt j) → (∀ a, a ≠ 21 → a ≠ 22 → s 0 a = mt 0 a) → (∀ i, i < 75 → s 13 (150 + i) = lvM mt i) → (∀ a, (a < 150 ∨ 225 ≤ a) → s 13 a = mt 13 a) → K s) : w_X9_thinks mt K := by
  unfold w_X9_thinks
  refine t_saves (w := 2) (by decide) fun s h1 h2 h3 => hk s h1 h2 (fun i hi => ?_) (fun a ha => ?_)
  · rw [h3, if_pos ⟨by omega, by omega⟩, show 150 + i - 75 * 2 = i by omega]
  · rw [h3, if_neg (by omega)]
theorem t_forgets {mt : St} {K : St → Prop} (hk : ∀ s : St, (∀ i, i < 75 → lvM s i = mt 13 (150 + i)) → (∀ j, j ≠ 0 → (j < 2 ∨ 8 < j) → s j = mt j) → (∀ a, a ≠ 8 → a ≠ 9 → a ≠ 10 → a ≠ 21 → a ≠ 22 → s 0 a = mt 0 a) → K s) : w_X9_forgets mt K := by
  unfold w_X9_forgets
  exact t_puts (w := 2) (by decide) fun s h1 h2 h3 => hk s h1 h2 h3
end
section
/-! pure part: small rows of the check; thoughts and what they leave -/
theorem t_isIn {v a b : Int32} {mt : St} {K : Int32 → St → Prop} (h : K (if v < a then 0 else if b < v then 0 else 1) mt) : w_X9_isIn v a b mt K := by
  unfold w_X9_isIn
  refine ⟨fun h1 => ?_, fun h1 => ⟨fun h2 => ?_, fun h2 => ?_⟩⟩ <;> simpa [h1, *] using h
theorem t_bound {v a b : Int32} {mt : St} {K : Int32 → St → Prop} (h : K (rangeF v a b) mt) : w_X9_bound v a b mt K := by
  unfold w_X9_bound
  unfold rangeF at h
  refine ⟨fun h1 => ⟨fun h2 => ?_, fun h2 => ?_⟩, fun h1 => ?_⟩
  · rw [if_neg (i_nlt.mpr h1), if_neg (i_nlt.mpr h2)] at h; exact h
  · rw [if_neg (i_nlt.mpr h1), if_pos (i_nle.mp h2)] at h; exact h
  · rw [if_pos (i_nle.mp h1)] at h; exact h
theorem t_notWeeks {v : Int32} {mt : St} {K : Int32 → St → Prop} (h : K (rangeF v 0 60) mt) : w_X9_notWeeks v mt K := by
  unfold w_X9_notWeeks
  exact t_bound h
def rOk (r : Int32) : Prop := r = -1 ∨ r = -2 ∨ r = -3 ∨ r = -4 ∨ r = -6
def rI (r : Int32) : Nat := (-r).toNatClampNeg
theorem rI_in {r : Int32} (h : rOk r) : vp_in (-r) 7 ∧ rI r < 7 ∧ -r = nI (rI r) := by
  rcases h with rfl | rfl | rfl | rfl | rfl
  · exact ⟨by rw [show -(-1 : Int32) = nI 1 by decide]; exact vp_in_nI (by decide) (by decide), by decide, by decide⟩
  · exact ⟨by rw [show -(-2 : Int32) = nI 2 by decide]; exact vp_in_nI (by decide) (by decide), by decide, by decide⟩
  · exact ⟨by rw [show -(-3 : Int32) = nI 3 by decide]; exact vp_in_nI (by decide) (by decide), by decide, by decide⟩
  · exact ⟨by rw [show -(-4 : Int32) = nI 4 by decide]; exact vp_in_nI (by decide) (by decide), by decide, by decide⟩
  · exact ⟨by rw [show -(-6 : Int32) = nI 6 by decide]; exact vp_in_nI (by decide) (by decide), by decide, by decide⟩
def refS (st : St) (r : Int32) : St := u2 st 1 (rI r) (st 1 (rI r) + 1)
theorem t_no {r : Int32} {mt : St} {K : Int32 → St → Prop} (hr : rOk r) (h : K r (refS mt r)) : w_X9_no r mt K := ⟨(rI_in hr).1, (rI_in hr).1, h⟩
theorem t_lower {r : Int32} {mt : St} {K : Int32 → St → Prop} (hr : rOk r) (h : K (1000000000 - r) (refS mt r)) : w_X9_lower r mt K := ⟨(rI_in hr).1, (rI_in hr).1, h⟩
theorem t_lowestOf {r : Int32} {mt : St} {K : Int64 → St → Prop} (hr : rOk r) (h : K (4000000000000000000 - r.toInt64) (refS mt r)) : w_X9_lowestOf r mt K := ⟨(rI_in hr).1, (rI_in hr).1, h⟩
def isF (n : Nat) (x : Int32) : Int32 := if x < 0 then 0 else if nI n ≤ x then 0 else 1
theorem isF_01 (n : Nat) (x : Int32) : isF n x = 0 ∨ isF n x = 1 := by
  unfold isF
  split
  · exact Or.inl rfl
  · split
    · exact Or.inl rfl
    · exact Or.inr rfl
theorem isF_1 {n : Nat} (hn : n < 2147483648) {x : Int32} (h : ¬ isF n x = 0) : ∃ p, p < n ∧ x = nI p := by
  unfold isF at h
  by_cases h1 : x < 0
  · rw [if_pos h1] at h; exact absurd rfl h
  · rw [if_neg h1] at h
    by_cases h2 : nI n ≤ x
    · rw [if_pos h2] at h; exact absurd rfl h
    · obtain ⟨j, hj, rfl⟩ := nI_of h1
      exact ⟨j, Nat.not_le.mp fun q => h2 (nI_le q hj), rfl⟩
theorem isF_in {n p : Nat} (hn : n < 2147483648) (h : p < n) : isF n (nI p) = 1 := by
  unfold isF
  rw [if_neg (n_lt0 (show p < 2147483648 by omega)), if_neg (nI_ge h hn)]
theorem isF_in0 {n p : Nat} (hn : n < 2147483648) (h : p < n) : ¬ isF n (nI p) = 0 := by
  rw [isF_in hn h]; decide
theorem t_isKeeper {n : Nat} {x : Int32} {mt : St} {K : Int32 → St → Prop} (h8 : mt 0 8 = nI n) (h : K (isF n x) mt) : w_X9_isKeeper x mt K := by
  unfold w_X9_isKeeper
  rw [h8]
  refine ⟨fun h1 => ?_, fun h1 => ⟨fun h2 => ?_, fun h2 => ?_⟩⟩ <;> simpa [isF, h1, *] using h
theorem t_isLetter {n : Nat} {x : Int32} {mt : St} {K : Int32 → St → Prop} (h8 : mt 0 9 = nI n) (h : K (isF n x) mt) : w_X9_isLetter x mt K := by
  unfold w_X9_isLetter
  rw [h8]
  refine ⟨fun h1 => ?_, fun h1 => ⟨fun h2 => ?_, fun h2 => ?_⟩⟩ <;> simpa [isF, h1, *] using h
theorem t_isTown {x : Int32} {mt : St} {K : Int32 → St → Prop} (h : K (townF x) mt) : w_X9_isTown x mt K := by
  unfold w_X9_isTown
  refine ⟨fun h1 => ?_, fun h1 => ⟨fun h2 => ?_, fun h2 => ?_⟩⟩ <;> simpa [townF, h1, *] using h
theorem townF_isF (x : Int32) : townF x = isF 4 x := rfl
def twF (n : Nat) (x y : Int32) : Int32 := if isF n x = 0 then 0 else if isF n y = 0 then 0 else if x = y then 0 else 1
theorem twF_1 {n : Nat} (hn : n < 2147483648) {x y : Int32} (h : ¬ twF n x y = 0) : ∃ p q, p < n ∧ q < n ∧ p ≠ q ∧ x = nI p ∧ y = nI q := by
  unfold twF at h
  by_cases h1 : isF n x = 0
  · rw [if_pos h1] at h; exact absurd rfl h
  · by_cases h2 : isF n y = 0
    · rw [if_neg h1, if_pos h2] at h; exact absurd rfl h
    · by_cases h3 : x = y
      · rw [if_neg h1, if_neg h2, if_pos h3] at h; exact absurd rfl h
      · obtain ⟨p, hp, rfl⟩ := isF_1 hn h1
        obtain ⟨q, hq, rfl⟩ := isF_1 hn h2
        exact ⟨p, q, hp, hq, fun e => h3 (by rw [e]), rfl, rfl⟩
theorem t_areTwo {n : Nat} {x y : Int32} {mt : St} {K : Int32 → St → Prop} (h8 : mt 0 8 = nI n) (h : K (twF n x y) mt) : w_X9_areTwo x y mt K := by
  unfold w_X9_areTwo
  refine t_isKeeper h8 ⟨fun h1 => ?_, fun h1 => t_isKeeper h8 ⟨fun h2 => ?_, fun h2 => ⟨fun h3 => ?_, fun h3 => ?_⟩⟩⟩ <;> simpa [twF, h1, *] using h
theorem bits_pc : ∀ n, n < 256 → fr 0 31 (fun k (s : Int32) => s + ((nI n >>> (nI k &&& 31)) &&& 1)) 0 = nI (pc n) := by decide +kernel
theorem t_bits {b : Nat} {mt : St} {K : Int32 → St → Prop} (hb : b < 256) (h : K (nI (pc b)) mt) : w_X9_bits (nI b) mt K := by
  unfold w_X9_bits
  refine lo_fr (fun m k s => w_X9_bits_L4 (nI b) K m s (nI k) mt) (fun k (s : Int32) => s + ((nI b >>> (nI k &&& 31)) &&& 1)) (fun _ _ => True) (0 : Int32) (Nat.zero_le 31) trivial (fun _ _ _ _ _ => trivial) (fun _ m => ?_) (fun m k s _ h2 _ hw => ?_)
  · rw [w_X9_bits_L4, w_X9_bits_L4q, bits_pc b hb]
    exact ⟨fun _ => h, fun h9 => absurd (nI_le (Nat.le_refl 31) (by decide)) h9⟩
  · rw [w_X9_bits_L4, w_X9_bits_L4q]
    refine ⟨fun h9 => absurd h9 (nI_ge h2 (by decide)), fun _ => ?_⟩
    rw [nI_inc]
    exact hw
theorem oo_bit : ∀ b, b < 64 → ∀ l, l < 6 → nI (b % 2 ^ l) ||| ((if b.testBit l then (1 : Int32) else 0) <<< (nI l &&& 31)) = nI (b % 2 ^ (l + 1)) := by decide +kernel
theorem t_openOnes {n nL : Nat} {mt : St} {c : Ct} {K : Int32 → St → Prop} (h : RM n nL mt c) (hk : K (nI (ob c)) mt) : w_X9_openOnes mt K := by
  have hv := h.1
  obtain ⟨-, hL, -, -, -, -, h7⟩ := hv
  unfold w_X9_openOnes
  refine lo_rel (fun m l (s : Int32) => w_X9_openOnes_L4 K m s (nI l) mt) (fun l s => s = nI (ob c % 2 ^ l)) (0 : Int32) (Nat.zero_le nL) (by rw [Nat.pow_zero, Nat.mod_one]; rfl) (fun s e m => ?_) (fun m l s _ h2 e hw => ?_)
  · rw [w_X9_openOnes_L4, w_X9_openOnes_L4q, h.2.2.2.1, e, Nat.mod_eq_of_lt h7]
    exact ⟨fun _ => hk, fun h9 => absurd (nI_le (Nat.le_refl nL) (by omega)) h9⟩
  · rw [w_X9_openOnes_L4, w_X9_openOnes_L4q, h.2.2.2.1]
    refine ⟨fun h9 => absurd h9 (nI_ge h2 (by omega)), fun _ => ⟨vp_in_nI (show l < 6 by omega) (by decide), ?_⟩⟩
    rw [clI (show l < 6 by omega) (by decide), (h.2.2.2.2.2.2.2 l h2).2.2.2, e, oo_bit _ (p64 hL h7) l (by omega), nI_inc]
    exact hw _ rfl
def allF (n : Nat) (c : Ct) : Int32 := fr 0 n (fun p s => fr (p + 1) n (fun q (s : Int32) => s + c 4 (hI p q)) s) 0
theorem t_allHate {n nL : Nat} {mt : St} {c : Ct} {K : Int32 → St → Prop} (h : RM n nL mt c) (hk : K (allF n c) mt) : w_X9_allHate mt K := by
  have hn := h.1.1
  have h8 := h.2.2.1
  unfold w_X9_allHate
  refine lo_fr (fun m p s => w_X9_allHate_L4 K m s (nI p) mt) (fun p s => fr (p + 1) n (fun q (s : Int32) => s + c 4 (hI p q)) s) (fun _ _ => True) (0 : Int32) (Nat.zero_le n) trivial (fun _ _ _ _ _ => trivial) (fun _ m => ?_) (fun m p s _ h2 _ hw => ?_)
  · rw [w_X9_allHate_L4, w_X9_allHate_L4q, h8]
    exact ⟨fun _ => hk, fun h9 => absurd (nI_le (Nat.le_refl n) (by omega)) h9⟩
  · rw [w_X9_allHate_L4, w_X9_allHate_L4q, h8]
    refine ⟨fun h9 => absurd h9 (nI_ge h2 (by omega)), fun _ => ?_⟩
    rw [nI_inc]
    refine lo_fr (fun k q s => w_X9_allHate_L16 (fun v1 v2 st => w_X9_allHate_L4 K m v1 v2 st) K k s (nI p) (nI q) mt) (fun q (s : Int32) => s + c 4 (hI p q)) (fun _ _ => True) s (show p + 1 ≤ n by omega) trivial (fun _ _ _ _ _ => trivial) (fun _ k => ?_) (fun k q s h1 h2' _ hw2 => ?_)
    · rw [w_X9_allHate_L16, w_X9_allHate_L16q, h8]
      refine ⟨fun _ => ?_, fun h9 => absurd (nI_le (Nat.le_refl n) (by omega)) h9⟩
      rw [w_X9_allHate_b39, nI_inc]
      exact hw
    · rw [w_X9_allHate_L16, w_X9_allHate_L16q, h8]
      refine ⟨fun h9 => absurd h9 (nI_ge h2' (by omega)), fun _ => t_hateOf (by omega) (by omega) ?_⟩
      rw [nI_inc, (h.2.2.2.2.2.2.1 p q (by omega) h2').1]
      exact hw2
/-- a thought leaves all that isn't scratch -/
def hf (mt s : St) : Prop := (∀ i, i < 75 → lvM s i = lvM mt i) ∧ (∀ j, j ≠ 0 → (j < 2 ∨ 8 < j) → j ≠ 13 → j ≠ 14 → s j = mt j) ∧ (∀ a, a ≠ 8 → a ≠ 9 → a ≠ 10 → a ≠ 21 → a ≠ 22 → a ≠ 25 → a ≠ 26 → s 0 a = mt 0 a) ∧ ∀ a, (a < 150 ∨ 225 ≤ a) → s 13 a = mt 13 a
/-- s is a thought begun in mt -/
def th (mt s : St) : Prop := (∀ i, i < 75 → s 13 (150 + i) = lvM mt i) ∧ (∀ j, j ≠ 0 → (j < 2 ∨ 8 < j) → j ≠ 13 → j ≠ 14 → s j = mt j) ∧ (∀ a, a ≠ 8 → a ≠ 9 → a ≠ 10 → a ≠ 21 → a ≠ 22 → a ≠ 25 → a ≠ 26 → s 0 a = mt 0 a) ∧ ∀ a, (a < 150 ∨ 225 ≤ a) → s 13 a = mt 13 a
theorem hf_rf {mt : St} : hf mt mt := ⟨fun _ _ => rfl, fun _ _ _ _ _ => rfl, fun _ _ _ _ _ _ _ _ => rfl, fun _ _ => rfl⟩
theorem hf.tr {a b c : St} (h1 : hf a b) (h2 : hf b c) : hf a c :=
  ⟨fun i hi => (h2.1 i hi).trans (h1.1 i hi), fun j p q r s => (h2.2.1 j p q r s).trans (h1.2.1 j p q r s), fun j p q r s t u v => (h2.2.2.1 j p q r s t u v).trans (h1.2.2.1 j p q r s t u v), fun j p => (h2.2.2.2 j p).trans (h1.2.2.2 j p)⟩
theorem th.wf {mt s s' : St} (h : th mt s) (w : wf s s') : th mt s' :=
  ⟨fun i hi => by rw [w.1 13 (by decide) (by decide) (by decide) (by decide)]; exact h.1 i hi, fun j p q r t => by rw [w.1 j p (by omega) (by omega) t]; exact h.2.1 j p q r t,
    fun a p q r t u v x => by rw [w.2 a (by omega) (by omega)]; exact h.2.2.1 a p q r t u v x, fun a p => by rw [w.1 13 (by decide) (by decide) (by decide) (by decide)]; exact h.2.2.2 a p⟩
theorem th_u2 {mt s : St} {j i : Nat} {v : Int32} (h : th mt s) (hj : 2 ≤ j ∧ j ≤ 8) : th mt (u2 s j i v) :=
  ⟨fun a ha => by rw [u2_off (by omega)]; exact h.1 a ha, fun k p q r t => by rw [u2_off (by omega)]; exact h.2.1 k p q r t, fun a p q r t u w x => by rw [u2_off (by omega)]; exact h.2.2.1 a p q r t u w x, fun a p => by rw [u2_off (by omega)]; exact h.2.2.2 a p⟩
theorem th_u26 {mt s : St} {v : Int32} (h : th mt s) : th mt (u2 s 0 26 v) :=
  ⟨fun a ha => by rw [u2_off (by decide)]; exact h.1 a ha, fun k p q r t => by rw [u2_off p]; exact h.2.1 k p q r t, fun a p q r t u w x => by rw [u2_ne (Or.inr x)]; exact h.2.2.1 a p q r t u w x, fun a p => by rw [u2_off (by decide)]; exact h.2.2.2 a p⟩
theorem hf_u26 {mt : St} {v : Int32} : hf mt (u2 mt 0 26 v) :=
  ⟨fun i hi => by
    unfold lvM
    simp only [u2_off (show (2 : Nat) ≠ 0 by decide), u2_off (show (3 : Nat) ≠ 0 by decide), u2_off (show (4 : Nat) ≠ 0 by decide), u2_off (show (5 : Nat) ≠ 0 by decide), u2_off (show (6 : Nat) ≠ 0 by decide), u2_off (show (7 : Nat) ≠ 0 by decide), u2_off (show (8 : Nat) ≠ 0 by decide), u2_ne (Or.inr (show (8 : Nat) ≠ 26 by decide)), u2_ne (Or.inr (show (9 : Nat) ≠ 26 by decide)), u2_ne (Or.inr (show (10 : Nat) ≠ 26 by decide))], fun k p q r t => u2_off p, fun a p q r t u w x => u2_ne (Or.inr x), fun a p => by rw [u2_off (by decide)]⟩
theorem RM_bec {n nL : Nat} {mt : St} {c : Ct} (h : RM n nL mt c) : RM n nL mt (bec c) := by
  have e : ∀ j, j ≠ 7 → bec c j = c j := fun j hj => if_neg hj
  obtain ⟨g1, g2, g3, g4, g5, g6, g7, g8⟩ := h
  have eo : ob (bec c) = ob c := by unfold ob; rw [e 0 (by decide)]
  refine ⟨?_, fun p q a b => by rw [e 4 (by decide)]; exact g2 p q a b, g3, g4, by rw [e 0 (by decide)]; exact g5, fun p hp => by rw [e 1 (by decide), e 2 (by decide), e 3 (by decide)]; exact g6 p hp, fun p q a b => by rw [e 4 (by decide)]; exact g7 p q a b, fun l hl => by rw [e 5 (by decide), e 6 (by decide), eo]; exact g8 l hl⟩
  obtain ⟨h1, h2, h3, h4, h5, h6, h7⟩ := g1
  exact ⟨h1, h2, by rw [e 0 (by decide)]; exact h3, by rw [e 0 (by decide)]; exact h4, fun l hl => by rw [e 5 (by decide)]; exact h5 l hl, by rw [eo, e 0 (by decide)]; exact h6, by rw [eo]; exact h7⟩
theorem RM_hf {n nL : Nat} {mt s : St} {c : Ct} (h : RM n nL mt c) (e : hf mt s) : RM n nL s c := RM_lv h e.1 (e.2.2.1 11 (by decide) (by decide) (by decide) (by decide) (by decide) (by decide) (by decide))
theorem t_think {n nL : Nat} {mt : St} {c : Ct} {K : St → Prop} (h : RM n nL mt c) (hk : ∀ s, RM n nL s (bec c) → th mt s → K s) : w_X9_thinks mt K := by
  refine t_thinks fun s h1 h2 h3 h4 => hk s ?_ ⟨h3, fun j a b c d => h1 j a c, fun a p q r t u v w => h2 a t u, h4⟩
  refine RM_bec (RM_lv h (fun i hi => ?_) (h2 11 (by decide) (by decide)))
  unfold lvM
  rw [h1 2 (by decide) (by decide), h1 3 (by decide) (by decide), h1 4 (by decide) (by decide), h1 5 (by decide) (by decide), h1 6 (by decide) (by decide), h1 7 (by decide) (by decide), h1 8 (by decide) (by decide), h2 8 (by decide) (by decide), h2 9 (by decide) (by decide), h2 10 (by decide) (by decide)]
theorem t_forget {mt s : St} {K : St → Prop} (h : th mt s) (hk : ∀ s', hf mt s' → s' 14 = s 14 → s' 0 26 = s 0 26 → K s') : w_X9_forgets s K := by
  refine t_forgets fun s' h1 h2 h3 => hk s' ⟨fun i hi => (h1 i hi).trans (h.1 i hi), fun j a b c d => (h2 j a b).trans (h.2.1 j a b c d), fun a p q r t u v w => (h3 a p q r t u).trans (h.2.2.1 a p q r t u v w), fun a p => by rw [h2 13 (by decide) (by decide)]; exact h.2.2.2 a p⟩ (h2 14 (by decide) (by decide)) (h3 26 (by decide) (by decide) (by decide) (by decide) (by decide))
/-- what the weeks in mind come to -/
def wkF (n nL w : Nat) (c : Ct) : Ct := weeksF n nL w (bec c)
theorem t_hateIn {n nL p q w : Nat} {mt : St} {c : Ct} {K : Int32 → St → Prop} (hw : w < 2147483648) (h : RM n nL mt c) (hp : p < n) (hq : q < n) (hpq : p ≠ q) (hk : ∀ mt', hf mt mt' → K (wkF n nL w c 4 (hI p q)) mt') : w_X9_hateIn (nI p) (nI q) (nI w) mt K := by
  have hn := h.1.1
  unfold w_X9_hateIn
  refine t_think h fun s e1 e2 => t_goesOn hw e1 fun s1 e3 e4 => t_hateOf (by omega) (by omega) (t_forget (e2.wf e4) fun s' e5 _ _ => ?_)
  have e6 : s1 5 (6 * p + q) = wkF n nL w c 4 (hI p q) := by
    have r := e3.2.2.2.2.2.2.1
    rcases Nat.lt_or_gt_of_ne hpq with z | z
    · exact (r p q z hq).1
    · have := (r q p z hp).2
      rw [this]
      show _ = weeksF n nL w (bec c) 4 (hI p q)
      congr 1
      unfold hI; omega
  rw [e6]
  exact hk s' e5
theorem t_openIn {n nL w : Nat} {mt : St} {c : Ct} {K : Int32 → St → Prop} (hw : w < 2147483648) (h : RM n nL mt c) (hk : ∀ mt', hf mt mt' → K (nI (ob (wkF n nL w c))) mt') : w_X9_openIn (nI w) mt K := by
  unfold w_X9_openIn
  exact t_think h fun s e1 e2 => t_goesOn hw e1 fun s1 e3 e4 => t_openOnes e3 (t_forget (e2.wf e4) fun s' e5 _ _ => hk s' e5)
end
section
/-! pure part: the relation of the class's world and the check's -/
def unl (f : Nat → Int32) : St := fun k i => if k = 2 then f i else if k = 3 then f (6 + i) else if k = 4 then f (12 + i) else if k = 5 then f (18 + i) else if k = 6 then f (54 + i) else if k = 7 then f (60 + i) else if k = 8 then f (66 + i) else if k = 0 then (if i = 8 then f 72 else if i = 9 then f 73 else if i = 10 then f 74 else 0) else 0
theorem lv_unl {f : Nat → Int32} {i : Nat} (h : i < 75) : lvM (unl f) i = f i := by
  unfold lvM
  by_cases k1 : i < 6
  · rw [if_pos k1]; rfl
  rw [if_neg k1]
  by_cases k2 : i < 12
  · rw [if_pos k2]; show f (6 + (i - 6)) = f i; congr 1; omega
  rw [if_neg k2]
  by_cases k3 : i < 18
  · rw [if_pos k3]; show f (12 + (i - 12)) = f i; congr 1; omega
  rw [if_neg k3]
  by_cases k4 : i < 54
  · rw [if_pos k4]; show f (18 + (i - 18)) = f i; congr 1; omega
  rw [if_neg k4]
  by_cases k5 : i < 60
  · rw [if_pos k5]; show f (54 + (i - 54)) = f i; congr 1; omega
  rw [if_neg k5]
  by_cases k6 : i < 66
  · rw [if_pos k6]; show f (60 + (i - 60)) = f i; congr 1; omega
  rw [if_neg k6]
  by_cases k7 : i < 72
  · rw [if_pos k7]; show f (66 + (i - 66)) = f i; congr 1; omega
  rw [if_neg k7]
  by_cases k8 : i = 72
  · subst k8; rfl
  rw [if_neg k8]
  by_cases k9 : i = 73
  · subst k9; rfl
  rw [if_neg k9]
  have : i = 74 := by omega
  subst this
  rfl
/-- a country in good order -/
def gC (n nL : Nat) (c : Ct) : Prop := zC c ∧ (∀ p, p < n → ∃ t, t < 4 ∧ c 3 p = nI t) ∧ (∀ l, l < nL → ∃ t, t < 4 ∧ c 6 l = nI t) ∧ (∀ l, l < nL → ∃ d, d ≤ 99 ∧ c 5 l = nI d) ∧ ∃ w, w ≤ 999 ∧ c 0 10 = nI w
/-- these 75 ints are the country c -/
def RB (f : Nat → Int32) (c : Ct) : Prop := ∃ n nL, RM n nL (unl f) c ∧ gC n nL c
theorem RB.cg {f g : Nat → Int32} {c : Ct} (h : RB f c) (e : ∀ i, i < 75 → g i = f i) : RB g c := by
  obtain ⟨n, nL, h1, h2⟩ := h
  exact ⟨n, nL, RM_lv h1 (fun i hi => by rw [lv_unl hi, lv_unl hi, e i hi]) rfl, h2⟩
def Rref (st mt : St) : Prop := ∀ i, i < 7 → st 1 i = mt 1 i
def Rtell (st mt : St) : Prop := ∃ s, s ≤ 96 ∧ st 4 1 = nI s ∧ mt 0 16 = nI s ∧ ∀ i, i < s → st 5 i = mt 9 i
def Rrow (st mt : St) : Prop := ∃ r, r ≤ 12 ∧ st 6 1 = nI r ∧ mt 0 29 = nI r ∧ ∀ i, i < r → st 7 i = mt 16 i
def Rkept (st mt : St) : Prop := (st 0 3 = 0 ∧ mt 0 20 = 0) ∨ (st 0 3 = 1 ∧ mt 0 20 = 1 ∧ RB (mt 13) (cv st 27))
def pI (a b i : Nat) : Nat := 35 + 8 * ((a + 8 - b + i) % 8)
def Rpast (st mt : St) : Prop := ∃ a b, a < 8 ∧ b ≤ 8 ∧ st 2 1 = nI a ∧ st 2 2 = nI b ∧ mt 0 23 = nI b ∧ ∀ i, i < b → RB (fun j => mt 13 (225 + 75 * i + j)) (cv st (pI a b i))
def Rnow (st mt : St) : Prop := RB (lvM mt) (cv st 11) ∧ mt 0 11 = 0
def R (st mt : St) : Prop := Rnow st mt ∧ (∀ k, isC k → zC (cv st k)) ∧ st 9 0 = 0 ∧ Rref st mt ∧ Rtell st mt ∧ Rrow st mt ∧ Rkept st mt ∧ Rpast st mt
theorem R.get {st mt : St} (h : R st mt) : ∃ n nL, RM n nL mt (cv st 11) ∧ gC n nL (cv st 11) := by
  obtain ⟨⟨⟨n, nL, h1, h2⟩, h3⟩, -⟩ := h
  exact ⟨n, nL, RM_lv h1 (fun i hi => (lv_unl hi).symm) h3, h2⟩
theorem Rnow_of {st mt : St} {n nL : Nat} (h : RM n nL mt (cv st 11)) (h0 : mt 0 11 = 0) (g : gC n nL (cv st 11)) : Rnow st mt :=
  ⟨⟨n, nL, RM_lv h (fun i hi => lv_unl hi) h0.symm, g⟩, h0⟩
theorem cv_eq {st st' : St} {k : Nat} (h : ∀ j, k ≤ j → j < k + 8 → st' j = st j) : cv st' k = cv st k := by
  funext j
  unfold cv
  by_cases hj : j < 8
  · rw [if_pos hj, if_pos hj, h (k + j) (by omega) (by omega)]
  · rw [if_neg hj, if_neg hj]
theorem cv_u2 {st : St} {k j i : Nat} {v : Int32} (h : j < k ∨ k + 8 ≤ j) : cv (u2 st j i v) k = cv st k := cv_eq fun a _ _ => u2_off (by omega)
theorem cv0 {st : St} {k i : Nat} : cv st k 0 i = st k i := rfl
theorem pI_lt {a b i : Nat} : 35 ≤ pI a b i ∧ pI a b i + 8 ≤ 99 := by unfold pI; omega
theorem pI_C {a b i : Nat} : isC (pI a b i) := ⟨3 + (a + 8 - b + i) % 8, by omega, by unfold pI; omega⟩
/-- the check's frame: what the relation sees is as it was -/
def tf (mt s : St) : Prop := (∀ i, i < 75 → lvM s i = lvM mt i) ∧ s 0 11 = mt 0 11 ∧ s 1 = mt 1 ∧ s 9 = mt 9 ∧ s 16 = mt 16 ∧ s 0 16 = mt 0 16 ∧ s 0 20 = mt 0 20 ∧ s 0 23 = mt 0 23 ∧ s 0 29 = mt 0 29 ∧ ∀ a, (a < 75 ∨ 225 ≤ a) → s 13 a = mt 13 a
theorem hf.tf {mt s : St} (h : hf mt s) : tf mt s :=
  ⟨h.1, h.2.2.1 11 (by decide) (by decide) (by decide) (by decide) (by decide) (by decide) (by decide), h.2.1 1 (by decide) (by decide) (by decide) (by decide), h.2.1 9 (by decide) (by decide) (by decide) (by decide), h.2.1 16 (by decide) (by decide) (by decide) (by decide),
    h.2.2.1 16 (by decide) (by decide) (by decide) (by decide) (by decide) (by decide) (by decide), h.2.2.1 20 (by decide) (by decide) (by decide) (by decide) (by decide) (by decide) (by decide), h.2.2.1 23 (by decide) (by decide) (by decide) (by decide) (by decide) (by decide) (by decide), h.2.2.1 29 (by decide) (by decide) (by decide) (by decide) (by decide) (by decide) (by decide), fun a ha => h.2.2.2 a (by omega)⟩
theorem tf_rf {mt : St} : tf mt mt := hf_rf.tf
theorem tf.tr {a b c : St} (h1 : tf a b) (h2 : tf b c) : tf a c := by
  obtain ⟨a1, a2, a3, a4, a5, a6, a7, a8, a9, a10⟩ := h1
  obtain ⟨b1, b2, b3, b4, b5, b6, b7, b8, b9, b10⟩ := h2
  exact ⟨fun i hi => (b1 i hi).trans (a1 i hi), b2.trans a2, b3.trans a3, b4.trans a4, b5.trans a5, b6.trans a6, b7.trans a7, b8.trans a8, b9.trans a9, fun i hi => (b10 i hi).trans (a10 i hi)⟩
/-- the class's frame: all but its country in mind and its row of twos -/
def xf (st s : St) : Prop := (∀ j, j < 99 → j ≠ 9 → s j = st j) ∧ s 9 0 = st 9 0 ∧ (zC (cv st 99) → zC (cv s 99))
theorem xf_rf {st : St} : xf st st := ⟨fun _ _ _ => rfl, rfl, fun h => h⟩
theorem xf.tr {a b c : St} (h1 : xf a b) (h2 : xf b c) : xf a c := ⟨fun j p q => (h2.1 j p q).trans (h1.1 j p q), h2.2.1.trans h1.2.1, fun h => h2.2.2 (h1.2.2 h)⟩
theorem xf_sv {st : St} {c : Ct} (h : zC c) (hn : nC c) : xf st (sv st 99 c) := ⟨fun j p q => sv_off (Or.inl p), congrFun (sv_off (by decide)) 0, fun _ => by rw [cv_sv hn]; exact h⟩
theorem xf.cv {st s : St} (h : xf st s) {k : Nat} (h1 : 10 ≤ k) (h2 : k + 8 ≤ 99) : cv s k = cv st k := cv_eq fun j _ _ => h.1 j (by omega) (by omega)
theorem R_fr {st st' mt mt' : St} (h : R st mt) (hx : xf st st') (ht : tf mt mt') : R st' mt' := by
  obtain ⟨⟨h1, h1'⟩, h2, h3, h4, ⟨s, k1, k2, k3, k4⟩, ⟨r, l1, l2, l3, l4⟩, h7, ⟨a, b, m1, m2, m3, m4, m5, m6⟩⟩ := h
  obtain ⟨b1, b2, b3, b4, b5, b6, b7, b8, b9, b10⟩ := ht
  refine ⟨⟨?_, by rw [b2]; exact h1'⟩, fun k hk => ?_, by rw [hx.2.1]; exact h3, fun i hi => by rw [hx.1 1 (by decide) (by decide), b3]; exact h4 i hi, ⟨s, k1, by rw [hx.1 4 (by decide) (by decide)]; exact k2, by rw [b6]; exact k3, fun i hi => by rw [hx.1 5 (by decide) (by decide), b4]; exact k4 i hi⟩,
    ⟨r, l1, by rw [hx.1 6 (by decide) (by decide)]; exact l2, by rw [b9]; exact l3, fun i hi => by rw [hx.1 7 (by decide) (by decide), b5]; exact l4 i hi⟩, ?_, ⟨a, b, m1, m2, by rw [hx.1 2 (by decide) (by decide)]; exact m3, by rw [hx.1 2 (by decide) (by decide)]; exact m4, by rw [b8]; exact m5, fun i hi => ?_⟩⟩
  · rw [hx.cv (by decide) (by decide)]
    exact h1.cg b1
  · obtain ⟨i, hi, rfl⟩ := hk
    by_cases e : i = 11
    · subst e
      exact hx.2.2 (h2 99 isC_99)
    · rw [hx.cv (by omega) (by omega)]
      exact h2 _ ⟨i, hi, rfl⟩
  · rcases h7 with ⟨p, q⟩ | ⟨p, q, r⟩
    · exact Or.inl ⟨by rw [hx.1 0 (by decide) (by decide)]; exact p, by rw [b7]; exact q⟩
    · refine Or.inr ⟨by rw [hx.1 0 (by decide) (by decide)]; exact p, by rw [b7]; exact q, ?_⟩
      rw [hx.cv (by decide) (by decide)]
      exact r.cg fun i hi => b10 i (Or.inl hi)
  · rw [hx.cv (by have := @pI_lt a b i; omega) pI_lt.2]
    exact (m6 i hi).cg fun j hj => b10 _ (Or.inr (by omega))
theorem R_ref {st mt : St} {r : Int32} (h : R st mt) (hr : rOk r) : R (refS st r) (refS mt r) := by
  obtain ⟨⟨h1, h1'⟩, h2, h3, h4, ⟨s, k1, k2, k3, k4⟩, ⟨q, l1, l2, l3, l4⟩, h7, ⟨a, b, m1, m2, m3, m4, m5, m6⟩⟩ := h
  have o : ∀ j, j ≠ 1 → ∀ s, refS s r j = s j := fun j hj s => u2_off hj
  have oc : ∀ k, 2 ≤ k → cv (refS st r) k = cv st k := fun k hk => cv_u2 (by omega)
  refine ⟨⟨?_, by rw [o 0 (by decide)]; exact h1'⟩, fun k hk => ?_, by rw [o 9 (by decide)]; exact h3, fun i hi => ?_, ⟨s, k1, by rw [o 4 (by decide)]; exact k2, by rw [o 0 (by decide)]; exact k3, fun i hi => by rw [o 5 (by decide), o 9 (by decide)]; exact k4 i hi⟩,
    ⟨q, l1, by rw [o 6 (by decide)]; exact l2, by rw [o 0 (by decide)]; exact l3, fun i hi => by rw [o 7 (by decide), o 16 (by decide)]; exact l4 i hi⟩, ?_, ⟨a, b, m1, m2, by rw [o 2 (by decide)]; exact m3, by rw [o 2 (by decide)]; exact m4, by rw [o 0 (by decide)]; exact m5, fun i hi => ?_⟩⟩
  · rw [oc 11 (by decide)]
    refine h1.cg fun i hi => ?_
    unfold lvM
    rw [o 2 (by decide), o 3 (by decide), o 4 (by decide), o 5 (by decide), o 6 (by decide), o 7 (by decide), o 8 (by decide), o 0 (by decide)]
  · obtain ⟨i, hi, rfl⟩ := hk
    rw [oc _ (by omega)]
    exact h2 _ ⟨i, hi, rfl⟩
  · unfold refS
    by_cases e : i = rI r
    · subst e
      rw [u2_same, u2_same, h4 _ (rI_in hr).2.1]
    · rw [u2_ne (Or.inr e), u2_ne (Or.inr e)]; exact h4 i hi
  · rcases h7 with ⟨p, q⟩ | ⟨p, q, z⟩
    · exact Or.inl ⟨by rw [o 0 (by decide)]; exact p, by rw [o 0 (by decide)]; exact q⟩
    · refine Or.inr ⟨by rw [o 0 (by decide)]; exact p, by rw [o 0 (by decide)]; exact q, ?_⟩
      rw [oc 27 (by decide), o 13 (by decide)]
      exact z
  · rw [oc _ (by have := @pI_lt a b i; omega), o 13 (by decide)]
    exact m6 i hi
theorem s_refused {r : Int32} {st : St} {K : Int32 → St → Prop} (hr : rOk r) (h : K r (refS st r)) : w_X8_refused r st K := by
  obtain ⟨-, h2, h3⟩ := rI_in hr
  unfold w_X8_refused
  rw [h3]
  exact s_at h2 (by decide) (s_put h2 (by decide) h)
theorem sim_ref {r : Int32} {st mt : St} (h : R st mt) (hr : rOk r) : w_X8_refused r st (fun r st' => w_X9_no r mt (fun r' mt' => r = r' ∧ R st' mt')) :=
  s_refused hr (t_no hr ⟨rfl, R_ref h hr⟩)
theorem sim_refL {r : Int32} {st mt : St} (h : R st mt) (hr : rOk r) : w_X8_refused r st (fun r st' => w_X9_lowestOf r mt (fun r' mt' => (4000000000000000000 - r.toInt64) = r' ∧ R st' mt')) :=
  s_refused hr (t_lowestOf hr ⟨rfl, R_ref h hr⟩)
theorem sim_refU {r : Int32} {st mt : St} (h : R st mt) (hr : rOk r) : w_X8_refused r st (fun r st' => w_X9_lower r mt (fun r' mt' => (1000000000 - r) = r' ∧ R st' mt')) :=
  s_refused hr (t_lower hr ⟨rfl, R_ref h hr⟩)
/-! the class's small rows, by the country seen -/
theorem s_hasKeeper {k n : Nat} {x : Int32} {st : St} {K : Int32 → St → Prop} (h7 : st k 7 = nI n) (h : K (isF n x) st) : w_X1_hasKeeper k x st K := by
  unfold w_X1_hasKeeper
  rw [h7]
  refine ⟨fun h1 => ?_, fun h1 => ⟨fun h2 => ?_, fun h2 => ?_⟩⟩ <;> simpa [isF, h1, *] using h
theorem s_hasLetter {k n : Nat} {x : Int32} {st : St} {K : Int32 → St → Prop} (h8 : st k 8 = nI n) (h : K (isF n x) st) : w_X1_hasLetter k x st K := by
  unfold w_X1_hasLetter
  rw [h8]
  refine ⟨fun h1 => ?_, fun h1 => ⟨fun h2 => ?_, fun h2 => ?_⟩⟩ <;> simpa [isF, h1, *] using h
theorem s_areTwo {k n : Nat} {x y : Int32} {st : St} {K : Int32 → St → Prop} (h7 : st k 7 = nI n) (h : K (twF n x y) st) : w_X1_areTwo k x y st K := by
  unfold w_X1_areTwo
  refine s_hasKeeper h7 ⟨fun h1 => ?_, fun h1 => s_hasKeeper h7 ⟨fun h2 => ?_, fun h2 => ⟨fun h3 => ?_, fun h3 => ?_⟩⟩⟩ <;> simpa [twF, h1, *] using h
def nbF (r : Int32) : Int32 := if r = 0 then -1 else 0
theorem s_keeperRef {n : Nat} {x : Int32} {st : St} {K : Int32 → St → Prop} (h7 : st 11 7 = nI n) (h : K (nbF (isF n x)) st) : w_X8_keeperRefusal x st K := by
  unfold w_X8_keeperRefusal
  refine s_hasKeeper h7 ⟨fun h1 => ?_, fun h1 => ?_⟩ <;> simpa [nbF, h1] using h
theorem s_letterRef {n : Nat} {x : Int32} {st : St} {K : Int32 → St → Prop} (h8 : st 11 8 = nI n) (h : K (nbF (isF n x)) st) : w_X8_letterRefusal x st K := by
  unfold w_X8_letterRefusal
  refine s_hasLetter h8 ⟨fun h1 => ?_, fun h1 => ?_⟩ <;> simpa [nbF, h1] using h
theorem s_twoRef {n : Nat} {x y : Int32} {st : St} {K : Int32 → St → Prop} (h7 : st 11 7 = nI n) (h : K (nbF (twF n x y)) st) : w_X8_twoRefusal x y st K := by
  unfold w_X8_twoRefusal
  refine s_areTwo h7 ⟨fun h1 => ?_, fun h1 => ?_⟩ <;> simpa [nbF, h1] using h
theorem s_townRef {x : Int32} {st : St} {K : Int32 → St → Prop} (h : K (nbF (townF x)) st) : w_X8_townRefusal x st K := by
  unfold w_X8_townRefusal
  refine s_isTown ⟨fun h1 => ?_, fun h1 => ?_⟩ <;> simpa [nbF, h1] using h
theorem rd {st : St} {k : Nat} {P : St → Prop} (h : P (sv st k (cv st k))) : P st := by rw [sv_cv] at h; exact h
theorem x_hateOf {st : St} {k p q : Nat} {K : Int32 → St → Prop} (hp : p < 6) (hq : q < 6) (h : K (cv st k 4 (hI p q)) st) : w_X1_hateOf k (nI p) (nI q) st K :=
  rd (k := k) (P := fun s => w_X1_hateOf k (nI p) (nI q) s K) (s_hateOf hp hq (by rw [sv_cv]; exact h))
theorem x_at {st : St} {k j i : Nat} {K : Int32 → St → Prop} (hj : j < 8) (hi : i < 6) (h : K (cv st k j i) st) : w_X8_at (k + j) 6 (nI i) st K := s_at hi (by decide) (by rw [st_of_cv (st := st) (k := k) hj]; exact h)
theorem x_townOf {st : St} {k i : Nat} {K : Int32 → St → Prop} (hi : i < 6) (h : K (cv st k 3 i) st) : w_X1_townOf k (nI i) st K := by unfold w_X1_townOf; exact x_at (by decide) hi h
theorem x_kindOf {st : St} {k i : Nat} {K : Int32 → St → Prop} (hi : i < 6) (h : K (cv st k 1 i) st) : w_X1_kindOf k (nI i) st K := by unfold w_X1_kindOf; exact x_at (by decide) hi h
theorem x_figureOf {st : St} {k i : Nat} {K : Int32 → St → Prop} (hi : i < 6) (h : K (cv st k 2 i) st) : w_X1_figureOf k (nI i) st K := by unfold w_X1_figureOf; exact x_at (by decide) hi h
theorem x_depthOf {st : St} {k i : Nat} {K : Int32 → St → Prop} (hi : i < 6) (h : K (cv st k 5 i) st) : w_X1_depthOf k (nI i) st K := by unfold w_X1_depthOf; exact x_at (by decide) hi h
theorem x_letterTownOf {st : St} {k i : Nat} {K : Int32 → St → Prop} (hi : i < 6) (h : K (cv st k 6 i) st) : w_X1_letterTownOf k (nI i) st K := by unfold w_X1_letterTownOf; exact x_at (by decide) hi h
theorem x_openedBy {st : St} {k i : Nat} {K : Int32 → St → Prop} (hi : i < 6) (h : K (cv st k 7 i) st) : w_X1_openedBy k (nI i) st K := by unfold w_X1_openedBy; exact x_at (by decide) hi h
theorem x_fadeOf {st : St} {k p : Nat} {K : Int32 → St → Prop} (hp : p < 6) (h : K (fadeF (cv st k) p) st) : w_X1_fadeOf k (nI p) st K :=
  rd (k := k) (P := fun s => w_X1_fadeOf k (nI p) s K) (s_fadeOf hp (by rw [sv_cv]; exact h))
theorem x_stirOf {st : St} {k p : Nat} {K : Int32 → St → Prop} (hp : p < 6) (h : K (stirF (cv st k) p) st) : w_X1_stirOf k (nI p) st K :=
  rd (k := k) (P := fun s => w_X1_stirOf k (nI p) s K) (s_stirOf hp (by rw [sv_cv]; exact h))
theorem x_wageOf {st : St} {k p : Nat} {K : Int32 → St → Prop} (hp : p < 6) (h : K (wageF (cv st k) p) st) : w_X1_wageOf k (nI p) st K :=
  rd (k := k) (P := fun s => w_X1_wageOf k (nI p) s K) (s_wageOf hp (by rw [sv_cv]; exact h))
theorem x_isOpen {st : St} {k n nL l : Nat} {K : Int32 → St → Prop} (hv : vC n nL (cv st k)) (hl : l < 6) (h : K (if (ob (cv st k)).testBit l then 1 else 0) st) : w_X1_isOpen k (nI l) st K := by
  refine rd (k := k) (P := fun s => w_X1_isOpen k (nI l) s K) (s_isOpen ?_)
  rw [sv_cv]
  obtain ⟨-, h2, -, -, -, h6, h7⟩ := hv
  rw [h6, bit_is _ (p64 h2 h7) l hl]
  cases hb : (ob (cv st k)).testBit l <;> simpa [hb] using h
theorem x_opener {st : St} {k n nL l : Nat} {K : Int32 → St → Prop} (hv : vC n nL (cv st k)) (hl : l < nL) (h : K (oI (openerF (cv st k) n l)) st) : w_X1_opener k (nI l) st K :=
  rd (k := k) (P := fun s => w_X1_opener k (nI l) s K) (s_opener (by have := hv.2.1; omega) hv.1 hv.2.2.1 (hv.2.2.2.2.1 l hl) (by rw [sv_cv]; exact h))
theorem x_bothIn {st : St} {k p q : Nat} {t : Int32} {K : Int32 → St → Prop} (hp : p < 6) (hq : q < 6) (h : K (if cv st k 3 p = t ∧ cv st k 3 q = t then 1 else 0) st) : w_X1_areBothIn k t (nI p) (nI q) st K :=
  rd (k := k) (P := fun s => w_X1_areBothIn k t (nI p) (nI q) s K) (s_bothIn hp hq (by rw [sv_cv]; exact h))
theorem x_openCount {st : St} {k n nL : Nat} {K : Int32 → St → Prop} (hv : vC n nL (cv st k)) (h : K (nI (pc (ob (cv st k)))) st) : w_X1_openCount k st K :=
  rd (k := k) (P := fun s => w_X1_openCount k s K) (s_openCount hv (by rw [sv_cv]; exact h))
theorem x_allHate {st : St} {k n : Nat} {K : Int32 → St → Prop} (hn : n ≤ 6) (h7 : st k 7 = nI n) (hk : K (allF n (cv st k)) st) : w_X1_allHate k st K := by
  unfold w_X1_allHate
  refine lo_fr (fun m p s => w_X1_allHate_L4 k K m s (nI p) st) (fun p s => fr (p + 1) n (fun q (s : Int32) => s + cv st k 4 (hI p q)) s) (fun _ _ => True) (0 : Int32) (Nat.zero_le n) trivial (fun _ _ _ _ _ => trivial) (fun _ m => ?_) (fun m p s _ h2 _ hw => ?_)
  · rw [w_X1_allHate_L4, w_X1_allHate_L4q, h7]
    exact ⟨fun _ => hk, fun h9 => absurd (nI_le (Nat.le_refl n) (by omega)) h9⟩
  · rw [w_X1_allHate_L4, w_X1_allHate_L4q, h7]
    refine ⟨fun h9 => absurd h9 (nI_ge h2 (by omega)), fun _ => ?_⟩
    rw [nI_inc]
    refine lo_fr (fun j q s => w_X1_allHate_L16 k (fun v1 v2 st => w_X1_allHate_L4 k K m v1 v2 st) K j s (nI p) (nI q) st) (fun q (s : Int32) => s + cv st k 4 (hI p q)) (fun _ _ => True) s (show p + 1 ≤ n by omega) trivial (fun _ _ _ _ _ => trivial) (fun _ j => ?_) (fun j q s h1 h2' _ hw2 => ?_)
    · rw [w_X1_allHate_L16, w_X1_allHate_L16q, h7]
      refine ⟨fun _ => ?_, fun h9 => absurd (nI_le (Nat.le_refl n) (by omega)) h9⟩
      rw [w_X1_allHate_b39, nI_inc]
      exact hw
    · rw [w_X1_allHate_L16, w_X1_allHate_L16q, h7]
      refine ⟨fun h9 => absurd h9 (nI_ge h2' (by omega)), fun _ => x_hateOf (by omega) (by omega) ?_⟩
      rw [nI_inc]
      exact hw2
end
section
/-! pure part: what is asked and told plainly -/
theorem y1 {p A B : Prop} (h : p) (a : A) : (p → A) ∧ (¬ p → B) := ⟨fun _ => a, fun z => absurd h z⟩
theorem n1 {p A B : Prop} (h : ¬ p) (b : B) : (p → A) ∧ (¬ p → B) := ⟨fun z => absurd z h, fun _ => b⟩
theorem y2 {p A B : Prop} (h : p) (a : A) : (¬ p → B) ∧ (p → A) := ⟨fun z => absurd h z, fun _ => a⟩
theorem n2 {p A B : Prop} (h : ¬ p) (b : B) : (¬ p → B) ∧ (p → A) := ⟨fun _ => b, fun z => absurd z h⟩
theorem R.ctx {st mt : St} (h : R st mt) : ∃ n nL, RM n nL mt (cv st 11) ∧ gC n nL (cv st 11) ∧ n ≤ 6 ∧ nL ≤ 6 ∧ st 11 7 = nI n ∧ st 11 8 = nI nL ∧ mt 0 8 = nI n ∧ mt 0 9 = nI nL := by
  obtain ⟨n, nL, h1, h2⟩ := h.get
  exact ⟨n, nL, h1, h2, h1.1.1, h1.1.2.1, h1.1.2.2.1, h1.1.2.2.2.1, h1.2.2.1, h1.2.2.2.1⟩
theorem tn1 : ∀ t, t < 4 → nI t ≠ -1 := by decide
theorem RM.town {n nL p : Nat} {mt : St} {c : Ct} (h : RM n nL mt c) (g : gC n nL c) (hp : p < n) : mt 4 p = c 3 p := by
  obtain ⟨t, h1, h2⟩ := g.2.1 p hp
  exact (h.2.2.2.2.2.1 p hp).2.2.2 (by rw [h2]; exact tn1 t h1)
theorem RM.hate {n nL p q : Nat} {mt : St} {c : Ct} (h : RM n nL mt c) (hp : p < n) (hq : q < n) (hpq : p ≠ q) : mt 5 (6 * p + q) = c 4 (hI p q) := by
  have r := h.2.2.2.2.2.2.1
  rcases Nat.lt_or_gt_of_ne hpq with z | z
  · exact (r p q z hq).1
  · rw [(r q p z hp).2]
    congr 1
    unfold hI; omega
def inF (x a b : Int32) : Int32 := if x < a then 0 else if b < x then 0 else 1
theorem t_isIn' {v a b : Int32} {mt : St} {K : Int32 → St → Prop} (h : K (inF v a b) mt) : w_X9_isIn v a b mt K := t_isIn h
theorem ch_in {x g : Int32} (h : ¬ inF x 0 g = 0) : choiceF x g = 0 := by
  unfold inF at h
  unfold choiceF
  by_cases h1 : x < 0
  · rw [if_pos h1] at h; exact absurd rfl h
  · by_cases h2 : g < x
    · rw [if_neg h1, if_pos h2] at h; exact absurd rfl h
    · rw [if_neg h1, if_neg h2]
theorem ch_out {x g : Int32} (h : inF x 0 g = 0) : choiceF x g = -2 := by
  unfold inF at h
  unfold choiceF
  by_cases h1 : x < 0
  · rw [if_pos h1]
  · by_cases h2 : g < x
    · rw [if_neg h1, if_pos h2]
    · rw [if_neg h1, if_neg h2] at h; exact absurd h (by decide)
theorem in_nI {x : Int32} {g : Nat} (hg : g < 2147483648) (h : ¬ inF x 0 (nI g) = 0) : ∃ i, i ≤ g ∧ x = nI i := by
  unfold inF at h
  by_cases h1 : x < 0
  · rw [if_pos h1] at h; exact absurd rfl h
  · by_cases h2 : nI g < x
    · rw [if_neg h1, if_pos h2] at h; exact absurd rfl h
    · obtain ⟨j, hj, rfl⟩ := nI_of h1
      refine ⟨j, Nat.not_lt.mp fun q => h2 ?_, rfl⟩
      exact i_nle.mp (nI_ge q hj)
theorem rg_cases (x a b : Int32) : rangeF x a b = 0 ∨ rangeF x a b = -4 ∨ rangeF x a b = -6 := by
  unfold rangeF
  split
  · exact Or.inr (Or.inl rfl)
  · split
    · exact Or.inr (Or.inr rfl)
    · exact Or.inl rfl
theorem rg_nI {x : Int32} {a b : Nat} (ha : a < 2147483648) (hb : b < 2147483648) (h : rangeF x (nI a) (nI b) = 0) : ∃ i, a ≤ i ∧ i ≤ b ∧ x = nI i := by
  unfold rangeF at h
  by_cases h1 : x < nI a
  · rw [if_pos h1] at h; exact absurd h (by decide)
  · by_cases h2 : nI b < x
    · rw [if_neg h1, if_pos h2] at h; exact absurd h (by decide)
    · have h0 : ¬ x < 0 := by
        intro z
        have z1 := Int32.lt_iff_toInt_lt.mp z
        have z2 := Int32.le_iff_toInt_le.mp (i_nlt.mp h1)
        have z3 := Int32.le_iff_toInt_le.mp (n_le0 ha)
        omega
      obtain ⟨j, hj, rfl⟩ := nI_of h0
      refine ⟨j, Nat.not_lt.mp fun q => h1 ?_, Nat.not_lt.mp fun q => h2 ?_, rfl⟩
      · exact i_nle.mp (nI_ge q ha)
      · exact i_nle.mp (nI_ge q hj)
theorem rg_ok {x a b : Int32} (h : ¬ rangeF x a b = 0) : rOk (rangeF x a b) := by
  rcases rg_cases x a b with e | e | e
  · exact absurd e h
  · rw [e]; exact Or.inr (Or.inr (Or.inr (Or.inl rfl)))
  · rw [e]; exact Or.inr (Or.inr (Or.inr (Or.inr rfl)))
theorem rO1 : rOk (-1) := Or.inl rfl
theorem rO2 : rOk (-2) := Or.inr (Or.inl rfl)
theorem rO3 : rOk (-3) := Or.inr (Or.inr (Or.inl rfl))
theorem rO4 : rOk (-4) := Or.inr (Or.inr (Or.inr (Or.inl rfl)))
theorem rO6 : rOk (-6) := Or.inr (Or.inr (Or.inr (Or.inr rfl)))
theorem nb0 {r : Int32} (h : r = 0) : nbF r = -1 := if_pos h
theorem nb1 {r : Int32} (h : ¬ r = 0) : nbF r = 0 := if_neg h
theorem f0 (b c : Int32) : firstF 0 b c = if b = 0 then c else b := rfl
theorem f1 {a : Int32} (h : ¬ a = 0) (b c : Int32) : firstF a b c = a := if_neg h
theorem f00 (c : Int32) : firstF 0 0 c = c := rfl
theorem f01 {b : Int32} (h : ¬ b = 0) (c : Int32) : firstF 0 b c = b := if_neg h
theorem rOk.ne {r : Int32} (hr : rOk r) : ¬ r = 0 := by
  intro e
  subst e
  exact absurd hr (show ¬ ((0 : Int32) = -1 ∨ (0 : Int32) = -2 ∨ (0 : Int32) = -3 ∨ (0 : Int32) = -4 ∨ (0 : Int32) = -6) by decide)
theorem sim_keeperOf {st mt : St} (h : R st mt) (x1 x2 : Int32) : w_X8_keeperOf x1 x2 st (fun r st' => w_X9_keeperOf x1 x2 mt (fun r' mt' => r = r' ∧ R st' mt')) := by
  obtain ⟨n, nL, hm, g, hn, hL, h7, h8, k8, k9⟩ := h.ctx
  unfold w_X8_keeperOf
  refine s_keeperRef h7 (s_choice (s_firstOf ?_))
  by_cases e1 : isF n x1 = 0
  · rw [nb0 e1, f1 (by decide)]
    refine n1 (by decide) (s_refused rO1 ?_)
    unfold w_X9_keeperOf
    exact t_isKeeper k8 (y2 e1 (t_no rO1 ⟨rfl, R_ref h rO1⟩))
  · obtain ⟨p, hp, rfl⟩ := isF_1 (by omega) e1
    rw [nb1 e1, f0]
    obtain ⟨a1, a2, a3, -⟩ := hm.2.2.2.2.2.1 p hp
    have a4 := hm.town g hp
    have cl : (nI p).toNatClampNeg = p := clI (show p < 6 by omega) (by decide)
    have vi : vp_in (nI p) 6 := vp_in_nI (by omega) (by decide)
    have hx : ∀ K : Int32 → St → Prop, (x2 = 0 → K (cv st 11 1 p) mt) → (x2 = 1 → K (cv st 11 2 p) mt) → (x2 = 2 → K (cv st 11 3 p) mt) → (x2 = 3 → K (fadeF (cv st 11) p) mt) → (x2 = 4 → K (stirF (cv st 11) p) mt) → (x2 = 5 → K (wageF (cv st 11) p) mt) → (inF x2 0 5 = 0 → K (-2) (refS mt (-2))) → w_X9_keeperOf (nI p) x2 mt K := by
      intro K q0 q1 q2 q3 q4 q5 q6
      unfold w_X9_keeperOf
      rw [cl]
      refine t_isKeeper k8 (n2 e1 ⟨fun z => ⟨vi, a1 ▸ q0 z⟩, fun z0 => ⟨fun z => ⟨vi, a2 ▸ q1 z⟩, fun z1 => ⟨fun z => ⟨vi, a4 ▸ q2 z⟩, fun z2 => ⟨fun z => t_fadesOf (by omega) ?_, fun z3 => ⟨fun z => t_stirsOf (by omega) ?_, fun z4 => ⟨fun z => t_payOf (by omega) ?_, fun z5 => t_no rO2 (q6 ?_)⟩⟩⟩⟩⟩⟩)
      · rw [a1, a2]; exact q3 z
      · rw [a1, a2]; exact q4 z
      · rw [a1, a2]; exact q5 z
      · by_cases e : inF x2 0 5 = 0
        · exact e
        · obtain ⟨i, hi, rfl⟩ := in_nI (g := 5) (by decide) e
          have : i = 0 ∨ i = 1 ∨ i = 2 ∨ i = 3 ∨ i = 4 ∨ i = 5 := by omega
          rcases this with rfl | rfl | rfl | rfl | rfl | rfl
          · exact absurd rfl z0
          · exact absurd rfl z1
          · exact absurd rfl z2
          · exact absurd rfl z3
          · exact absurd rfl z4
          · exact absurd rfl z5
    by_cases e2 : inF x2 0 5 = 0
    · rw [ch_out e2, if_neg (by decide)]
      have ni : ∀ i, i ≤ 5 → ¬ x2 = nI i := fun i hi z => by
        subst z
        exact (show ∀ i, i ≤ 5 → ¬ inF (nI i) 0 5 = 0 by decide) i hi e2
      refine n1 (by decide) (s_refused rO2 (hx _ (fun z => absurd z (ni 0 (by decide))) (fun z => absurd z (ni 1 (by decide))) (fun z => absurd z (ni 2 (by decide))) (fun z => absurd z (ni 3 (by decide))) (fun z => absurd z (ni 4 (by decide))) (fun z => absurd z (ni 5 (by decide))) fun _ => ⟨rfl, R_ref h rO2⟩))
    · rw [ch_in e2, if_pos rfl]
      obtain ⟨i, hi, rfl⟩ := in_nI (g := 5) (by decide) e2
      refine y1 rfl ⟨fun z0 => x_kindOf (by omega) ?_, fun z0 => ⟨fun z1 => x_figureOf (by omega) ?_, fun z1 => ⟨fun z2 => x_townOf (by omega) ?_, fun z2 => ⟨fun z3 => x_fadeOf (by omega) ?_, fun z3 => ⟨fun z4 => x_stirOf (by omega) ?_, fun z4 => x_wageOf (by omega) ?_⟩⟩⟩⟩⟩
      · rw [z0]; rw [z0] at hx; exact hx _ (fun _ => ⟨rfl, h⟩) (fun z => absurd z (by decide)) (fun z => absurd z (by decide)) (fun z => absurd z (by decide)) (fun z => absurd z (by decide)) (fun z => absurd z (by decide)) (fun z => absurd z (by decide))
      · rw [z1]; rw [z1] at hx; exact hx _ (fun z => absurd z (by decide)) (fun _ => ⟨rfl, h⟩) (fun z => absurd z (by decide)) (fun z => absurd z (by decide)) (fun z => absurd z (by decide)) (fun z => absurd z (by decide)) (fun z => absurd z (by decide))
      · rw [z2]; rw [z2] at hx; exact hx _ (fun z => absurd z (by decide)) (fun z => absurd z (by decide)) (fun _ => ⟨rfl, h⟩) (fun z => absurd z (by decide)) (fun z => absurd z (by decide)) (fun z => absurd z (by decide)) (fun z => absurd z (by decide))
      · rw [z3]; rw [z3] at hx; exact hx _ (fun z => absurd z (by decide)) (fun z => absurd z (by decide)) (fun z => absurd z (by decide)) (fun _ => ⟨rfl, h⟩) (fun z => absurd z (by decide)) (fun z => absurd z (by decide)) (fun z => absurd z (by decide))
      · rw [z4]; rw [z4] at hx; exact hx _ (fun z => absurd z (by decide)) (fun z => absurd z (by decide)) (fun z => absurd z (by decide)) (fun z => absurd z (by decide)) (fun _ => ⟨rfl, h⟩) (fun z => absurd z (by decide)) (fun z => absurd z (by decide))
      · refine hx _ (fun z => absurd z z0) (fun z => absurd z z1) (fun z => absurd z z2) (fun z => absurd z z3) (fun z => absurd z z4) (fun _ => ⟨rfl, h⟩) (fun z => absurd z e2)
theorem sim_letterOf {st mt : St} (h : R st mt) (x1 x2 : Int32) : w_X8_letterOf x1 x2 st (fun r st' => w_X9_letterOf x1 x2 mt (fun r' mt' => r = r' ∧ R st' mt')) := by
  obtain ⟨n, nL, hm, g, hn, hL, h7, h8, k8, k9⟩ := h.ctx
  unfold w_X8_letterOf
  refine s_letterRef h8 (s_choice (s_firstOf ?_))
  by_cases e1 : isF nL x1 = 0
  · rw [nb0 e1, f1 (by decide)]
    refine n1 (by decide) (s_refused rO1 ?_)
    unfold w_X9_letterOf
    exact t_isLetter k9 (y2 e1 (t_no rO1 ⟨rfl, R_ref h rO1⟩))
  · obtain ⟨l, hl, rfl⟩ := isF_1 (by omega) e1
    rw [nb1 e1, f0]
    obtain ⟨a1, a2, a3, a4⟩ := hm.2.2.2.2.2.2.2 l hl
    have cl : (nI l).toNatClampNeg = l := clI (show l < 6 by omega) (by decide)
    have vi : vp_in (nI l) 6 := vp_in_nI (by omega) (by decide)
    have hx : ∀ K : Int32 → St → Prop, (x2 = 0 → K (cv st 11 5 l) mt) → (x2 = 1 → K (cv st 11 6 l) mt) → (x2 = 2 → K (if (ob (cv st 11)).testBit l then 1 else 0) mt) → (x2 = 3 → K (oI (openerF (cv st 11) n l)) mt) → (inF x2 0 3 = 0 → K (-2) (refS mt (-2))) → w_X9_letterOf (nI l) x2 mt K := by
      intro K q0 q1 q2 q3 q6
      unfold w_X9_letterOf
      rw [cl]
      refine t_isLetter k9 (n2 e1 ⟨fun z => ⟨vi, a1 ▸ q0 z⟩, fun z0 => ⟨fun z => ⟨vi, a2 ▸ q1 z⟩, fun z1 => ⟨fun z => ⟨vi, a4 ▸ q2 z⟩, fun z2 => ⟨fun z => ⟨vi, vi, t_opensAt hm (by rw [a2]; exact a3) ?_⟩, fun z3 => t_no rO2 (q6 ?_)⟩⟩⟩⟩)
      · rw [a1, a2]; exact q3 z
      · by_cases e : inF x2 0 3 = 0
        · exact e
        · obtain ⟨i, hi, rfl⟩ := in_nI (g := 3) (by decide) e
          have : i = 0 ∨ i = 1 ∨ i = 2 ∨ i = 3 := by omega
          rcases this with rfl | rfl | rfl | rfl
          · exact absurd rfl z0
          · exact absurd rfl z1
          · exact absurd rfl z2
          · exact absurd rfl z3
    by_cases e2 : inF x2 0 3 = 0
    · rw [ch_out e2, if_neg (by decide)]
      have ni : ∀ i, i ≤ 3 → ¬ x2 = nI i := fun i hi z => by
        subst z
        exact (show ∀ i, i ≤ 3 → ¬ inF (nI i) 0 3 = 0 by decide) i hi e2
      refine n1 (by decide) (s_refused rO2 (hx _ (fun z => absurd z (ni 0 (by decide))) (fun z => absurd z (ni 1 (by decide))) (fun z => absurd z (ni 2 (by decide))) (fun z => absurd z (ni 3 (by decide))) fun _ => ⟨rfl, R_ref h rO2⟩))
    · rw [ch_in e2, if_pos rfl]
      obtain ⟨i, hi, rfl⟩ := in_nI (g := 3) (by decide) e2
      refine y1 rfl ⟨fun z0 => x_depthOf (by omega) ?_, fun z0 => ⟨fun z1 => x_letterTownOf (by omega) ?_, fun z1 => ⟨fun z2 => x_isOpen hm.1 (by omega) ?_, fun z2 => x_opener hm.1 hl ?_⟩⟩⟩
      · rw [z0]; rw [z0] at hx; exact hx _ (fun _ => ⟨rfl, h⟩) (fun z => absurd z (by decide)) (fun z => absurd z (by decide)) (fun z => absurd z (by decide)) (fun z => absurd z (by decide))
      · rw [z1]; rw [z1] at hx; exact hx _ (fun z => absurd z (by decide)) (fun _ => ⟨rfl, h⟩) (fun z => absurd z (by decide)) (fun z => absurd z (by decide)) (fun z => absurd z (by decide))
      · rw [z2]; rw [z2] at hx
        by_cases b : (ob (cv st 11)).testBit l = true
        · rw [if_pos b]
          refine n1 (by decide) (hx _ (fun z => absurd z (by decide)) (fun z => absurd z (by decide)) (fun _ => ?_) (fun z => absurd z (by decide)) (fun z => absurd z (by decide)))
          rw [if_pos b]; exact ⟨rfl, h⟩
        · rw [if_neg b]
          refine y1 rfl (hx _ (fun z => absurd z (by decide)) (fun z => absurd z (by decide)) (fun _ => ?_) (fun z => absurd z (by decide)) (fun z => absurd z (by decide)))
          rw [if_neg b]; exact ⟨rfl, h⟩
      · exact hx _ (fun z => absurd z z0) (fun z => absurd z z1) (fun z => absurd z z2) (fun _ => ⟨rfl, h⟩) (fun z => absurd z e2)
theorem sim_hate {st mt : St} (h : R st mt) (x1 x2 : Int32) : w_X8_hate x1 x2 st (fun r st' => w_X9_hate x1 x2 mt (fun r' mt' => r = r' ∧ R st' mt')) := by
  obtain ⟨n, nL, hm, g, hn, hL, h7, h8, k8, k9⟩ := h.ctx
  unfold w_X8_hate
  refine s_twoRef h7 ?_
  by_cases e : twF n x1 x2 = 0
  · rw [nb0 e]
    refine n1 (by decide) (s_refused rO1 ?_)
    unfold w_X9_hate
    exact t_areTwo k8 (y1 e (t_no rO1 ⟨rfl, R_ref h rO1⟩))
  · rw [nb1 e]
    obtain ⟨p, q, hp, hq, hpq, rfl, rfl⟩ := twF_1 (by omega) e
    refine y1 rfl (x_hateOf (by omega) (by omega) ?_)
    unfold w_X9_hate
    refine t_areTwo k8 (n1 e (t_hateOf (by omega) (by omega) ⟨(hm.hate hp hq hpq).symm, h⟩))
end
section
/-! pure part: counts, the row of numbers, judging; loops that end early -/
def fstG (P : Nat → Bool) : Nat → Nat → Int32
  | 0, _ => -9
  | d + 1, i => if P i then nI i else fstG P d (i + 1)
theorem lo_fst {W : Nat → Nat → Prop} {P : Nat → Bool} {Q : Int32 → Prop} {r i0 : Nat} (hi : i0 ≤ r) (hx : Q (-9) → ∃ n, W n r) (hp : ∀ i, i0 ≤ i → i < r → P i = true → Q (nI i) → ∃ n, W n i) (hn : ∀ n i, i0 ≤ i → i < r → P i = false → W n (i + 1) → W (n + 1) i) (h : Q (fstG P (r - i0) i0)) : ∃ n, W n i0 := by
  have key : ∀ d i, i0 ≤ i → i + d = r → Q (fstG P d i) → ∃ n, W n i := by
    intro d
    induction d with
    | zero =>
      intro i h1 h2 h3
      have : i = r := by omega
      subst this
      exact hx h3
    | succ d ih =>
      intro i h1 h2 h3
      cases e : P i with
      | true =>
        rw [fstG, e] at h3
        exact hp i h1 (by omega) e h3
      | false =>
        rw [fstG, e] at h3
        obtain ⟨n, hw⟩ := ih (i + 1) (by omega) (by omega) h3
        exact ⟨n + 1, hn n i h1 (by omega) e hw⟩
  exact key (r - i0) i0 (Nat.le_refl _) (by omega) h
theorem fstG_cg {P P' : Nat → Bool} : ∀ d i, (∀ j, i ≤ j → j < i + d → P j = P' j) → fstG P d i = fstG P' d i
  | 0, _, _ => rfl
  | d + 1, i, h => by
    rw [fstG, fstG, h i (Nat.le_refl i) (by omega), fstG_cg d (i + 1) fun j a b => h j (by omega) (by omega)]
theorem R_parts {st st' mt mt' : St} (h : R st mt) (hc : ∀ j, 10 ≤ j → st' j = st j) (h9 : st' 9 0 = st 9 0) (lv : ∀ i, i < 75 → lvM mt' i = lvM mt i) (h11 : mt' 0 11 = mt 0 11) (h1 : Rref st' mt') (h2 : Rtell st' mt') (h3 : Rrow st' mt')
    (hk1 : st' 0 3 = st 0 3) (hk2 : mt' 0 20 = mt 0 20) (h13 : mt' 13 = mt 13) (hp1 : st' 2 1 = st 2 1) (hp2 : st' 2 2 = st 2 2) (hp3 : mt' 0 23 = mt 0 23) : R st' mt' := by
  obtain ⟨⟨a1, a1'⟩, a2, a3, a4, a5, a6, a7, ⟨a, b, m1, m2, m3, m4, m5, m6⟩⟩ := h
  have oc : ∀ k, 10 ≤ k → cv st' k = cv st k := fun k hk => cv_eq fun j _ _ => hc j (by omega)
  refine ⟨⟨by rw [oc 11 (by decide)]; exact a1.cg lv, by rw [h11]; exact a1'⟩, fun k hk => ?_, by rw [h9]; exact a3, h1, h2, h3, ?_, ⟨a, b, m1, m2, by rw [hp1]; exact m3, by rw [hp2]; exact m4, by rw [hp3]; exact m5, fun i hi => ?_⟩⟩
  · obtain ⟨i, hi, rfl⟩ := hk
    rw [oc _ (by omega)]
    exact a2 _ ⟨i, hi, rfl⟩
  · rcases a7 with ⟨p, q⟩ | ⟨p, q, z⟩
    · exact Or.inl ⟨by rw [hk1]; exact p, by rw [hk2]; exact q⟩
    · refine Or.inr ⟨by rw [hk1]; exact p, by rw [hk2]; exact q, ?_⟩
      rw [oc 27 (by decide), h13]
      exact z
  · rw [oc _ (by have := @pI_lt a b i; omega), h13]
    exact m6 i hi
theorem lv_u2 {mt : St} {j i : Nat} {v : Int32} (h : (j ≠ 0 ∧ (j < 2 ∨ 8 < j)) ∨ (j = 0 ∧ i ≠ 8 ∧ i ≠ 9 ∧ i ≠ 10)) : ∀ a, a < 75 → lvM (u2 mt j i v) a = lvM mt a := by
  intro a _
  have o : ∀ b, 2 ≤ b → b ≤ 8 → u2 mt j i v b = mt b := fun b h1 h2 => u2_off (by omega)
  have o0 : ∀ b, b = 8 ∨ b = 9 ∨ b = 10 → u2 mt j i v 0 b = mt 0 b := fun b hb => u2_ne (by omega)
  unfold lvM
  rw [o 2 (by decide) (by decide), o 3 (by decide) (by decide), o 4 (by decide) (by decide), o 5 (by decide) (by decide), o 6 (by decide) (by decide), o 7 (by decide) (by decide), o 8 (by decide) (by decide), o0 8 (by decide), o0 9 (by decide), o0 10 (by decide)]
theorem sim_count {st mt : St} (h : R st mt) (x1 : Int32) : w_X8_count x1 st (fun r st' => w_X9_count x1 mt (fun r' mt' => r = r' ∧ R st' mt')) := by
  obtain ⟨n, nL, hm, g, hn, hL, h7, h8, k8, k9⟩ := h.ctx
  have h' := h
  obtain ⟨-, -, -, hr, ⟨s, t1, t2, t3, -⟩, ⟨r, r1, r2, r3, -⟩, -, ⟨a, b, m1, m2, m3, m4, m5, -⟩⟩ := h'
  unfold w_X8_count
  refine ⟨fun z => ?_, fun z0 => ⟨fun z => ?_, fun z1 => ⟨fun z => ?_, fun z2 => ⟨fun z => ?_, fun z3 => ⟨fun z => x_allHate hn h7 ?_, fun z4 => ⟨fun z => ?_, fun z5 => ⟨fun z => ?_, fun z6 => ⟨fun z => ?_, fun z7 => ?_⟩⟩⟩⟩⟩⟩⟩⟩
  · subst z
    unfold w_X9_count w_X1_keeperCount
    rw [h7]
    exact t_isIn' (y1 (by decide) (y1 rfl ⟨k8.symm, h⟩))
  · subst z
    unfold w_X9_count w_X1_letterCount
    rw [h8]
    exact t_isIn' (y1 (by decide) (n1 (by decide) (y1 rfl ⟨k9.symm, h⟩)))
  · subst z
    unfold w_X9_count w_X1_weekNow
    exact t_isIn' (y1 (by decide) (n1 (by decide) (n1 (by decide) (y1 rfl ⟨hm.2.2.2.2.1.symm, h⟩))))
  · subst z
    unfold w_X9_count w_X1_openBits
    exact t_isIn' (y1 (by decide) (n1 (by decide) (n1 (by decide) (n1 (by decide) (y1 rfl (t_openOnes hm ⟨hm.1.2.2.2.2.2.1, h⟩))))))
  · subst z
    unfold w_X9_count
    exact t_isIn' (y1 (by decide) (n1 (by decide) (n1 (by decide) (n1 (by decide) (n1 (by decide) (y1 rfl (t_allHate hm ⟨rfl, h⟩)))))))
  · subst z
    unfold w_X9_count w_X7_size
    exact t_isIn' (y1 (by decide) (n1 (by decide) (n1 (by decide) (n1 (by decide) (n1 (by decide) (n1 (by decide) (y1 rfl ⟨t2.trans t3.symm, h⟩)))))))
  · subst z
    unfold w_X9_count w_X6_size
    exact t_isIn' (y1 (by decide) (n1 (by decide) (n1 (by decide) (n1 (by decide) (n1 (by decide) (n1 (by decide) (n1 (by decide) (y1 rfl ⟨r2.trans r3.symm, h⟩))))))))
  · subst z
    unfold w_X9_count w_X5_size
    exact t_isIn' (y1 (by decide) (n1 (by decide) (n1 (by decide) (n1 (by decide) (n1 (by decide) (n1 (by decide) (n1 (by decide) (n1 (by decide) (y1 rfl ⟨m4.trans m5.symm, h⟩)))))))))
  · have out : inF x1 11 16 = 0 → w_X9_count x1 mt (fun r' mt' => (-9) = r' ∧ R st mt') := fun e => by
      unfold w_X9_count
      exact t_isIn' (y1 e (n1 z0 (n1 z1 (n1 z2 (n1 z3 (n1 z4 (n1 z5 (n1 z6 (n1 z7 ⟨rfl, h⟩)))))))))
    refine ⟨fun z8 => out (if_pos z8), fun z8 => ⟨fun z9 => out (by unfold inF; rw [if_neg z8, if_pos z9]), fun z9 => ?_⟩⟩
    have e : ¬ inF x1 11 16 = 0 := by unfold inF; rw [if_neg z8, if_neg z9]; decide
    have e' : rangeF x1 (nI 11) (nI 16) = 0 := by unfold rangeF; rw [if_neg (show ¬ x1 < nI 11 from z8), if_neg (show ¬ nI 16 < x1 from z9)]
    obtain ⟨i, i1, i2, rfl⟩ := rg_nI (by decide) (by decide) e'
    have es : nI i - 10 = nI (i - 10) := (show ∀ i, i < 17 → 11 ≤ i → nI i - 10 = nI (i - 10) by decide +kernel) i (by omega) i1
    unfold w_X9_count
    rw [es]
    refine s_at (show i - 10 < 7 by omega) (by decide) (t_isIn' (n1 e ⟨vp_in_nI (show i - 10 < 7 by omega) (by decide), ?_⟩))
    rw [clI (show i - 10 < 7 by omega) (by decide)]
    exact ⟨hr _ (by omega), h⟩
theorem u2_0 {mt : St} {i j : Nat} {v : Int32} (h : i ≠ j) : u2 mt 0 j v 0 i = mt 0 i := u2_ne (Or.inr h)
theorem R_row {st mt : St} {r : Nat} (h : R st mt) (st' mt' : St) (hs : ∀ j, j ≠ 6 → j ≠ 7 → st' j = st j) (hm : ∀ j, j ≠ 0 → j ≠ 16 → mt' j = mt j) (h0 : ∀ a, a ≠ 29 → mt' 0 a = mt 0 a) (hr : Rrow st' mt') : R st' mt' := by
  obtain ⟨s, t1, t2, t3, t4⟩ := h.2.2.2.2.1
  refine R_parts h (fun j hj => hs j (by omega) (by omega)) (by rw [hs 9 (by decide) (by decide)]) (fun i _ => ?_) (h0 11 (by decide)) (fun i hi => by rw [hs 1 (by decide) (by decide), hm 1 (by decide) (by decide)]; exact h.2.2.2.1 i hi) ⟨s, t1, by rw [hs 4 (by decide) (by decide)]; exact t2, by rw [h0 16 (by decide)]; exact t3, fun i hi => by rw [hs 5 (by decide) (by decide), hm 9 (by decide) (by decide)]; exact t4 i hi⟩ hr
    (by rw [hs 0 (by decide) (by decide)]) (h0 20 (by decide)) (hm 13 (by decide) (by decide)) (by rw [hs 2 (by decide) (by decide)]) (by rw [hs 2 (by decide) (by decide)]) (h0 23 (by decide))
  unfold lvM
  rw [hm 2 (by decide) (by decide), hm 3 (by decide) (by decide), hm 4 (by decide) (by decide), hm 5 (by decide) (by decide), hm 6 (by decide) (by decide), hm 7 (by decide) (by decide), hm 8 (by decide) (by decide), h0 8 (by decide), h0 9 (by decide), h0 10 (by decide)]
theorem R_clear {st mt : St} (h : R st mt) : R (u2 st 6 1 0) (u2 mt 0 29 0) :=
  R_row (r := 0) h _ _ (fun j a _ => u2_off a) (fun j a _ => u2_off a) (fun a ha => u2_0 ha) ⟨0, by decide, u2_same, u2_same, fun i hi => absurd hi (Nat.not_lt_zero i)⟩
theorem sim_clear {st mt : St} (h : R st mt) : w_X8_clear st (fun r st' => w_X9_clear mt (fun r' mt' => r = r' ∧ R st' mt')) := by
  obtain ⟨r, r1, r2, r3, -⟩ := h.2.2.2.2.2.1
  unfold w_X8_clear w_X6_size w_X6_empty w_X9_clear
  exact ⟨r2.trans r3.symm, R_clear h⟩
theorem nI_eqI {a b : Nat} (ha : a < 2147483648) (hb : b < 2147483648) (h : nI a = nI b) : a = b := by
  have := congrArg Int32.toNatClampNeg h
  rwa [nI_clamp (show a < 2 ^ 31 from ha), nI_clamp (show b < 2 ^ 31 from hb)] at this
theorem nJ_lt {a b : Nat} (ha : a < 2147483648) (hb : b < 2147483648) : nI a < nI b ↔ a < b := by
  constructor
  · intro h
    exact Nat.not_le.mp fun q => i_nlt.mpr (nI_le q ha) h
  · intro h
    exact i_nle.mp (nI_ge h hb)
theorem nJ_le {a b : Nat} (ha : a < 2147483648) (hb : b < 2147483648) : nI a ≤ nI b ↔ a ≤ b := by
  constructor
  · intro h
    exact Nat.not_lt.mp fun q => nI_ge q ha h
  · intro h
    exact nI_le h hb
theorem sim_row {st mt : St} (h : R st mt) (x1 : Int32) : w_X8_row x1 st (fun r st' => w_X9_row x1 mt (fun r' mt' => r = r' ∧ R st' mt')) := by
  obtain ⟨r, r1, r2, r3, r4⟩ := h.2.2.2.2.2.1
  have cl : r < 12 → (nI r).toNatClampNeg = r := fun z => clI z (by decide)
  have e12 : ∀ r, r < 12 → (if nI r + 1 < 12 then nI r + 1 else 12) = nI (r + 1) := by decide +kernel
  unfold w_X8_row
  refine s_range ?_
  by_cases e : rangeF x1 0 99 = 0
  · unfold w_X6_isFull
    rw [r2, e]
    by_cases hr : r < 12
    · have q1 : nI r < 12 := (nJ_lt (by omega) (by decide)).mpr hr
      refine y1 q1 (y1 rfl ?_)
      rw [w_X8_row_b23]
      refine s_firstOf (y1 rfl ?_)
      unfold w_X6_add
      rw [r2]
      refine s_put hr (by decide) ?_
      have q2 : u2 st 7 r x1 6 1 = nI r := by rw [u2_off (by decide)]; exact r2
      rw [q2, e12 r hr, u2_same]
      unfold w_X9_row
      refine t_bound ?_
      rw [e]
      refine y2 rfl (n2 (by rw [r3]; exact fun z => absurd (nI_eqI (by omega) (by decide) (show nI r = nI 12 from z)) (by omega)) ?_)
      rw [w_X9_row_b24, r3, cl hr]
      refine y1 rfl ⟨vp_in_nI hr (by decide), ?_⟩
      have q3 : u2 mt 16 r x1 0 29 = nI r := by rw [u2_off (by decide)]; exact r3
      rw [q3, u2_same, nI_inc]
      refine ⟨rfl, R_row (r := r + 1) h _ _ (fun j a b => by rw [u2_off a, u2_off b]) (fun j a b => by rw [u2_off a, u2_off b]) (fun a ha => by rw [u2_0 ha, u2_off (by decide)]) ⟨r + 1, by omega, u2_same, u2_same, fun i hi => ?_⟩⟩
      rw [u2_off (show (7 : Nat) ≠ 6 by decide), u2_off (show (16 : Nat) ≠ 0 by decide)]
      by_cases ei : i = r
      · subst ei; rw [u2_same, u2_same]
      · rw [u2_ne (Or.inr ei), u2_ne (Or.inr ei)]; exact r4 i (by omega)
    · have er : r = 12 := by omega
      subst er
      refine n1 (by decide) (n1 (by decide) ?_)
      rw [w_X8_row_b23]
      refine s_firstOf (n1 (by decide) (s_refused rO6 ?_))
      unfold w_X9_row
      refine t_bound ?_
      rw [e]
      refine y2 rfl (y2 r3 ?_)
      rw [w_X9_row_b24]
      exact n1 (by decide) (t_no rO6 ⟨rfl, R_ref h rO6⟩)
  · have fin : ∀ v, w_X8_row_b23 x1 (fun r st' => w_X9_row x1 mt (fun r' mt' => r = r' ∧ R st' mt')) v (rangeF x1 0 99) st := fun v => by
      rw [w_X8_row_b23]
      refine s_firstOf ?_
      rw [f1 e]
      refine n1 e (s_refused (rg_ok e) ?_)
      unfold w_X9_row
      refine t_bound (n2 e ?_)
      rw [w_X9_row_b24]
      exact n1 e (t_no (rg_ok e) ⟨rfl, R_ref h (rg_ok e)⟩)
    unfold w_X6_isFull
    exact ⟨fun _ => y1 rfl (fin 0), fun _ => n1 (by decide) (fin (-6))⟩
theorem R_tell {st mt : St} (h : R st mt) (st' mt' : St) (hs : ∀ j, j ≠ 4 → j ≠ 5 → st' j = st j) (hm : ∀ j, j ≠ 0 → j ≠ 9 → j ≠ 10 → j ≠ 11 → j ≠ 12 → mt' j = mt j) (h0 : ∀ a, a ≠ 16 → a ≠ 17 → a ≠ 18 → mt' 0 a = mt 0 a) (hr : Rtell st' mt') : R st' mt' := by
  obtain ⟨s, t1, t2, t3, t4⟩ := h.2.2.2.2.2.1
  refine R_parts h (fun j hj => hs j (by omega) (by omega)) (by rw [hs 9 (by decide) (by decide)]) (fun i _ => ?_) (h0 11 (by decide) (by decide) (by decide)) (fun i hi => by rw [hs 1 (by decide) (by decide), hm 1 (by decide) (by decide) (by decide) (by decide) (by decide)]; exact h.2.2.2.1 i hi) hr ⟨s, t1, by rw [hs 6 (by decide) (by decide)]; exact t2, by rw [h0 29 (by decide) (by decide) (by decide)]; exact t3, fun i hi => by rw [hs 7 (by decide) (by decide), hm 16 (by decide) (by decide) (by decide) (by decide) (by decide)]; exact t4 i hi⟩
    (by rw [hs 0 (by decide) (by decide)]) (h0 20 (by decide) (by decide) (by decide)) (hm 13 (by decide) (by decide) (by decide) (by decide) (by decide)) (by rw [hs 2 (by decide) (by decide)]) (by rw [hs 2 (by decide) (by decide)]) (h0 23 (by decide) (by decide) (by decide))
  unfold lvM
  rw [hm 2 (by decide) (by decide) (by decide) (by decide) (by decide), hm 3 (by decide) (by decide) (by decide) (by decide) (by decide), hm 4 (by decide) (by decide) (by decide) (by decide) (by decide), hm 5 (by decide) (by decide) (by decide) (by decide) (by decide), hm 6 (by decide) (by decide) (by decide) (by decide) (by decide), hm 7 (by decide) (by decide) (by decide) (by decide) (by decide), hm 8 (by decide) (by decide) (by decide) (by decide) (by decide), h0 8 (by decide) (by decide) (by decide), h0 9 (by decide) (by decide) (by decide), h0 10 (by decide) (by decide) (by decide)]
theorem sim_feed {st mt : St} (h : R st mt) (x1 : Int32) : w_X8_feed x1 st (fun r st' => w_X9_feed x1 mt (fun r' mt' => r = r' ∧ R st' mt')) := by
  obtain ⟨r, r1, r2, r3, r4⟩ := h.2.2.2.2.1
  have cl : r < 96 → (nI r).toNatClampNeg = r := fun z => clI z (by decide)
  have e12 : ∀ r, r < 96 → (if nI r + 1 < 96 then nI r + 1 else 96) = nI (r + 1) := by decide +kernel
  unfold w_X8_feed
  refine s_range ?_
  by_cases e : rangeF x1 0 255 = 0
  · unfold w_X7_isFull
    rw [r2, e]
    by_cases hr : r < 96
    · have q1 : nI r < 96 := (nJ_lt (by omega) (by decide)).mpr hr
      refine y1 q1 (y1 rfl ?_)
      rw [w_X8_feed_b24]
      refine s_firstOf (y1 rfl ?_)
      unfold w_X7_add
      rw [r2]
      refine s_put hr (by decide) ?_
      have q2 : u2 st 5 r x1 4 1 = nI r := by rw [u2_off (by decide)]; exact r2
      rw [q2, e12 r hr, u2_same]
      unfold w_X9_feed
      refine t_bound ?_
      rw [e]
      refine y2 rfl (n2 (by rw [r3]; exact fun z => absurd (nI_eqI (by omega) (by decide) (show nI r = nI 96 from z)) (by omega)) ?_)
      rw [w_X9_feed_b25, r3, cl hr]
      refine y1 rfl ⟨vp_in_nI hr (by decide), ?_⟩
      have q3 : u2 mt 9 r x1 0 16 = nI r := by rw [u2_off (by decide)]; exact r3
      rw [q3, u2_same, nI_inc]
      refine ⟨rfl, R_tell h _ _ (fun j a b => by rw [u2_off a, u2_off b]) (fun j a b _ _ _ => by rw [u2_off a, u2_off b]) (fun a ha _ _ => by rw [u2_0 ha, u2_off (by decide)]) ⟨r + 1, by omega, u2_same, u2_same, fun i hi => ?_⟩⟩
      rw [u2_off (show (5 : Nat) ≠ 4 by decide), u2_off (show (9 : Nat) ≠ 0 by decide)]
      by_cases ei : i = r
      · subst ei; rw [u2_same, u2_same]
      · rw [u2_ne (Or.inr ei), u2_ne (Or.inr ei)]; exact r4 i (by omega)
    · have er : r = 96 := by omega
      subst er
      refine n1 (by decide) (n1 (by decide) ?_)
      rw [w_X8_feed_b24]
      refine s_firstOf (n1 (by decide) (s_refused rO6 ?_))
      unfold w_X9_feed
      refine t_bound ?_
      rw [e]
      refine y2 rfl (y2 r3 ?_)
      rw [w_X9_feed_b25]
      exact n1 (by decide) (t_no rO6 ⟨rfl, R_ref h rO6⟩)
  · have fin : ∀ v, w_X8_feed_b24 x1 (fun r st' => w_X9_feed x1 mt (fun r' mt' => r = r' ∧ R st' mt')) v (rangeF x1 0 255) st := fun v => by
      rw [w_X8_feed_b24]
      refine s_firstOf ?_
      rw [f1 e]
      refine n1 e (s_refused (rg_ok e) ?_)
      unfold w_X9_feed
      refine t_bound (n2 e ?_)
      rw [w_X9_feed_b25]
      exact n1 e (t_no (rg_ok e) ⟨rfl, R_ref h (rg_ok e)⟩)
    unfold w_X7_isFull
    exact ⟨fun _ => y1 rfl (fin 0), fun _ => n1 (by decide) (fin (-6))⟩
def hsS (c : Ct) (p q : Nat) : Int32 := if p = q then 0 else c 4 (hI p q)
theorem x_hateOrSelf {st : St} {p q : Nat} {K : Int32 → St → Prop} (hp : p < 6) (hq : q < 6) (h : K (hsS (cv st 11) p q) st) : w_X3_hateOrSelf (nI p) (nI q) st K := by
  unfold w_X3_hateOrSelf
  unfold hsS at h
  by_cases e : p = q
  · subst e
    rw [if_pos rfl] at h
    exact y2 rfl h
  · rw [if_neg e] at h
    exact n2 (fun z => e (nI_eqI (by omega) (by omega) z)) (x_hateOf hp hq h)
def jgP (n : Nat) (st : St) (p q : Nat) : Bool := decide (n ≤ q) || decide (st 7 q ≠ hsS (cv st 11) p q)
theorem sim_judge {st mt : St} (h : R st mt) (x1 : Int32) : w_X8_judge x1 st (fun r st' => w_X9_judge x1 mt (fun r' mt' => r = r' ∧ R st' mt')) := by
  obtain ⟨n, nL, hm, g, hn, hL, h7, h8, k8, k9⟩ := h.ctx
  obtain ⟨r, r1, r2, r3, r4⟩ := h.2.2.2.2.2.1
  unfold w_X8_judge
  refine s_keeperRef h7 ?_
  by_cases e : isF n x1 = 0
  · rw [nb0 e]
    refine n1 (by decide) (s_refused rO1 ?_)
    unfold w_X9_judge
    exact t_isKeeper k8 (y2 e (t_no rO1 ⟨rfl, R_ref h rO1⟩))
  · rw [nb1 e]
    obtain ⟨p, hp, rfl⟩ := isF_1 (by omega) e
    refine y1 rfl ?_
    unfold w_X3_firstMisjudged
    refine lo_fst (W := fun m q => w_X3_firstMisjudged_L9 (nI p) _ m (nI q) st) (P := jgP n st p) (Q := fun v => w_X6_empty st (fun st33 => w_X9_judge (nI p) mt (fun r' mt' => v = r' ∧ R st33 mt'))) (Nat.zero_le r) (fun hQ => ⟨1, ?_⟩) (fun q _ hq hP hQ => ⟨1, ?_⟩) (fun m q _ hq hP hw => ?_) ?_
    · rw [w_X3_firstMisjudged_L9, w_X3_firstMisjudged_L9q]
      unfold w_X6_size
      rw [r2]
      exact y1 (nI_le (Nat.le_refl r) (by omega)) hQ
    · rw [w_X3_firstMisjudged_L9, w_X3_firstMisjudged_L9q]
      unfold w_X6_size
      rw [r2]
      refine n1 (nI_ge hq (by omega)) (s_hasKeeper h7 ?_)
      by_cases e2 : q < n
      · rw [isF_in (by omega) e2]
        refine n1 (by decide) ?_
        unfold w_X6_number
        refine s_at (by omega) (by decide) (x_hateOrSelf (by omega) (by omega) (n1 (fun z => ?_) hQ))
        rw [jgP, z] at hP
        simp [Nat.not_le.mpr e2] at hP
      · have : isF n (nI q) = 0 := by
          unfold isF
          rw [if_neg (n_lt0 (show q < 2147483648 by omega)), if_pos (nI_le (by omega) (by omega))]
        rw [this]
        exact y1 rfl hQ
    · rw [w_X3_firstMisjudged_L9, w_X3_firstMisjudged_L9q]
      unfold w_X6_size
      rw [r2]
      have e2 : q < n := by
        have : decide (n ≤ q) = false := by
          cases z : decide (n ≤ q) with
          | true => rw [jgP, z] at hP; simp at hP
          | false => rfl
        exact Nat.not_le.mp (of_decide_eq_false this)
      have e3 : st 7 q = hsS (cv st 11) p q := by
        rw [jgP, decide_eq_false (Nat.not_le.mpr e2), Bool.false_or] at hP
        exact Classical.not_not.mp (of_decide_eq_false hP)
      refine n1 (nI_ge hq (by omega)) (s_hasKeeper h7 ?_)
      rw [isF_in (by omega) e2]
      refine n1 (by decide) ?_
      unfold w_X6_number
      refine s_at (by omega) (by decide) (x_hateOrSelf (by omega) (by omega) (y1 e3 ?_))
      rw [nI_inc]
      exact hw
    · unfold w_X6_empty w_X9_judge
      refine t_isKeeper k8 (n2 e ?_)
      rw [r3]
      have k8' : u2 mt 0 29 0 0 8 = nI n := by rw [u2_0 (by decide)]; exact k8
      have ok : R (u2 st 6 1 0) (u2 mt 0 29 0) := R_clear h
      have hj : ∀ q, q < n → q < r → (u2 mt 0 29 0) 16 q = st 7 q := fun q _ hq => by rw [u2_off (by decide)]; exact (r4 q hq).symm
      refine lo_fst (W := fun m q => w_X9_judge_L26 (nI p) _ m (nI r) (nI q) (u2 mt 0 29 0)) (P := jgP n st p) (Q := fun v => fstG (jgP n st p) (r - 0) 0 = v ∧ R (u2 st 6 1 0) (u2 mt 0 29 0)) (Nat.zero_le r) (fun hQ => ⟨1, ?_⟩) (fun q _ hq hP hQ => ⟨1, ?_⟩) (fun m q _ hq hP hw => ?_) ⟨rfl, ok⟩
      · rw [w_X9_judge_L26, w_X9_judge_L26q]
        exact y1 (nI_le (Nat.le_refl r) (by omega)) hQ
      · rw [w_X9_judge_L26, w_X9_judge_L26q, k8']
        refine n1 (nI_ge hq (by omega)) ?_
        by_cases e2 : q < n
        · have ne : st 7 q ≠ hsS (cv st 11) p q := by
            rw [jgP, decide_eq_false (Nat.not_le.mpr e2), Bool.false_or] at hP
            exact of_decide_eq_true hP
          refine n1 (nI_ge e2 (by omega)) ?_
          by_cases ep : p = q
          · subst ep
            refine y2 rfl ?_
            rw [w_X9_judge_b54, clI (show p < 12 by omega) (by decide), hj p e2 hq]
            refine ⟨vp_in_nI (by omega) (by decide), n1 (fun z => ne ?_) hQ⟩
            rw [← z, hsS, if_pos rfl]
          · refine n2 (fun z => ep (nI_eqI (by omega) (by omega) z.symm)) (t_hateOf (by omega) (by omega) ?_)
            rw [w_X9_judge_b54, clI (show q < 12 by omega) (by decide), hj q e2 hq, u2_off (by decide)]
            refine ⟨vp_in_nI (by omega) (by decide), n1 (fun z => ne ?_) hQ⟩
            rw [← z, hsS, if_neg ep, hm.hate hp e2 ep]
        · exact y1 (nI_le (by omega) (by omega)) hQ
      · rw [w_X9_judge_L26, w_X9_judge_L26q, k8']
        have e2 : q < n := by
          have : decide (n ≤ q) = false := by
            cases z : decide (n ≤ q) with
            | true => rw [jgP, z] at hP; simp at hP
            | false => rfl
          exact Nat.not_le.mp (of_decide_eq_false this)
        have e3 : st 7 q = hsS (cv st 11) p q := by
          rw [jgP, decide_eq_false (Nat.not_le.mpr e2), Bool.false_or] at hP
          exact Classical.not_not.mp (of_decide_eq_false hP)
        refine n1 (nI_ge hq (by omega)) (n1 (nI_ge e2 (by omega)) ?_)
        by_cases ep : p = q
        · subst ep
          refine y2 rfl ?_
          rw [w_X9_judge_b54, clI (show p < 12 by omega) (by decide), hj p e2 hq, nI_inc]
          refine ⟨vp_in_nI (by omega) (by decide), y1 ?_ hw⟩
          rw [e3, hsS, if_pos rfl]
        · refine n2 (fun z => ep (nI_eqI (by omega) (by omega) z.symm)) (t_hateOf (by omega) (by omega) ?_)
          rw [w_X9_judge_b54, clI (show q < 12 by omega) (by decide), hj q e2 hq, u2_off (by decide), nI_inc]
          refine ⟨vp_in_nI (by omega) (by decide), y1 ?_ hw⟩
          rw [e3, hsS, if_neg ep, hm.hate hp e2 ep]
end
section
/-! pure part: looks, one: keepers of a town, wages, hate of a town -/
def kiF (n : Nat) (c : Ct) (t : Int32) : Nat := fr 0 n (fun p b => if c 3 p = t then b ||| 2 ^ p else b) 0
theorem kiF_lt {n : Nat} {c : Ct} {t : Int32} : kiF n c t < 2 ^ n :=
  fr_inv (fun i b => b < 2 ^ i) _ (Nat.zero_le n) (by decide) (fun i b _ _ h => by
    split
    · exact Nat.or_lt_two_pow (Nat.lt_of_lt_of_le h (Nat.pow_le_pow_right (by decide) (by omega))) (Nat.pow_lt_pow_right (by decide) (by omega))
    · exact Nat.lt_of_lt_of_le h (Nat.pow_le_pow_right (by decide) (by omega)))
theorem ki64 {n : Nat} {c : Ct} {t : Int32} (hn : n ≤ 6) : kiF n c t < 64 := p64 hn kiF_lt
theorem ki_inv {n i : Nat} (hn : n ≤ 6) (hi : i ≤ n) {c : Ct} {t : Int32} : fr 0 i (fun p b => if c 3 p = t then b ||| 2 ^ p else b) 0 < 64 := ki64 (by omega)
theorem x_keepersIn {st : St} {n : Nat} {t : Int32} {K : Int32 → St → Prop} (hn : n ≤ 6) (h7 : st 11 7 = nI n) (ht : t ≠ -1) (h : K (nI (kiF n (cv st 11) t)) st) : w_X3_keepersIn t st K := by
  unfold w_X3_keepersIn
  refine lo_fr (fun m p (b : Nat) => w_X3_keepersIn_L4 t K m (nI b) (nI p) st) (fun p b => if cv st 11 3 p = t then b ||| 2 ^ p else b) (fun _ b => b < 64) (0 : Nat) (Nat.zero_le n) (by decide) (fun i b _ hi hb => ?_) (fun _ m => ?_) (fun m p b _ hp hb hw => ?_)
  · show (if _ then _ else _) < 64
    split
    · exact Nat.or_lt_two_pow (n := 6) hb (Nat.pow_lt_pow_right (by decide) (by omega))
    · exact hb
  · rw [w_X3_keepersIn_L4, w_X3_keepersIn_L4q]
    unfold w_X1_keeperCount
    rw [h7]
    exact y1 (nI_le (Nat.le_refl n) (by omega)) h
  · rw [w_X3_keepersIn_L4, w_X3_keepersIn_L4q]
    unfold w_X1_keeperCount
    rw [h7]
    refine n1 (nI_ge hp (by omega)) (n1 ht (x_townOf (by omega) ?_))
    by_cases e : cv st 11 3 p = t
    · rw [if_pos e] at hw
      refine y2 e ?_
      rw [w_X3_keepersIn_b32, w_X3_keepersIn_b38, nI_inc]
      rw [← or_bit b hb p (by omega)] at hw
      exact hw
    · rw [if_neg e] at hw
      refine n2 e ?_
      rw [w_X3_keepersIn_b38, nI_inc]
      exact hw
theorem x_keepersAll {st : St} {n : Nat} {K : Int32 → St → Prop} (hn : n ≤ 6) (h7 : st 11 7 = nI n) (h : ∀ b, b < 64 → (∀ p, p < n → b.testBit p = true) → K (nI b) st) : w_X3_keepersIn (-1) st K := by
  unfold w_X3_keepersIn
  refine lo_rel (fun m p (b : Nat) => w_X3_keepersIn_L4 (-1) K m (nI b) (nI p) st) (fun i b => b < 64 ∧ ∀ p, p < i → b.testBit p = true) (0 : Nat) (Nat.zero_le n) ⟨by decide, fun p hp => absurd hp (Nat.not_lt_zero p)⟩ (fun b hb m => ?_) (fun m p b _ hp hb hw => ?_)
  · rw [w_X3_keepersIn_L4, w_X3_keepersIn_L4q]
    unfold w_X1_keeperCount
    rw [h7]
    exact y1 (nI_le (Nat.le_refl n) (by omega)) (h b hb.1 hb.2)
  · rw [w_X3_keepersIn_L4, w_X3_keepersIn_L4q]
    unfold w_X1_keeperCount
    rw [h7]
    refine n1 (nI_ge hp (by omega)) (y1 rfl ?_)
    rw [w_X3_keepersIn_b32, w_X3_keepersIn_b38, nI_inc]
    show w_X3_keepersIn_L4 (-1) K m (nI b ||| lbit p) (nI (p + 1)) st
    rw [or_bit b hb.1 p (by omega)]
    refine hw _ ⟨Nat.or_lt_two_pow (n := 6) hb.1 (Nat.pow_lt_pow_right (by decide) (by omega)), fun q hq => ?_⟩
    rw [tb_or]
    by_cases e : q = p
    · subst e; simp
    · rw [hb.2 q (by omega)]; rfl
theorem t_keepersIn {n nL : Nat} {mt : St} {c : Ct} {t : Int32} {K : Int32 → St → Prop} (hm : RM n nL mt c) (g : gC n nL c) (h : K (nI (kiF n c t)) mt) : w_X9_keepersIn t mt K := by
  have hn := hm.1.1
  have h8 := hm.2.2.1
  unfold w_X9_keepersIn
  refine lo_fr (fun m p (b : Nat) => w_X9_keepersIn_L4 t K m (nI b) (nI p) mt) (fun p b => if c 3 p = t then b ||| 2 ^ p else b) (fun _ b => b < 64) (0 : Nat) (Nat.zero_le n) (by decide) (fun i b _ hi hb => ?_) (fun _ m => ?_) (fun m p b _ hp hb hw => ?_)
  · show (if _ then _ else _) < 64
    split
    · exact Nat.or_lt_two_pow (n := 6) hb (Nat.pow_lt_pow_right (by decide) (by omega))
    · exact hb
  · rw [w_X9_keepersIn_L4, w_X9_keepersIn_L4q, h8]
    exact y1 (nI_le (Nat.le_refl n) (by omega)) h
  · rw [w_X9_keepersIn_L4, w_X9_keepersIn_L4q, h8]
    refine n1 (nI_ge hp (by omega)) ⟨vp_in_nI (by omega) (by decide), ?_⟩
    rw [clI (show p < 6 by omega) (by decide), hm.town g hp]
    by_cases e : c 3 p = t
    · rw [if_pos e] at hw
      refine y2 e ?_
      rw [w_X9_keepersIn_b30, nI_inc]
      rw [← or_bit b hb p (by omega)] at hw
      exact hw
    · rw [if_neg e] at hw
      refine n2 e ?_
      rw [w_X9_keepersIn_b30, nI_inc, Int32.or_zero]
      exact hw
theorem has_is : ∀ b, b < 256 → ∀ p, p < 8 → (((nI b >>> (nI p &&& 31)) &&& 1) = 1 ↔ b.testBit p = true) := by decide +kernel
theorem bit_is8 : ∀ b, b < 256 → ∀ l, l < 8 → bitF (nI b) (nI l) = if b.testBit l then 1 else 0 := by decide +kernel
theorem t_hasN {b p : Nat} {mt : St} {K : Int32 → St → Prop} (hb : b < 256) (hp : p < 8) (h : K (if b.testBit p then 1 else 0) mt) : w_X9_has (nI b) (nI p) mt K :=
  t_has (fun z => by rw [if_pos ((has_is b hb p hp).mp z)] at h; exact h) (fun z => by rw [if_neg (fun y => z ((has_is b hb p hp).mpr y))] at h; exact h)
theorem s_bitN {b p : Nat} {st : St} {K : Int32 → St → Prop} (hb : b < 256) (hp : p < 8) (h : K (if b.testBit p then 1 else 0) st) : w_X8_bit (nI b) (nI p) st K := s_bit (by rw [bit_is8 b hb p hp]; exact h)
def wgF (n : Nat) (c : Ct) (b : Nat) : Int32 := fr 0 n (fun p (s : Int32) => if b.testBit p then s + wageF c p else s) 0
theorem wgF_cg {n : Nat} {c : Ct} {a b : Nat} (h : ∀ p, p < n → a.testBit p = b.testBit p) : wgF n c a = wgF n c b := by
  have key : ∀ i, i ≤ n → wgF i c a = wgF i c b := by
    intro i
    induction i with
    | zero => intro _; rfl
    | succ i ih =>
      intro hi
      have e := ih (by omega)
      unfold wgF at e ⊢
      rw [fr_succ (Nat.zero_le i), fr_succ (Nat.zero_le i), e, h i (by omega)]
  exact key n (Nat.le_refl n)
theorem x_wages {st : St} {n b : Nat} {K : Int32 → St → Prop} (hn : n ≤ 6) (h7 : st 11 7 = nI n) (hb : b < 256) (h : K (wgF n (cv st 11) b) st) : w_X3_wages (nI b) st K := by
  unfold w_X3_wages
  refine lo_fr (fun m p (s : Int32) => w_X3_wages_L4 (nI b) K m s (nI p) st) (fun p s => if b.testBit p then s + wageF (cv st 11) p else s) (fun _ _ => True) (0 : Int32) (Nat.zero_le n) trivial (fun _ _ _ _ _ => trivial) (fun _ m => ?_) (fun m p s _ hp _ hw => ?_)
  · rw [w_X3_wages_L4, w_X3_wages_L4q]
    unfold w_X1_keeperCount
    rw [h7]
    exact y1 (nI_le (Nat.le_refl n) (by omega)) h
  · rw [w_X3_wages_L4, w_X3_wages_L4q]
    unfold w_X1_keeperCount
    rw [h7]
    refine n1 (nI_ge hp (by omega)) (s_bitN hb (by omega) ?_)
    by_cases e : b.testBit p = true
    · rw [if_pos e] at hw
      rw [if_pos e]
      refine y2 rfl (x_wageOf (by omega) ?_)
      rw [w_X3_wages_b35, nI_inc]
      exact hw
    · rw [if_neg e] at hw
      rw [if_neg e]
      refine n2 (by decide) ?_
      rw [w_X3_wages_b35, nI_inc]
      exact hw
theorem t_payOfAll {n nL b : Nat} {mt : St} {c : Ct} {K : Int32 → St → Prop} (hm : RM n nL mt c) (hb : b < 256) (h : K (wgF n c b) mt) : w_X9_payOfAll (nI b) mt K := by
  have hn := hm.1.1
  have h8 := hm.2.2.1
  unfold w_X9_payOfAll
  refine lo_fr (fun m p (s : Int32) => w_X9_payOfAll_L4 (nI b) K m s (nI p) mt) (fun p s => if b.testBit p then s + wageF c p else s) (fun _ _ => True) (0 : Int32) (Nat.zero_le n) trivial (fun _ _ _ _ _ => trivial) (fun _ m => ?_) (fun m p s _ hp _ hw => ?_)
  · rw [w_X9_payOfAll_L4, w_X9_payOfAll_L4q, h8]
    exact y1 (nI_le (Nat.le_refl n) (by omega)) h
  · rw [w_X9_payOfAll_L4, w_X9_payOfAll_L4q, h8]
    refine n1 (nI_ge hp (by omega)) (t_hasN hb (by omega) ?_)
    have a := hm.2.2.2.2.2.1 p hp
    by_cases e : b.testBit p = true
    · rw [if_pos e] at hw
      rw [if_pos e]
      refine n1 (by decide) (t_payOf (by omega) ?_)
      rw [w_X9_payOfAll_b30, nI_inc, a.1, a.2.1]
      exact hw
    · rw [if_neg e] at hw
      rw [if_neg e]
      refine y1 rfl ?_
      rw [w_X9_payOfAll_b30, nI_inc, Int32.add_zero]
      exact hw
theorem town_nI {x : Int32} (h : ¬ townF x = 0) : ∃ t, t < 4 ∧ x = nI t := isF_1 (n := 4) (by decide) h
theorem n0le {t : Nat} (h : t < 2147483648) : 0 ≤ nI t := n_le0 h
theorem sim_pay {st mt : St} (h : R st mt) (x1 x2 : Int32) : w_X8_pay x1 x2 st (fun r st' => w_X9_pay x1 x2 mt (fun r' mt' => r = r' ∧ R st' mt')) := by
  obtain ⟨n, nL, hm, g, hn, hL, h7, h8, k8, k9⟩ := h.ctx
  -- behind the town: weeks
  have weeks : ∀ K : Int32 → St → Prop, (rangeF x2 0 60 = 0 → w_X9_pay_b20 x1 x2 K 0 mt) → (¬ rangeF x2 0 60 = 0 → K (rangeF x2 0 60) (refS mt (rangeF x2 0 60))) → w_X9_pay_b16 x1 x2 K mt := fun K q1 q2 => by
    rw [w_X9_pay_b16]
    refine t_notWeeks ?_
    by_cases e : rangeF x2 0 60 = 0
    · rw [e]; exact q1 e
    · rw [w_X9_pay_b20]
      exact n1 e (t_no (rg_ok e) (q2 e))
  unfold w_X8_pay
  refine ⟨fun z => s_townRef ?_, fun z => ?_⟩
  · by_cases e : townF x1 = 0
    · rw [nb0 e, w_X8_pay_b13]
      refine s_range (s_firstOf ?_)
      rw [f1 (by decide)]
      refine n1 (by decide) (s_refused rO1 ?_)
      unfold w_X9_pay
      refine n1 z (t_isTown (y2 e ?_))
      rw [w_X9_pay_b20]
      exact n1 (by decide) (t_no rO1 ⟨rfl, R_ref h rO1⟩)
    · rw [nb1 e, w_X8_pay_b13]
      refine s_range (s_firstOf ?_)
      obtain ⟨t, ht, rfl⟩ := town_nI e
      have key : ∀ K : Int32 → St → Prop, (rangeF x2 0 60 = 0 → w_X9_pay_b20 (nI t) x2 K 0 mt) → (¬ rangeF x2 0 60 = 0 → K (rangeF x2 0 60) (refS mt (rangeF x2 0 60))) → w_X9_pay (nI t) x2 mt K := fun K q1 q2 => by
        unfold w_X9_pay
        exact n1 z (t_isTown (n2 e (weeks K q1 q2)))
      by_cases e2 : rangeF x2 0 60 = 0
      · rw [e2]
        refine y1 rfl (x_keepersIn hn h7 z (x_wages hn h7 (Nat.lt_of_lt_of_le (ki64 hn) (by decide)) (key _ (fun _ => ?_) (fun y => absurd e2 y))))
        rw [w_X9_pay_b20]
        refine y1 rfl (y1 (n0le (by omega)) (t_keepersIn hm g ?_))
        rw [w_X9_pay_b47]
        refine t_payOfAll hm (Nat.lt_of_lt_of_le (ki64 hn) (by decide)) ⟨Int32.mul_comm _ _, h⟩
      · rw [f01 e2]
        exact n1 e2 (s_refused (rg_ok e2) (key _ (fun y => absurd y e2) (fun _ => ⟨rfl, R_ref h (rg_ok e2)⟩)))
  · subst z
    rw [w_X8_pay_b13]
    refine s_range (s_firstOf ?_)
    have key : ∀ K : Int32 → St → Prop, (rangeF x2 0 60 = 0 → w_X9_pay_b20 (-1) x2 K 0 mt) → (¬ rangeF x2 0 60 = 0 → K (rangeF x2 0 60) (refS mt (rangeF x2 0 60))) → w_X9_pay (-1) x2 mt K := fun K q1 q2 => by
      unfold w_X9_pay
      exact y1 rfl (weeks K q1 q2)
    by_cases e2 : rangeF x2 0 60 = 0
    · rw [e2]
      refine y1 rfl (x_keepersAll hn h7 fun b hb hbt => x_wages hn h7 (by omega) (key _ (fun _ => ?_) (fun y => absurd e2 y)))
      rw [w_X9_pay_b20]
      refine y1 rfl (n1 (by decide) ?_)
      rw [w_X9_pay_b47]
      refine t_payOfAll (b := 63) hm (by decide) ⟨?_, h⟩
      rw [Int32.mul_comm, wgF_cg (a := b) (b := 63) fun p hp => by rw [hbt p hp]; exact ((show ∀ p, p < 6 → (63 : Nat).testBit p = true by decide) p (by omega)).symm]
    · rw [f01 e2]
      exact n1 e2 (s_refused (rg_ok e2) (key _ (fun y => absurd y e2) (fun _ => ⟨rfl, R_ref h (rg_ok e2)⟩)))
def mhS (c : Ct) (t : Int32) (p q : Nat) (s : Int32) : Int32 := if c 3 p = t ∧ c 3 q = t then (if s < c 4 (hI p q) then c 4 (hI p q) else s) else s
def mhF (n : Nat) (c : Ct) (t : Int32) : Int32 := fr 0 n (fun p s => fr (p + 1) n (fun q s => mhS c t p q s) s) (-9)
theorem x_mostHateIn {st : St} {n : Nat} {t : Int32} {K : Int32 → St → Prop} (hn : n ≤ 6) (h7 : st 11 7 = nI n) (h : K (mhF n (cv st 11) t) st) : w_X3_mostHateIn t st K := by
  unfold w_X3_mostHateIn
  refine lo_fr (fun m p (s : Int32) => w_X3_mostHateIn_L5 t K m s (nI p) st) (fun p s => fr (p + 1) n (fun q s => mhS (cv st 11) t p q s) s) (fun _ _ => True) (-9 : Int32) (Nat.zero_le n) trivial (fun _ _ _ _ _ => trivial) (fun _ m => ?_) (fun m p s _ hp _ hw => ?_)
  · rw [w_X3_mostHateIn_L5, w_X3_mostHateIn_L5q]
    unfold w_X1_keeperCount
    rw [h7]
    exact y1 (nI_le (Nat.le_refl n) (by omega)) h
  · rw [w_X3_mostHateIn_L5, w_X3_mostHateIn_L5q]
    unfold w_X1_keeperCount
    rw [h7]
    refine n1 (nI_ge hp (by omega)) ?_
    rw [nI_inc]
    refine lo_fr (fun k q (s : Int32) => w_X3_mostHateIn_L21 t (fun v2 v3 st => w_X3_mostHateIn_L5 t K m v2 v3 st) K k s (nI p) (nI q) st) (fun q s => mhS (cv st 11) t p q s) (fun _ _ => True) s (show p + 1 ≤ n by omega) trivial (fun _ _ _ _ _ => trivial) (fun _ k => ?_) (fun k q s h1 hq _ hw2 => ?_)
    · rw [w_X3_mostHateIn_L21, w_X3_mostHateIn_L21q]
      unfold w_X1_keeperCount
      rw [h7]
      refine y1 (nI_le (Nat.le_refl n) (by omega)) ?_
      rw [w_X3_mostHateIn_b68, nI_inc]
      exact hw
    · rw [w_X3_mostHateIn_L21, w_X3_mostHateIn_L21q]
      unfold w_X1_keeperCount
      rw [h7]
      refine n1 (nI_ge hq (by omega)) (x_bothIn (by omega) (by omega) ?_)
      unfold mhS at hw2
      by_cases e : cv st 11 3 p = t ∧ cv st 11 3 q = t
      · rw [if_pos e] at hw2
        rw [if_pos e]
        refine n1 (by decide) (x_hateOf (by omega) (by omega) ?_)
        rw [w_X3_mostHateIn_b62, nI_inc]
        exact hw2
      · rw [if_neg e] at hw2
        rw [if_neg e]
        refine y1 rfl ?_
        rw [w_X3_mostHateIn_b62, nI_inc]
        exact hw2
theorem t_deepestL {n nL : Nat} {mt : St} {c : Ct} {t : Int32} {K : Int32 → St → Prop} (hm : RM n nL mt c) (ht : t ≠ -1) (h : K (mhF n c t) mt) : ∃ m, w_X9_deepest_L18 t K m (-9) 0 mt := by
  have hn := hm.1.1
  have h8 := hm.2.2.1
  refine lo_fr (fun m p (s : Int32) => w_X9_deepest_L18 t K m s (nI p) mt) (fun p s => fr (p + 1) n (fun q s => mhS c t p q s) s) (fun _ _ => True) (-9 : Int32) (Nat.zero_le n) trivial (fun _ _ _ _ _ => trivial) (fun _ m => ?_) (fun m p s _ hp _ hw => ?_)
  · rw [w_X9_deepest_L18, w_X9_deepest_L18q, h8]
    exact y1 (nI_le (Nat.le_refl n) (by omega)) h
  · rw [w_X9_deepest_L18, w_X9_deepest_L18q, h8]
    refine n1 (nI_ge hp (by omega)) ?_
    rw [nI_inc]
    refine lo_fr (fun k q (s : Int32) => w_X9_deepest_L31 t (fun v2 v3 st => w_X9_deepest_L18 t K m v2 v3 st) K k s (nI p) (nI q) mt) (fun q s => mhS c t p q s) (fun _ _ => True) s (show p + 1 ≤ n by omega) trivial (fun _ _ _ _ _ => trivial) (fun _ k => ?_) (fun k q s h1 hq _ hw2 => ?_)
    · rw [w_X9_deepest_L31, w_X9_deepest_L31q, h8]
      refine y1 (nI_le (Nat.le_refl n) (by omega)) ?_
      rw [w_X9_deepest_b80, nI_inc]
      exact hw
    · rw [w_X9_deepest_L31, w_X9_deepest_L31q, h8]
      refine n1 (nI_ge hq (by omega)) (t_areThere hm hp hq ht ?_)
      unfold mhS at hw2
      by_cases e : c 3 p = t ∧ c 3 q = t
      · rw [if_pos e] at hw2
        rw [if_pos e]
        refine n1 (by decide) (t_hateOf (by omega) (by omega) ?_)
        rw [hm.hate hp hq (by omega)]
        by_cases e2 : s < c 4 (hI p q)
        · rw [if_pos e2] at hw2
          refine n1 (i_nle.mpr e2) (t_hateOf (by omega) (by omega) ?_)
          rw [hm.hate hp hq (by omega), w_X9_deepest_b73, nI_inc]
          exact hw2
        · rw [if_neg e2] at hw2
          refine y1 (i_nlt.mp e2) ?_
          rw [w_X9_deepest_b72, w_X9_deepest_b73, nI_inc]
          exact hw2
      · rw [if_neg e] at hw2
        rw [if_neg e]
        refine y1 rfl ?_
        rw [w_X9_deepest_b72, w_X9_deepest_b73, nI_inc]
        exact hw2
theorem sim_deepest {st mt : St} (h : R st mt) (x1 : Int32) : w_X8_deepest x1 st (fun r st' => w_X9_deepest x1 mt (fun r' mt' => r = r' ∧ R st' mt')) := by
  obtain ⟨n, nL, hm, g, hn, hL, h7, h8, k8, k9⟩ := h.ctx
  unfold w_X8_deepest
  refine s_townRef ?_
  by_cases e : townF x1 = 0
  · rw [nb0 e]
    refine n1 (by decide) (s_refused rO1 ?_)
    unfold w_X9_deepest
    exact t_isTown (y2 e (t_no rO1 ⟨rfl, R_ref h rO1⟩))
  · rw [nb1 e]
    obtain ⟨t, ht, rfl⟩ := town_nI e
    refine y1 rfl (x_mostHateIn hn h7 ?_)
    unfold w_X9_deepest
    exact t_isTown (n2 e (t_deepestL hm (tn1 t ht) ⟨rfl, h⟩))
/-! both: is there a two of the town who hate so much? -/
theorem fr2_inv {σ : Type} {n : Nat} (I : (Nat → Nat → Prop) → σ → Prop) (f : Nat → Nat → σ → σ) (s0 : σ) (h0 : I (fun _ _ => False) s0)
    (hs : ∀ p q s, p < q → q < n → I (fun a b => a < b ∧ b < n ∧ (a < p ∨ (a = p ∧ b < q))) s → I (fun a b => a < b ∧ b < n ∧ (a < p ∨ (a = p ∧ b < q + 1))) (f p q s)) : I (fun a b => a < b ∧ b < n) (fr 0 n (fun p s => fr (p + 1) n (fun q s => f p q s) s) s0) := by
  have cg : ∀ (A B : Nat → Nat → Prop) (s : σ), (∀ a b, A a b ↔ B a b) → I A s → I B s := fun A B s e h => by
    have : A = B := by funext a b; exact propext (e a b)
    rw [← this]; exact h
  have key := fr_inv (fun p (s : σ) => I (fun a b => a < b ∧ b < n ∧ a < p) s) (fun p s => fr (p + 1) n (fun q s => f p q s) s) (Nat.zero_le n) (s0 := s0) (cg _ _ _ (fun a b => ⟨fun z => z.elim, fun z => by omega⟩) h0) (fun p s _ hp hI => by
    have k2 := fr_inv (fun q (s : σ) => I (fun a b => a < b ∧ b < n ∧ (a < p ∨ (a = p ∧ b < q))) s) (fun q s => f p q s) (show p + 1 ≤ n by omega) (s0 := s) (cg _ _ _ (fun a b => by constructor <;> intro z <;> omega) hI) (fun q s h1 hq hI => hs p q s (by omega) hq hI)
    exact cg _ _ _ (fun a b => by constructor <;> intro z <;> omega) k2)
  exact cg _ _ _ (fun a b => by constructor <;> intro z <;> omega) key
theorem lt_tr {a b c : Int32} (h1 : a ≤ b) (h2 : b < c) : a < c := by
  rw [Int32.lt_iff_toInt_lt] at *
  rw [Int32.le_iff_toInt_le] at h1
  omega
theorem mh_lt {n : Nat} {c : Ct} {t d : Int32} (hd : (-9) < d) : mhF n c t < d ↔ ∀ a b, (a < b ∧ b < n) → c 3 a = t ∧ c 3 b = t → c 4 (hI a b) < d := by
  refine fr2_inv (fun A (s : Int32) => s < d ↔ ∀ a b, A a b → c 3 a = t ∧ c 3 b = t → c 4 (hI a b) < d) (fun p q s => mhS c t p q s) (-9) ⟨fun _ a b z => z.elim, fun _ => hd⟩ (fun p q s hp hq hJ => ?_)
  have split : (∀ a b, (a < b ∧ b < n ∧ (a < p ∨ (a = p ∧ b < q + 1))) → c 3 a = t ∧ c 3 b = t → c 4 (hI a b) < d) ↔ ((∀ a b, (a < b ∧ b < n ∧ (a < p ∨ (a = p ∧ b < q))) → c 3 a = t ∧ c 3 b = t → c 4 (hI a b) < d) ∧ (c 3 p = t ∧ c 3 q = t → c 4 (hI p q) < d)) := by
    constructor
    · intro z
      exact ⟨fun a b y => z a b (by omega), z p q (by omega)⟩
    · intro z a b y w
      by_cases e : a = p ∧ b = q
      · obtain ⟨rfl, rfl⟩ := e; exact z.2 w
      · exact z.1 a b (by omega) w
  rw [split, ← hJ]
  unfold mhS
  by_cases e : c 3 p = t ∧ c 3 q = t
  · rw [if_pos e]
    by_cases e2 : s < c 4 (hI p q)
    · rw [if_pos e2]
      exact ⟨fun z => ⟨lt_tr (Int32.le_of_lt e2) z, fun _ => z⟩, fun z => z.2 e⟩
    · rw [if_neg e2]
      exact ⟨fun z => ⟨z, fun _ => lt_tr (i_nlt.mp e2) z⟩, fun z => z.1⟩
  · rw [if_neg e]
    exact ⟨fun z => ⟨z, fun y => absurd y e⟩, fun z => z.1⟩
theorem op_none {n : Nat} {c : Ct} {t d : Int32} (ho : hOk n c) : (opS c n t d).1 = none ↔ ∀ a b, (a < b ∧ b < n) → c 3 a = t ∧ c 3 b = t → c 4 (hI a b) < d := by
  refine (fr2_inv (fun A (s : Option (Nat × Nat) × Int32) => (s.1 = none → s.2 = 100) ∧ (s.1 = none ↔ ∀ a b, A a b → c 3 a = t ∧ c 3 b = t → c 4 (hI a b) < d)) (fun p q s => oS c t d p q s) (none, 100) ⟨fun _ => rfl, fun _ a b z => z.elim, fun _ => rfl⟩ (fun p q s hp hq hJ => ?_)).2
  have split : (∀ a b, (a < b ∧ b < n ∧ (a < p ∨ (a = p ∧ b < q + 1))) → c 3 a = t ∧ c 3 b = t → c 4 (hI a b) < d) ↔ ((∀ a b, (a < b ∧ b < n ∧ (a < p ∨ (a = p ∧ b < q))) → c 3 a = t ∧ c 3 b = t → c 4 (hI a b) < d) ∧ (c 3 p = t ∧ c 3 q = t → c 4 (hI p q) < d)) := by
    constructor
    · intro z
      exact ⟨fun a b y => z a b (by omega), z p q (by omega)⟩
    · intro z a b y w
      by_cases e : a = p ∧ b = q
      · obtain ⟨rfl, rfl⟩ := e; exact z.2 w
      · exact z.1 a b (by omega) w
  rw [split]
  obtain ⟨i1, i2⟩ := hJ
  rw [← i2]
  unfold oS
  by_cases e : c 3 p = t ∧ c 3 q = t
  · rw [if_pos e]
    by_cases e2 : c 4 (hI p q) < d
    · rw [if_pos e2]
      exact ⟨i1, fun z => ⟨z, fun _ => e2⟩, fun z => z.1⟩
    · rw [if_neg e2]
      by_cases e3 : s.2 ≤ c 4 (hI p q)
      · rw [if_pos e3]
        refine ⟨i1, fun z => ?_, fun z => z.1⟩
        rw [i1 z] at e3
        have h9 := (ho p q hp hq).2
        exact absurd (lt_tr e3 (lt_tr h9 (show (99 : Int32) < 100 by decide))) (by decide)
      · rw [if_neg e3]
        exact ⟨fun z => (by cases z), fun z => (by cases z), fun z => absurd (z.2 e) e2⟩
  · rw [if_neg e]
    exact ⟨i1, fun z => ⟨z, fun y => absurd y e⟩, fun z => z.1⟩
theorem oI_neg {n : Nat} {c : Ct} {t d : Int32} (hn : n ≤ 6) : oI (opS c n t d).1 < 0 ↔ (opS c n t d).1 = none := by
  cases e : (opS c n t d).1 with
  | none => exact ⟨fun _ => rfl, fun _ => by decide⟩
  | some pq =>
    obtain ⟨p, q⟩ := pq
    have := opS_in p q e
    exact ⟨fun z => absurd z (i_nlt.mpr (s10 p (by omega) q (by omega))), fun z => by cases z⟩
theorem can_eq {n : Nat} {c : Ct} {t d : Int32} (hn : n ≤ 6) (ho : hOk n c) (hd : (-9) < d) : mhF n c t < d ↔ oI (opS c n t d).1 < 0 := by
  rw [oI_neg hn, op_none ho, mh_lt hd]
theorem sim_can {st mt : St} (h : R st mt) (x1 : Int32) : w_X8_can x1 st (fun r st' => w_X9_can x1 mt (fun r' mt' => r = r' ∧ R st' mt')) := by
  obtain ⟨n, nL, hm, g, hn, hL, h7, h8, k8, k9⟩ := h.ctx
  unfold w_X8_can
  refine s_range ?_
  by_cases e : rangeF x1 0 99 = 0
  · rw [e]
    refine y1 rfl ?_
    obtain ⟨d, -, hd, rfl⟩ := rg_nI (a := 0) (b := 99) (by decide) (by decide) e
    have hd9 : (-9 : Int32) < nI d := lt_tr (show (-9 : Int32) ≤ -1 by decide) (i_nle.mp fun z => by
      have := Int32.le_trans (n_le0 (show d < 2147483648 by omega)) z
      exact absurd this (by decide))
    unfold w_X3_townsThatOpen
    refine lo_fr (fun m t (s : Int32) => w_X3_townsThatOpen_L4 (nI d) _ m s (nI t) st) (fun t s => if mhF n (cv st 11) (nI t) < nI d then s else s ||| ((1 : Int32) <<< (nI t &&& 31))) (fun _ _ => True) (0 : Int32) (Nat.zero_le 4) trivial (fun _ _ _ _ _ => trivial) (fun _ m => ?_) (fun m t s _ ht _ hw => ?_)
    · rw [w_X3_townsThatOpen_L4, w_X3_townsThatOpen_L4q]
      refine y1 (nI_le (Nat.le_refl 4) (by decide)) ?_
      unfold w_X9_can
      refine t_bound ?_
      rw [e]
      refine y1 rfl ?_
      refine lo_fr (fun m t (s : Int32) => w_X9_can_L23 (nI d) _ m s (nI t) mt) (fun t s => if mhF n (cv st 11) (nI t) < nI d then s else s ||| ((1 : Int32) <<< (nI t &&& 31))) (fun _ _ => True) (0 : Int32) (Nat.zero_le 4) trivial (fun _ _ _ _ _ => trivial) (fun _ m => ?_) (fun m t s _ ht _ hw => ?_)
      · rw [w_X9_can_L23, w_X9_can_L23q]
        exact y1 (nI_le (Nat.le_refl 4) (by decide)) ⟨rfl, h⟩
      · rw [w_X9_can_L23, w_X9_can_L23q]
        refine n1 (nI_ge ht (by decide)) (t_opensAt hm (tn1 t ht) ?_)
        by_cases e2 : mhF n (cv st 11) (nI t) < nI d
        · rw [if_pos e2] at hw
          refine y1 ((can_eq hn hm.2.1 hd9).mp e2) ?_
          rw [w_X9_can_b48, nI_inc, Int32.or_zero]
          exact hw
        · rw [if_neg e2] at hw
          refine n1 (fun z => e2 ((can_eq hn hm.2.1 hd9).mpr z)) ?_
          rw [w_X9_can_b48, nI_inc]
          exact hw
    · rw [w_X3_townsThatOpen_L4, w_X3_townsThatOpen_L4q]
      refine n1 (nI_ge ht (by decide)) (x_mostHateIn hn h7 ?_)
      by_cases e2 : mhF n (cv st 11) (nI t) < nI d
      · rw [if_pos e2] at hw
        refine y1 e2 ?_
        rw [w_X3_townsThatOpen_b24, nI_inc]
        exact hw
      · rw [if_neg e2] at hw
        refine n1 e2 ?_
        rw [w_X3_townsThatOpen_b24, nI_inc]
        exact hw
  · refine n1 e (s_refused (rg_ok e) ?_)
    unfold w_X9_can
    exact t_bound (n1 e (t_no (rg_ok e) ⟨rfl, R_ref h (rg_ok e)⟩))
end
section
/-! pure part: looks, two: worst, fullest, thickest, mildest, bare, enemy -/
def oN : Option Nat → Int32
  | none => -9
  | some l => nI l
theorem fr_split {σ : Type} {a b c : Nat} (f : Nat → σ → σ) (s : σ) (h1 : a ≤ b) (h2 : b ≤ c) : fr a c f s = fr b c f (fr a b f s) := by
  have key : ∀ d, fr a (b + d) f s = fr b (b + d) f (fr a b f s) := by
    intro d
    induction d with
    | zero => rw [Nat.add_zero, fr_self]
    | succ d ih => rw [show b + (d + 1) = (b + d) + 1 by omega, fr_succ (by omega), fr_succ (by omega), ih]
  have := key (c - b)
  rwa [show b + (c - b) = c by omega] at this
theorem fr_id {σ : Type} {a b : Nat} (f : Nat → σ → σ) (s : σ) (h : a ≤ b) (hf : ∀ i s, a ≤ i → i < b → f i s = s) : fr a b f s = s :=
  fr_inv (fun _ x => x = s) f h rfl (fun i x h1 h2 e => by rw [e]; exact hf i s h1 h2)
theorem fr_cg {σ : Type} {a b : Nat} (f g : Nat → σ → σ) (s : σ) (h : a ≤ b) (hf : ∀ i s, a ≤ i → i < b → f i s = g i s) : fr a b f s = fr a b g s := by
  have key : ∀ d, a + d ≤ b → fr a (a + d) f s = fr a (a + d) g s := by
    intro d
    induction d with
    | zero => intro _; rw [Nat.add_zero, fr_self, fr_self]
    | succ d ih => intro hd; rw [show a + (d + 1) = (a + d) + 1 by omega, fr_succ (by omega), fr_succ (by omega), ih (by omega), hf _ _ (by omega) (by omega)]
  have := key (b - a) (by omega)
  rwa [show a + (b - a) = b by omega] at this
theorem fr_shift {σ : Type} {a b k : Nat} (f : Nat → σ → σ) (s : σ) (h : a ≤ b) : fr (k + a) (k + b) f s = fr a b (fun i => f (k + i)) s := by
  have key : ∀ d, fr (k + a) (k + (a + d)) f s = fr a (a + d) (fun i => f (k + i)) s := by
    intro d
    induction d with
    | zero => rw [Nat.add_zero, fr_self, fr_self]
    | succ d ih => rw [show k + (a + (d + 1)) = (k + (a + d)) + 1 by omega, fr_succ (by omega), show a + (d + 1) = (a + d) + 1 by omega, fr_succ (by omega), ih]
  have := key (b - a)
  rwa [show a + (b - a) = b by omega] at this
/-- ten by ten, the twos alone -/
theorem fr_tens {σ : Type} {n : Nat} (hn : n ≤ 6) (f : Nat → Nat → σ → σ) (s : σ) : fr 0 60 (fun k s => if k / 10 < k % 10 ∧ k % 10 < n then f (k / 10) (k % 10) s else s) s = fr 0 n (fun p s => fr (p + 1) n (fun q s => f p q s) s) s := by
  have row : ∀ p s, p < 6 → fr (10 * p) (10 * p + 10) (fun k s => if k / 10 < k % 10 ∧ k % 10 < n then f (k / 10) (k % 10) s else s) s = if p < n then fr (p + 1) n (fun q s => f p q s) s else s := by
    intro p s hp
    have e1 := fr_shift (a := 0) (b := 10) (k := 10 * p) (fun k s => if k / 10 < k % 10 ∧ k % 10 < n then f (k / 10) (k % 10) s else s) s (by decide)
    rw [Nat.add_zero] at e1
    rw [e1]
    have e2 : fr 0 10 (fun i => (fun k s => if k / 10 < k % 10 ∧ k % 10 < n then f (k / 10) (k % 10) s else s) (10 * p + i)) s = fr 0 10 (fun q s => if p < q ∧ q < n then f p q s else s) s :=
      fr_cg _ _ _ (by decide) fun q s _ hq => by
        show (if (10 * p + q) / 10 < (10 * p + q) % 10 ∧ (10 * p + q) % 10 < n then f ((10 * p + q) / 10) ((10 * p + q) % 10) s else s) = _
        rw [show (10 * p + q) / 10 = p by omega, show (10 * p + q) % 10 = q by omega]
    rw [e2]
    by_cases h : p < n
    · rw [if_pos h, fr_split (a := 0) (b := p + 1) (c := 10) _ _ (by omega) (by omega), fr_id (a := 0) (b := p + 1) _ _ (by omega) (fun i s _ hi => if_neg (by omega)), fr_split (a := p + 1) (b := n) (c := 10) _ _ (by omega) (by omega), fr_id (a := n) (b := 10) _ _ (by omega) (fun i s hi _ => if_neg (by omega))]
      exact fr_cg _ _ _ (by omega) fun q s h1 h2 => if_pos ⟨by omega, h2⟩
    · rw [if_neg h]
      exact fr_id _ _ (by decide) fun i s _ hi => if_neg (by omega)
  have key : ∀ m, m ≤ 6 → fr 0 (10 * m) (fun k s => if k / 10 < k % 10 ∧ k % 10 < n then f (k / 10) (k % 10) s else s) s = fr 0 m (fun p s => if p < n then fr (p + 1) n (fun q s => f p q s) s else s) s := by
    intro m
    induction m with
    | zero => intro _; rfl
    | succ m ih => intro hm; rw [show 10 * (m + 1) = 10 * m + 10 by omega, fr_split (b := 10 * m) _ _ (by omega) (by omega), ih (by omega), row m _ (by omega), fr_succ (by omega)]
  rw [show (60 : Nat) = 10 * 6 by decide, key 6 (by decide), fr_split (b := n) _ _ (by omega) hn, fr_id (a := n) (b := 6) _ _ (by omega) (fun i s hi _ => if_neg (by omega))]
  exact fr_cg _ _ _ (by omega) fun p s _ hp => if_pos hp
def wtS (c : Ct) (p q : Nat) (s : Option (Nat × Nat) × Int32) : Option (Nat × Nat) × Int32 := if c 4 (hI p q) ≤ s.2 then s else (some (p, q), c 4 (hI p q))
def wtF (n : Nat) (c : Ct) : Option (Nat × Nat) × Int32 := fr 0 n (fun p s => fr (p + 1) n (fun q s => wtS c p q s) s) (none, -9)
def fdF (n : Nat) (c : Ct) : Int32 := fr 0 n (fun p s => fr (p + 1) n (fun q (s : Int32) => if c 4 (hI p q) = 0 then s + 1 else s) s) 0
theorem x_worstTwo {st : St} {n : Nat} {w : Int32} {K : Int32 → St → Prop} (hn : n ≤ 6) (h7 : st 11 7 = nI n) (h : K (if w = 0 then (wtF n (cv st 11)).2 else oI (wtF n (cv st 11)).1) st) : w_X3_worstTwo w st K := by
  unfold w_X3_worstTwo
  refine lo_fr (fun m p (s : Option (Nat × Nat) × Int32) => w_X3_worstTwo_L9 w K m (oI s.1) s.2 (nI p) st) (fun p s => fr (p + 1) n (fun q s => wtS (cv st 11) p q s) s) (fun _ _ => True) (none, -9) (Nat.zero_le n) trivial (fun _ _ _ _ _ => trivial) (fun _ m => ?_) (fun m p s _ hp _ hw => ?_)
  · rw [w_X3_worstTwo_L9, w_X3_worstTwo_L9q]
    unfold w_X1_keeperCount
    rw [h7]
    refine y1 (nI_le (Nat.le_refl n) (by omega)) ?_
    rw [w_X3_worstTwo_b86]
    by_cases e : w = 0
    · rw [if_pos e] at h; exact y1 e h
    · rw [if_neg e] at h; exact n1 e h
  · rw [w_X3_worstTwo_L9, w_X3_worstTwo_L9q]
    unfold w_X1_keeperCount
    rw [h7]
    refine n1 (nI_ge hp (by omega)) ?_
    rw [nI_inc]
    refine lo_fr (fun k q (s : Option (Nat × Nat) × Int32) => w_X3_worstTwo_L27 w (fun v2 v3 v4 st => w_X3_worstTwo_L9 w K m v2 v3 v4 st) K k (oI s.1) s.2 (nI p) (nI q) st) (fun q s => wtS (cv st 11) p q s) (fun _ _ => True) s (show p + 1 ≤ n by omega) trivial (fun _ _ _ _ _ => trivial) (fun _ k => ?_) (fun k q s h1 hq _ hw2 => ?_)
    · rw [w_X3_worstTwo_L27, w_X3_worstTwo_L27q]
      unfold w_X1_keeperCount
      rw [h7]
      refine y1 (nI_le (Nat.le_refl n) (by omega)) ?_
      rw [w_X3_worstTwo_b80, nI_inc]
      exact hw
    · rw [w_X3_worstTwo_L27, w_X3_worstTwo_L27q]
      unfold w_X1_keeperCount
      rw [h7]
      refine n1 (nI_ge hq (by omega)) (x_hateOf (by omega) (by omega) ?_)
      unfold wtS at hw2
      by_cases e : cv st 11 4 (hI p q) ≤ s.2
      · rw [if_pos e] at hw2
        refine y1 e ?_
        rw [w_X3_worstTwo_b74, nI_inc]
        exact hw2
      · rw [if_neg e] at hw2
        refine n1 e (x_hateOf (by omega) (by omega) (s_twoName (by omega) (by omega) ?_))
        rw [w_X3_worstTwo_b74, nI_inc, m10 (by omega)]
        exact hw2
theorem x_friends {st : St} {n : Nat} {K : Int32 → St → Prop} (hn : n ≤ 6) (h7 : st 11 7 = nI n) (h : K (fdF n (cv st 11)) st) : w_X3_friends st K := by
  unfold w_X3_friends
  refine lo_fr (fun m p (s : Int32) => w_X3_friends_L4 K m s (nI p) st) (fun p s => fr (p + 1) n (fun q (s : Int32) => if cv st 11 4 (hI p q) = 0 then s + 1 else s) s) (fun _ _ => True) (0 : Int32) (Nat.zero_le n) trivial (fun _ _ _ _ _ => trivial) (fun _ m => ?_) (fun m p s _ hp _ hw => ?_)
  · rw [w_X3_friends_L4, w_X3_friends_L4q]
    unfold w_X1_keeperCount
    rw [h7]
    exact y1 (nI_le (Nat.le_refl n) (by omega)) h
  · rw [w_X3_friends_L4, w_X3_friends_L4q]
    unfold w_X1_keeperCount
    rw [h7]
    refine n1 (nI_ge hp (by omega)) ?_
    rw [nI_inc]
    refine lo_fr (fun k q (s : Int32) => w_X3_friends_L19 (fun v2 v3 st => w_X3_friends_L4 K m v2 v3 st) K k s (nI p) (nI q) st) (fun q (s : Int32) => if cv st 11 4 (hI p q) = 0 then s + 1 else s) (fun _ _ => True) s (show p + 1 ≤ n by omega) trivial (fun _ _ _ _ _ => trivial) (fun _ k => ?_) (fun k q s h1 hq _ hw2 => ?_)
    · rw [w_X3_friends_L19, w_X3_friends_L19q]
      unfold w_X1_keeperCount
      rw [h7]
      refine y1 (nI_le (Nat.le_refl n) (by omega)) ?_
      rw [w_X3_friends_b51, nI_inc]
      exact hw
    · rw [w_X3_friends_L19, w_X3_friends_L19q]
      unfold w_X1_keeperCount
      rw [h7]
      refine n1 (nI_ge hq (by omega)) (x_hateOf (by omega) (by omega) ?_)
      by_cases e : cv st 11 4 (hI p q) = 0
      · rw [if_pos e] at hw2
        refine y2 e ?_
        rw [w_X3_friends_b45, nI_inc]
        exact hw2
      · rw [if_neg e] at hw2
        refine n2 e ?_
        rw [w_X3_friends_b45, nI_inc]
        exact hw2
def wkS (c : Ct) (p q : Nat) (s : (Option (Nat × Nat) × Int32) × Int32) : (Option (Nat × Nat) × Int32) × Int32 := (wtS c p q s.1, if c 4 (hI p q) = 0 then s.2 + 1 else s.2)
theorem fr_pair {σ τ : Type} {a b : Nat} (f : Nat → σ → σ) (g : Nat → τ → τ) (s : σ) (t : τ) (h : a ≤ b) : fr a b (fun i (x : σ × τ) => (f i x.1, g i x.2)) (s, t) = (fr a b f s, fr a b g t) := by
  have key : ∀ d, fr a (a + d) (fun i (x : σ × τ) => (f i x.1, g i x.2)) (s, t) = (fr a (a + d) f s, fr a (a + d) g t) := by
    intro d
    induction d with
    | zero => rw [Nat.add_zero, fr_self, fr_self, fr_self]
    | succ d ih => rw [show a + (d + 1) = (a + d) + 1 by omega, fr_succ (by omega), fr_succ (by omega), fr_succ (by omega), ih]
  have := key (b - a)
  rwa [show a + (b - a) = b by omega] at this
theorem wk_eq {n : Nat} {c : Ct} : fr 0 n (fun p s => fr (p + 1) n (fun q s => wkS c p q s) s) ((none, -9), 0) = (wtF n c, fdF n c) := by
  unfold wtF fdF
  rw [← fr_pair _ _ _ _ (Nat.zero_le n)]
  refine fr_cg _ _ _ (Nat.zero_le n) fun p s _ hp => ?_
  obtain ⟨s1, s2⟩ := s
  exact fr_pair (fun q s => wtS c p q s) (fun q (s : Int32) => if c 4 (hI p q) = 0 then s + 1 else s) s1 s2 (by omega)
theorem k10 : ∀ k, k < 60 → nI k / 10 = nI (k / 10) ∧ nI k - nI k / 10 * 10 = nI (k % 10) := by decide +kernel
theorem t_worstL {n nL : Nat} {mt : St} {c : Ct} {x : Int32} {K : Int32 → St → Prop} (hm : RM n nL mt c) (h : K (if x = 0 then oI (wtF n c).1 else if x = 1 then (wtF n c).2 else fdF n c) mt) : ∃ m, w_X9_worst_L28 x K m (-9) (-9) 0 0 mt := by
  have hn := hm.1.1
  have h8 := hm.2.2.1
  have e := fr_tens hn (wkS c) ((none, -9), 0)
  rw [wk_eq] at e
  refine lo_fr (fun m k (s : (Option (Nat × Nat) × Int32) × Int32) => w_X9_worst_L28 x K m (oI s.1.1) s.1.2 s.2 (nI k) mt) (fun k s => if k / 10 < k % 10 ∧ k % 10 < n then wkS c (k / 10) (k % 10) s else s) (fun _ _ => True) ((none, -9), 0) (Nat.zero_le 60) trivial (fun _ _ _ _ _ => trivial) (fun _ m => ?_) (fun m k s _ hk _ hw => ?_)
  · rw [e, w_X9_worst_L28, w_X9_worst_L28q]
    refine y1 (nI_le (Nat.le_refl 60) (by decide)) ?_
    rw [w_X9_worst_b122]
    by_cases e0 : x = 0
    · rw [if_pos e0] at h; exact y2 e0 h
    · rw [if_neg e0] at h
      refine n2 e0 ?_
      by_cases e1 : x = 1
      · rw [if_pos e1] at h; exact y2 e1 h
      · rw [if_neg e1] at h; exact n2 e1 h
  · rw [w_X9_worst_L28, w_X9_worst_L28q, h8, (k10 k hk).2, (k10 k hk).1]
    refine n1 (nI_ge hk (by decide)) ?_
    by_cases c1 : k / 10 < k % 10
    · refine n1 (nI_ge c1 (by omega)) ?_
      by_cases c2 : k % 10 < n
      · rw [if_pos ⟨c1, c2⟩] at hw
        have eh : mt 5 (6 * (k / 10) + k % 10) = c 4 (hI (k / 10) (k % 10)) := hm.hate (by omega) c2 (by omega)
        have fin : ∀ v : Int32, s.2 + v = (if c 4 (hI (k / 10) (k % 10)) = 0 then s.2 + 1 else s.2) → w_X9_worst_b86 x (fun v2 v3 v4 v5 st => w_X9_worst_L28 x K m v2 v3 v4 v5 st) K (oI s.1.1) s.1.2 (nI k) (nI (k / 10)) (nI (k % 10)) v s.2 mt := by
          intro v ev
          rw [w_X9_worst_b86]
          refine t_hateOf (by omega) (by omega) ?_
          rw [eh]
          unfold wkS wtS at hw
          by_cases e2 : c 4 (hI (k / 10) (k % 10)) ≤ s.1.2
          · rw [if_pos e2] at hw
            refine n1 (i_nlt.mpr e2) ?_
            rw [w_X9_worst_b116, nI_inc, ev]
            exact hw
          · rw [if_neg e2] at hw
            refine y1 (i_nle.mp e2) (t_hateOf (by omega) (by omega) ?_)
            rw [eh, w_X9_worst_b116, nI_inc, ev]
            have e3 : nI k = oI (some (k / 10, k % 10)) := by
              show nI k = nI (10 * (k / 10) + k % 10)
              congr 1; omega
            rw [e3]
            exact hw
        refine y1 ((nJ_lt (by omega) (by omega)).mpr c2) (t_hateOf (by omega) (by omega) ?_)
        rw [eh]
        by_cases e0 : c 4 (hI (k / 10) (k % 10)) = 0
        · exact y2 e0 (fin 1 (by rw [if_pos e0]))
        · exact n2 e0 (fin 0 (by rw [if_neg e0, Int32.add_zero]))
      · rw [if_neg (fun z => c2 z.2)] at hw
        refine n1 (fun z => c2 ((nJ_lt (by omega) (by omega)).mp z)) ?_
        rw [w_X9_worst_b116, nI_inc]
        exact hw
    · rw [if_neg (fun z => c1 z.1)] at hw
      refine y1 (nI_le (by omega) (by omega)) ?_
      rw [w_X9_worst_b116, nI_inc]
      exact hw
theorem sim_worst {st mt : St} (h : R st mt) (x1 : Int32) : w_X8_worst x1 st (fun r st' => w_X9_worst x1 mt (fun r' mt' => r = r' ∧ R st' mt')) := by
  obtain ⟨n, nL, hm, g, hn, hL, h7, h8, k8, k9⟩ := h.ctx
  unfold w_X8_worst
  refine s_choice ?_
  by_cases e : inF x1 0 2 = 0
  · rw [ch_out e]
    refine n1 (by decide) (s_refused rO2 ?_)
    unfold w_X9_worst
    exact t_isIn' (y2 e (t_no rO2 ⟨rfl, R_ref h rO2⟩))
  · rw [ch_in e]
    refine y1 rfl ⟨fun z => ⟨fun z1 => ?_, fun z1 => ?_⟩, fun z => ?_⟩
    · rw [w_X8_worst_b44]
      refine x_worstTwo hn h7 ?_
      unfold w_X9_worst
      have e1 : x1 = 1 := by
        obtain ⟨i, hi, rfl⟩ := in_nI (g := 2) (by decide) e
        have : i = 0 ∨ i = 1 ∨ i = 2 := by omega
        rcases this with rfl | rfl | rfl
        · exact absurd rfl z1
        · rfl
        · exact absurd rfl z
      subst e1
      exact t_isIn' (n2 e (t_worstL hm ⟨rfl, h⟩))
    · subst z1
      rw [w_X8_worst_b44]
      refine x_worstTwo hn h7 ?_
      unfold w_X9_worst
      exact t_isIn' (n2 e (t_worstL hm ⟨rfl, h⟩))
    · subst z
      refine x_friends hn h7 ?_
      unfold w_X9_worst
      exact t_isIn' (n2 e (t_worstL hm ⟨rfl, h⟩))
theorem pc_lt : ∀ b, b < 64 → pc b < 7 := by decide +kernel
theorem x_crowd {st : St} {n : Nat} {t : Int32} {K : Int32 → St → Prop} (hn : n ≤ 6) (h7 : st 11 7 = nI n) (ht : t ≠ -1) (h : K (nI (pc (kiF n (cv st 11) t))) st) : w_X3_crowd t st K := by
  unfold w_X3_crowd
  exact x_keepersIn hn h7 ht (s_bitCount (Nat.lt_of_lt_of_le (ki64 hn) (by decide)) h)
def cdF (n : Nat) (c : Ct) (t : Nat) : Nat := pc (kiF n c (nI t))
def flF (n : Nat) (c : Ct) : Nat := fr 1 4 (fun t b => if cdF n c t ≤ cdF n c b then b else t) 0
theorem fl_lt {n : Nat} {c : Ct} : flF n c < 4 := fr_inv (fun _ b => b < 4) _ (by decide) (by decide) (fun t b _ ht hb => by split <;> assumption)
theorem cd_lt {n t : Nat} {c : Ct} (hn : n ≤ 6) : cdF n c t < 7 := pc_lt _ (ki64 hn)
theorem x_townOfMost {st : St} {n : Nat} {K : Int32 → St → Prop} (hn : n ≤ 6) (h7 : st 11 7 = nI n) (h : K (nI (flF n (cv st 11))) st) : w_X3_townOfMost st K := by
  unfold w_X3_townOfMost
  refine lo_fr (fun m t (b : Nat) => w_X3_townOfMost_L4 K m (nI b) (nI t) st) (fun t b => if cdF n (cv st 11) t ≤ cdF n (cv st 11) b then b else t) (fun _ b => b < 4) (0 : Nat) (show 1 ≤ 4 by decide) (by decide) (fun t b _ ht hb => by show (if _ then _ else _) < 4; split <;> assumption) (fun _ m => ?_) (fun m t b _ ht hb hw => ?_)
  · rw [w_X3_townOfMost_L4, w_X3_townOfMost_L4q]
    exact y1 (nI_le (Nat.le_refl 4) (by decide)) h
  · rw [w_X3_townOfMost_L4, w_X3_townOfMost_L4q]
    refine n1 (nI_ge ht (by decide)) (x_crowd hn h7 (tn1 t ht) (x_crowd hn h7 (tn1 b hb) ?_))
    have l1 : cdF n (cv st 11) t < 7 := cd_lt hn
    have l2 : cdF n (cv st 11) b < 7 := cd_lt hn
    by_cases e : cdF n (cv st 11) t ≤ cdF n (cv st 11) b
    · rw [if_pos e] at hw
      refine y1 (nI_le e (by unfold cdF at l2; omega)) ?_
      rw [w_X3_townOfMost_b24, nI_inc]
      exact hw
    · rw [if_neg e] at hw
      refine n1 (nI_ge (by unfold cdF at e; omega) (by unfold cdF at l1; omega)) ?_
      rw [w_X3_townOfMost_b24, nI_inc]
      exact hw
theorem t_crowd {n nL : Nat} {mt : St} {c : Ct} {t : Int32} {K : Int32 → St → Prop} (hm : RM n nL mt c) (g : gC n nL c) (h : K (nI (pc (kiF n c t))) mt) : w_X9_keepersIn t mt (fun r st => w_X9_bits r st K) :=
  t_keepersIn hm g (t_bits (Nat.lt_of_lt_of_le (ki64 hm.1.1) (by decide)) h)
theorem sim_fullest {st mt : St} (h : R st mt) (x1 : Int32) : w_X8_fullest x1 st (fun r st' => w_X9_fullest x1 mt (fun r' mt' => r = r' ∧ R st' mt')) := by
  obtain ⟨n, nL, hm, g, hn, hL, h7, h8, k8, k9⟩ := h.ctx
  unfold w_X8_fullest
  refine s_choice ?_
  by_cases e : inF x1 0 1 = 0
  · rw [ch_out e]
    refine n1 (by decide) (s_refused rO2 ?_)
    unfold w_X9_fullest
    exact t_isIn' (y2 e (t_no rO2 ⟨rfl, R_ref h rO2⟩))
  · rw [ch_in e]
    have key : ∀ K : Int32 → St → Prop, K (if x1 = 0 then nI (flF n (cv st 11)) else nI (cdF n (cv st 11) (flF n (cv st 11)))) mt → w_X9_fullest x1 mt K := by
      intro K hK
      unfold w_X9_fullest
      refine t_isIn' (n2 e ?_)
      refine lo_fr (fun m t (b : Nat) => w_X9_fullest_L20 x1 K m (nI b) (nI t) mt) (fun t b => if cdF n (cv st 11) t ≤ cdF n (cv st 11) b then b else t) (fun _ b => b < 4) (0 : Nat) (show 1 ≤ 4 by decide) (by decide) (fun t b _ ht hb => by show (if _ then _ else _) < 4; split <;> assumption) (fun _ m => ?_) (fun m t b _ ht hb hw => ?_)
      · rw [w_X9_fullest_L20, w_X9_fullest_L20q]
        refine y1 (nI_le (Nat.le_refl 4) (by decide)) ?_
        rw [w_X9_fullest_b56]
        by_cases e0 : x1 = 0
        · rw [if_pos e0] at hK; exact y2 e0 hK
        · rw [if_neg e0] at hK; exact n2 e0 (t_crowd hm g hK)
      · rw [w_X9_fullest_L20, w_X9_fullest_L20q]
        refine n1 (nI_ge ht (by decide)) (t_crowd hm g (t_crowd hm g ?_))
        have l1 : cdF n (cv st 11) t < 7 := cd_lt hn
        have l2 : cdF n (cv st 11) b < 7 := cd_lt hn
        by_cases e : cdF n (cv st 11) t ≤ cdF n (cv st 11) b
        · rw [if_pos e] at hw
          refine y1 (nI_le e (by unfold cdF at l2; omega)) ?_
          rw [w_X9_fullest_b49, nI_inc]
          exact hw
        · rw [if_neg e] at hw
          refine n1 (nI_ge (by unfold cdF at e; omega) (by unfold cdF at l1; omega)) ?_
          rw [w_X9_fullest_b49, nI_inc]
          exact hw
    refine y1 rfl (x_townOfMost hn h7 ⟨fun z => x_crowd hn h7 (tn1 _ fl_lt) (key _ ?_), fun z => key _ ?_⟩)
    · rw [if_neg z]; exact ⟨rfl, h⟩
    · rw [if_pos z]; exact ⟨rfl, h⟩
end
section
/-! pure part: looks, three: thickest, mildest, bare, enemy -/
theorem oN_neg {b : Option Nat} (hb : ∀ j, b = some j → j < 2147483648) : oN b < 0 ↔ b = none := by
  cases b with
  | none => exact ⟨fun _ => rfl, fun _ => by decide⟩
  | some j => exact ⟨fun z => absurd z (n_lt0 (hb j rfl)), fun z => by cases z⟩
theorem oN_9 {b : Option Nat} (hb : ∀ j, b = some j → j < 2147483648) : oN b = -9 ↔ b = none := by
  cases b with
  | none => exact ⟨fun _ => rfl, fun _ => rfl⟩
  | some j =>
    refine ⟨fun z => absurd ?_ (n_lt0 (hb j rfl)), fun z => by cases z⟩
    show oN (some j) < 0
    rw [z]; decide
def tkS (c : Ct) (l : Nat) (b : Option Nat) : Option Nat := if (ob c).testBit l then b else match b with
  | none => some l
  | some j => if c 5 l ≤ c 5 j then b else some l
def tkF (nL : Nat) (c : Ct) : Option Nat := fr 0 nL (tkS c) none
theorem tk_in {c : Ct} {e l : Nat} {b : Option Nat} (hl : l < e) (h : ∀ j, b = some j → j < e) : ∀ j, tkS c l b = some j → j < e := by
  intro j hj
  unfold tkS at hj
  split at hj
  · exact h j hj
  · cases b with
    | none => cases hj; exact hl
    | some k =>
      simp only at hj
      split at hj
      · exact h j hj
      · cases hj; exact hl
theorem sim_thickest {st mt : St} (h : R st mt) : w_X8_thickest st (fun r st' => w_X9_thickest mt (fun r' mt' => r = r' ∧ R st' mt')) := by
  obtain ⟨n, nL, hm, g, hn, hL, h7, h8, k8, k9⟩ := h.ctx
  unfold w_X8_thickest w_X3_deepestSealed
  refine lo_fr (fun m l (b : Option Nat) => w_X3_deepestSealed_L5 _ m (oN b) (nI l) st) (tkS (cv st 11)) (fun _ b => ∀ j, b = some j → j < nL) none (Nat.zero_le nL) (fun j hj => by cases hj) (fun l b _ hl hb => tk_in hl hb) (fun _ m => ?_) (fun m l b _ hl hb hw => ?_)
  · rw [w_X3_deepestSealed_L5, w_X3_deepestSealed_L5q]
    unfold w_X1_letterCount
    rw [h8]
    refine y1 (nI_le (Nat.le_refl nL) (by omega)) ?_
    unfold w_X9_thickest
    refine lo_fr (fun m l (b : Option Nat) => w_X9_thickest_L5 _ m (oN b) (nI l) mt) (tkS (cv st 11)) (fun _ b => ∀ j, b = some j → j < nL) none (Nat.zero_le nL) (fun j hj => by cases hj) (fun l b _ hl hb => tk_in hl hb) (fun _ m => ?_) (fun m l b _ hl hb hw => ?_)
    · rw [w_X9_thickest_L5, w_X9_thickest_L5q, k9]
      exact y1 (nI_le (Nat.le_refl nL) (by omega)) ⟨rfl, h⟩
    · obtain ⟨a1, a2, a3, a4⟩ := hm.2.2.2.2.2.2.2 l hl
      rw [w_X9_thickest_L5, w_X9_thickest_L5q, k9, clI (show l < 6 by omega) (by decide), a1, a4]
      refine n1 (nI_ge hl (by omega)) ⟨vp_in_nI (by omega) (by decide), ?_⟩
      unfold tkS at hw
      by_cases eb : (ob (cv st 11)).testBit l = true
      · rw [if_pos eb] at hw
        rw [if_pos eb]
        refine n2 (by decide) ?_
        rw [w_X9_thickest_b43, nI_inc]
        exact hw
      · rw [if_neg eb] at hw
        rw [if_neg eb]
        refine y2 rfl ?_
        cases b with
        | none =>
          refine y1 (by decide) ?_
          rw [w_X9_thickest_b41, w_X9_thickest_b43, nI_inc]
          exact hw
        | some j =>
          have hj := hb j rfl
          refine n1 (n_lt0 (by omega)) ⟨vp_in_nI (by omega) (by decide), vp_in_nI (by omega) (by decide), ?_⟩
          show (cv st 11 5 l ≤ mt 6 (nI j).toNatClampNeg → _) ∧ (¬ cv st 11 5 l ≤ mt 6 (nI j).toNatClampNeg → _)
          rw [clI (show j < 6 by omega) (by decide), (hm.2.2.2.2.2.2.2 j hj).1]
          simp only at hw
          by_cases e2 : cv st 11 5 l ≤ cv st 11 5 j
          · rw [if_pos e2] at hw
            refine y1 e2 ?_
            rw [w_X9_thickest_b43, nI_inc]
            exact hw
          · rw [if_neg e2] at hw
            refine n1 e2 ?_
            rw [w_X9_thickest_b41, w_X9_thickest_b43, nI_inc]
            exact hw
  · rw [w_X3_deepestSealed_L5, w_X3_deepestSealed_L5q]
    unfold w_X1_letterCount
    rw [h8]
    refine n1 (nI_ge hl (by omega)) ?_
    -- the last step: sealed or not
    have fin : ∀ v : Int32, (if (ob (cv st 11)).testBit l then True else (v = 0 ∧ tkS (cv st 11) l b = b) ∨ (v = 1 ∧ tkS (cv st 11) l b = some l)) → w_X3_deepestSealed_b46 (fun v1 v2 st => w_X3_deepestSealed_L5 (fun r st' => w_X9_thickest mt fun r' mt' => r = r' ∧ R st' mt') m v1 v2 st) (fun r st' => w_X9_thickest mt fun r' mt' => r = r' ∧ R st' mt') (oN b) (nI l) v st := by
      intro v hv
      rw [w_X3_deepestSealed_b46]
      refine x_isOpen hm.1 (by omega) ?_
      by_cases eb : (ob (cv st 11)).testBit l = true
      · rw [if_pos eb]
        refine n2 (by decide) ?_
        rw [w_X3_deepestSealed_b64, nI_inc]
        unfold tkS at hw
        rw [if_pos eb] at hw
        exact hw
      · rw [if_neg eb]
        rw [if_neg eb] at hv
        refine y2 rfl ?_
        rcases hv with ⟨rfl, e⟩ | ⟨rfl, e⟩
        · refine y1 rfl ?_
          rw [w_X3_deepestSealed_b64, nI_inc]
          rw [e] at hw
          exact hw
        · refine n1 (by decide) ?_
          rw [w_X3_deepestSealed_b64, nI_inc]
          rw [e] at hw
          exact hw
    cases b with
    | none =>
      refine y1 rfl ?_
      rw [w_X3_deepestSealed_b41]
      refine fin 1 ?_
      split
      · trivial
      next eb => exact Or.inr ⟨rfl, by unfold tkS; rw [if_neg eb]⟩
    | some j =>
      have hj := hb j rfl
      refine n1 (fun z => absurd ((oN_9 (fun i hi => by cases hi; omega)).mp z) (by simp)) (x_depthOf (by omega) (x_depthOf (by omega) ?_))
      by_cases e2 : cv st 11 5 l ≤ cv st 11 5 j
      · refine y1 e2 (fin 0 ?_)
        split
        · trivial
        next eb => exact Or.inl ⟨rfl, by unfold tkS; rw [if_neg eb]; simp only; rw [if_pos e2]⟩
      · refine n1 e2 ?_
        rw [w_X3_deepestSealed_b41]
        refine fin 1 ?_
        split
        · trivial
        next eb => exact Or.inr ⟨rfl, by unfold tkS; rw [if_neg eb]; simp only; rw [if_neg e2]⟩
def hsF (n : Nat) (c : Ct) (p : Nat) : Int32 := fr 0 n (fun q (s : Int32) => s + hsS c p q) 0
theorem x_hatesTogether {st : St} {n p : Nat} {K : Int32 → St → Prop} (hn : n ≤ 6) (h7 : st 11 7 = nI n) (hp : p < 6) (h : K (hsF n (cv st 11) p) st) : w_X3_hatesTogether (nI p) st K := by
  unfold w_X3_hatesTogether
  refine lo_fr (fun m q (s : Int32) => w_X3_hatesTogether_L4 (nI p) K m s (nI q) st) (fun q (s : Int32) => s + hsS (cv st 11) p q) (fun _ _ => True) (0 : Int32) (Nat.zero_le n) trivial (fun _ _ _ _ _ => trivial) (fun _ m => ?_) (fun m q s _ hq _ hw => ?_)
  · rw [w_X3_hatesTogether_L4, w_X3_hatesTogether_L4q]
    unfold w_X1_keeperCount
    rw [h7]
    exact y1 (nI_le (Nat.le_refl n) (by omega)) h
  · rw [w_X3_hatesTogether_L4, w_X3_hatesTogether_L4q]
    unfold w_X1_keeperCount
    rw [h7]
    refine n1 (nI_ge hq (by omega)) (x_hateOrSelf hp (by omega) ?_)
    rw [nI_inc]
    exact hw
theorem t_hatesOf {n nL p : Nat} {mt : St} {c : Ct} {K : Int32 → St → Prop} (hm : RM n nL mt c) (hp : p < n) (h : K (hsF n c p) mt) : w_X9_hatesOf (nI p) mt K := by
  have hn := hm.1.1
  have h8 := hm.2.2.1
  unfold w_X9_hatesOf
  refine lo_fr (fun m q (s : Int32) => w_X9_hatesOf_L4 (nI p) K m s (nI q) mt) (fun q (s : Int32) => s + hsS c p q) (fun _ _ => True) (0 : Int32) (Nat.zero_le n) trivial (fun _ _ _ _ _ => trivial) (fun _ m => ?_) (fun m q s _ hq _ hw => ?_)
  · rw [w_X9_hatesOf_L4, w_X9_hatesOf_L4q, h8]
    exact y1 (nI_le (Nat.le_refl n) (by omega)) h
  · rw [w_X9_hatesOf_L4, w_X9_hatesOf_L4q, h8]
    refine n1 (nI_ge hq (by omega)) ?_
    unfold hsS at hw
    by_cases e : p = q
    · subst e
      rw [if_pos rfl] at hw
      refine y2 rfl ?_
      rw [w_X9_hatesOf_b28, nI_inc]
      exact hw
    · rw [if_neg e] at hw
      refine n2 (fun z => e (nI_eqI (by omega) (by omega) z.symm)) (t_hateOf (by omega) (by omega) ?_)
      rw [w_X9_hatesOf_b28, nI_inc, hm.hate hp hq e]
      exact hw
def mdS (n : Nat) (c : Ct) (p : Nat) (b : Option Nat) : Option Nat := match b with
  | none => some p
  | some j => if hsF n c j ≤ hsF n c p then b else some p
theorem md_in {n : Nat} {c : Ct} {e l : Nat} {b : Option Nat} (hl : l < e) (h : ∀ j, b = some j → j < e) : ∀ j, mdS n c l b = some j → j < e := by
  intro j hj
  unfold mdS at hj
  cases b with
  | none => cases hj; exact hl
  | some k =>
    simp only at hj
    split at hj
    · exact h j hj
    · cases hj; exact hl
theorem sim_mildest {st mt : St} (h : R st mt) : w_X8_mildest st (fun r st' => w_X9_mildest mt (fun r' mt' => r = r' ∧ R st' mt')) := by
  obtain ⟨n, nL, hm, g, hn, hL, h7, h8, k8, k9⟩ := h.ctx
  unfold w_X8_mildest w_X3_leastHating
  refine lo_fr (fun m p (b : Option Nat) => w_X3_leastHating_L5 _ m (oN b) (nI p) st) (mdS n (cv st 11)) (fun _ b => ∀ j, b = some j → j < n) none (Nat.zero_le n) (fun j hj => by cases hj) (fun l b _ hl hb => md_in hl hb) (fun _ m => ?_) (fun m p b _ hp hb hw => ?_)
  · rw [w_X3_leastHating_L5, w_X3_leastHating_L5q]
    unfold w_X1_keeperCount
    rw [h7]
    refine y1 (nI_le (Nat.le_refl n) (by omega)) ?_
    unfold w_X9_mildest
    refine lo_fr (fun m p (b : Option Nat) => w_X9_mildest_L5 _ m (oN b) (nI p) mt) (mdS n (cv st 11)) (fun _ b => ∀ j, b = some j → j < n) none (Nat.zero_le n) (fun j hj => by cases hj) (fun l b _ hl hb => md_in hl hb) (fun _ m => ?_) (fun m p b _ hp hb hw => ?_)
    · rw [w_X9_mildest_L5, w_X9_mildest_L5q, k8]
      exact y1 (nI_le (Nat.le_refl n) (by omega)) ⟨rfl, h⟩
    · rw [w_X9_mildest_L5, w_X9_mildest_L5q, k8]
      refine n1 (nI_ge hp (by omega)) ?_
      cases b with
      | none =>
        refine y1 (by decide) ?_
        rw [w_X9_mildest_b30, w_X9_mildest_b35, nI_inc]
        exact hw
      | some j =>
        have hj := hb j rfl
        refine n1 (n_lt0 (by omega)) (t_hatesOf hm hp (t_hatesOf hm hj ?_))
        unfold mdS at hw
        simp only at hw
        by_cases e2 : hsF n (cv st 11) j ≤ hsF n (cv st 11) p
        · rw [if_pos e2] at hw
          refine y1 e2 ?_
          rw [w_X9_mildest_b35, nI_inc]
          exact hw
        · rw [if_neg e2] at hw
          refine n1 e2 ?_
          rw [w_X9_mildest_b30, w_X9_mildest_b35, nI_inc]
          exact hw
  · rw [w_X3_leastHating_L5, w_X3_leastHating_L5q]
    unfold w_X1_keeperCount
    rw [h7]
    refine n1 (nI_ge hp (by omega)) ?_
    cases b with
    | none =>
      refine y1 rfl ?_
      rw [w_X3_leastHating_b35, w_X3_leastHating_b37, nI_inc]
      exact hw
    | some j =>
      have hj := hb j rfl
      refine n1 (fun z => absurd ((oN_9 (fun i hi => by cases hi; omega)).mp z) (by simp)) (x_hatesTogether hn h7 (by omega) (x_hatesTogether hn h7 (by omega) ?_))
      unfold mdS at hw
      simp only at hw
      by_cases e2 : hsF n (cv st 11) j ≤ hsF n (cv st 11) p
      · rw [if_pos e2] at hw
        refine y1 e2 ?_
        rw [w_X3_leastHating_b37, nI_inc]
        exact hw
      · rw [if_neg e2] at hw
        refine n1 e2 ?_
        rw [w_X3_leastHating_b35, w_X3_leastHating_b37, nI_inc]
        exact hw
def enS (c : Ct) (p q : Nat) (b : Option Nat) : Option Nat := if q = p then b else match b with
  | none => some q
  | some j => if c 4 (hI p q) ≤ c 4 (hI p j) then b else some q
theorem en_in {c : Ct} {p e l : Nat} {b : Option Nat} (hl : l < e) (h : ∀ j, b = some j → j < e ∧ j ≠ p) : ∀ j, enS c p l b = some j → j < e ∧ j ≠ p := by
  intro j hj
  unfold enS at hj
  split at hj
  · exact h j hj
  next hne =>
    cases b with
    | none => cases hj; exact ⟨hl, hne⟩
    | some k =>
      simp only at hj
      split at hj
      · exact h j hj
      · cases hj; exact ⟨hl, hne⟩
theorem sim_enemy {st mt : St} (h : R st mt) (x1 : Int32) : w_X8_enemy x1 st (fun r st' => w_X9_enemy x1 mt (fun r' mt' => r = r' ∧ R st' mt')) := by
  obtain ⟨n, nL, hm, g, hn, hL, h7, h8, k8, k9⟩ := h.ctx
  unfold w_X8_enemy
  refine s_keeperRef h7 ?_
  by_cases e : isF n x1 = 0
  · rw [nb0 e]
    refine n1 (by decide) (s_refused rO1 ?_)
    unfold w_X9_enemy
    exact t_isKeeper k8 (y2 e (t_no rO1 ⟨rfl, R_ref h rO1⟩))
  · rw [nb1 e]
    obtain ⟨p, hp, rfl⟩ := isF_1 (by omega) e
    refine y1 rfl ?_
    unfold w_X3_mostHated
    refine lo_fr (fun m q (b : Option Nat) => w_X3_mostHated_L5 (nI p) _ m (oN b) (nI q) st) (enS (cv st 11) p) (fun _ b => ∀ j, b = some j → j < n ∧ j ≠ p) none (Nat.zero_le n) (fun j hj => by cases hj) (fun l b _ hl hb => en_in hl hb) (fun _ m => ?_) (fun m q b _ hq hb hw => ?_)
    · rw [w_X3_mostHated_L5, w_X3_mostHated_L5q]
      unfold w_X1_keeperCount
      rw [h7]
      refine y1 (nI_le (Nat.le_refl n) (by omega)) ?_
      unfold w_X9_enemy
      refine t_isKeeper k8 (n2 e ?_)
      refine lo_fr (fun m q (b : Option Nat) => w_X9_enemy_L19 (nI p) _ m (oN b) (nI q) mt) (enS (cv st 11) p) (fun _ b => ∀ j, b = some j → j < n ∧ j ≠ p) none (Nat.zero_le n) (fun j hj => by cases hj) (fun l b _ hl hb => en_in hl hb) (fun _ m => ?_) (fun m q b _ hq hb hw => ?_)
      · rw [w_X9_enemy_L19, w_X9_enemy_L19q, k8]
        exact y1 (nI_le (Nat.le_refl n) (by omega)) ⟨rfl, h⟩
      · rw [w_X9_enemy_L19, w_X9_enemy_L19q, k8]
        refine n1 (nI_ge hq (by omega)) ?_
        unfold enS at hw
        by_cases eq : q = p
        · subst eq
          rw [if_pos rfl] at hw
          refine y1 rfl ?_
          rw [w_X9_enemy_b53, nI_inc]
          exact hw
        · rw [if_neg eq] at hw
          refine n1 (fun z => eq (nI_eqI (by omega) (by omega) z)) ?_
          cases b with
          | none =>
            refine y1 (by decide) ?_
            rw [w_X9_enemy_b51, w_X9_enemy_b53, nI_inc]
            exact hw
          | some j =>
            obtain ⟨hj, hjp⟩ := hb j rfl
            refine n1 (n_lt0 (by omega)) (t_hateOf (by omega) (by omega) ?_)
            show w_X9_hateOf (nI p) (nI j) mt _
            refine t_hateOf (by omega) (by omega) ?_
            rw [hm.hate hp hq (fun z => eq z.symm), hm.hate hp hj (fun z => hjp z.symm)]
            simp only at hw
            by_cases e2 : cv st 11 4 (hI p q) ≤ cv st 11 4 (hI p j)
            · rw [if_pos e2] at hw
              refine y1 e2 ?_
              rw [w_X9_enemy_b53, nI_inc]
              exact hw
            · rw [if_neg e2] at hw
              refine n1 e2 ?_
              rw [w_X9_enemy_b51, w_X9_enemy_b53, nI_inc]
              exact hw
    · rw [w_X3_mostHated_L5, w_X3_mostHated_L5q]
      unfold w_X1_keeperCount
      rw [h7]
      refine n1 (nI_ge hq (by omega)) ?_
      have fin : ∀ v : Int32, (v = 0 ∧ (q = p ∨ enS (cv st 11) p q b = b)) ∨ (v = 1 ∧ (q = p ∨ enS (cv st 11) p q b = some q)) → w_X3_mostHated_b48 (nI p) (fun v2 v3 st => w_X3_mostHated_L5 (nI p) (fun r st' => w_X9_enemy (nI p) mt fun r' mt' => r = r' ∧ R st' mt') m v2 v3 st) (fun r st' => w_X9_enemy (nI p) mt fun r' mt' => r = r' ∧ R st' mt') (oN b) (nI q) v st := by
        intro v hv
        rw [w_X3_mostHated_b48]
        by_cases eq : q = p
        · subst eq
          refine y1 rfl ?_
          rw [w_X3_mostHated_b62, nI_inc]
          unfold enS at hw
          rw [if_pos rfl] at hw
          exact hw
        · refine n1 (fun z => eq (nI_eqI (by omega) (by omega) z)) ?_
          rcases hv with ⟨rfl, z⟩ | ⟨rfl, z⟩
          · refine y1 rfl ?_
            rw [w_X3_mostHated_b62, nI_inc]
            rw [z.resolve_left eq] at hw
            exact hw
          · refine n1 (by decide) ?_
            rw [w_X3_mostHated_b62, nI_inc]
            rw [z.resolve_left eq] at hw
            exact hw
      cases b with
      | none =>
        refine y1 rfl ?_
        rw [w_X3_mostHated_b43]
        refine fin 1 (Or.inr ⟨rfl, ?_⟩)
        by_cases eq : q = p
        · exact Or.inl eq
        · exact Or.inr (by unfold enS; rw [if_neg eq])
      | some j =>
        obtain ⟨hj, hjp⟩ := hb j rfl
        refine n1 (fun z => absurd ((oN_9 (fun i hi => by cases hi; omega)).mp z) (by simp)) (x_hateOf (by omega) (by omega) ?_)
        show w_X1_hateOf 11 (nI p) (nI j) st _
        refine x_hateOf (by omega) (by omega) ?_
        by_cases e2 : cv st 11 4 (hI p q) ≤ cv st 11 4 (hI p j)
        · refine y1 e2 (fin 0 (Or.inl ⟨rfl, ?_⟩))
          by_cases eq : q = p
          · exact Or.inl eq
          · exact Or.inr (by unfold enS; rw [if_neg eq]; simp only; rw [if_pos e2])
        · refine n1 e2 ?_
          rw [w_X3_mostHated_b43]
          refine fin 1 (Or.inr ⟨rfl, ?_⟩)
          by_cases eq : q = p
          · exact Or.inl eq
          · exact Or.inr (by unfold enS; rw [if_neg eq]; simp only; rw [if_neg e2])
def brS (n : Nat) (c : Ct) (l : Nat) (s : Int32) : Int32 := if (ob c).testBit l then s else if 2 ≤ pc (kiF n c (c 6 l)) then s else s ||| ((1 : Int32) <<< (c 6 l &&& 31))
theorem sim_bare {st mt : St} (h : R st mt) : w_X8_bare st (fun r st' => w_X9_bare mt (fun r' mt' => r = r' ∧ R st' mt')) := by
  obtain ⟨n, nL, hm, g, hn, hL, h7, h8, k8, k9⟩ := h.ctx
  have pl : ∀ t : Int32, pc (kiF n (cv st 11) t) < 7 := fun t => pc_lt _ (ki64 hn)
  unfold w_X8_bare w_X3_bareTowns
  refine lo_fr (fun m l (s : Int32) => w_X3_bareTowns_L4 _ m s (nI l) st) (brS n (cv st 11)) (fun _ _ => True) (0 : Int32) (Nat.zero_le nL) trivial (fun _ _ _ _ _ => trivial) (fun _ m => ?_) (fun m l s _ hl _ hw => ?_)
  · rw [w_X3_bareTowns_L4, w_X3_bareTowns_L4q]
    unfold w_X1_letterCount
    rw [h8]
    refine y1 (nI_le (Nat.le_refl nL) (by omega)) ?_
    unfold w_X9_bare
    refine lo_fr (fun m l (s : Int32) => w_X9_bare_L4 _ m s (nI l) mt) (brS n (cv st 11)) (fun _ _ => True) (0 : Int32) (Nat.zero_le nL) trivial (fun _ _ _ _ _ => trivial) (fun _ m => ?_) (fun m l s _ hl _ hw => ?_)
    · rw [w_X9_bare_L4, w_X9_bare_L4q, k9]
      exact y1 (nI_le (Nat.le_refl nL) (by omega)) ⟨rfl, h⟩
    · obtain ⟨a1, a2, a3, a4⟩ := hm.2.2.2.2.2.2.2 l hl
      rw [w_X9_bare_L4, w_X9_bare_L4q, k9, clI (show l < 6 by omega) (by decide), a4]
      refine n1 (nI_ge hl (by omega)) ⟨vp_in_nI (by omega) (by decide), ?_⟩
      unfold brS at hw
      by_cases eb : (ob (cv st 11)).testBit l = true
      · rw [if_pos eb] at hw
        rw [if_pos eb]
        refine n2 (by decide) ?_
        rw [w_X9_bare_b50, w_X9_bare_b51, nI_inc, Int32.or_zero]
        exact hw
      · rw [if_neg eb] at hw
        rw [if_neg eb]
        refine y2 rfl ⟨vp_in_nI (by omega) (by decide), t_crowd hm g ?_⟩
        rw [a2]
        have l1 := pl (cv st 11 6 l)
        by_cases e2 : 2 ≤ pc (kiF n (cv st 11) (cv st 11 6 l))
        · rw [if_pos e2] at hw
          refine y1 (nI_le e2 (by omega)) ?_
          rw [w_X9_bare_b50, w_X9_bare_b51, nI_inc, Int32.or_zero]
          exact hw
        · rw [if_neg e2] at hw
          refine n1 (show ¬ nI 2 ≤ nI _ from nI_ge (by omega) (by decide)) ⟨vp_in_nI (by omega) (by decide), ?_⟩
          rw [w_X9_bare_b51, nI_inc]
          exact hw
  · rw [w_X3_bareTowns_L4, w_X3_bareTowns_L4q]
    unfold w_X1_letterCount
    rw [h8]
    refine n1 (nI_ge hl (by omega)) (x_isOpen hm.1 (by omega) ?_)
    unfold brS at hw
    by_cases eb : (ob (cv st 11)).testBit l = true
    · rw [if_pos eb] at hw
      rw [if_pos eb]
      refine n2 (by decide) ?_
      rw [w_X3_bareTowns_b55, nI_inc]
      exact hw
    · rw [if_neg eb] at hw
      rw [if_neg eb]
      have ne : cv st 11 6 l ≠ -1 := (hm.2.2.2.2.2.2.2 l hl).2.2.1
      refine y2 rfl (x_letterTownOf (by omega) (x_crowd hn h7 ne ?_))
      have l1 := pl (cv st 11 6 l)
      by_cases e2 : 2 ≤ pc (kiF n (cv st 11) (cv st 11 6 l))
      · rw [if_pos e2] at hw
        refine y1 (nI_le e2 (by omega)) ?_
        rw [w_X3_bareTowns_b55, nI_inc]
        exact hw
      · rw [if_neg e2] at hw
        refine n1 (show ¬ nI 2 ≤ nI _ from nI_ge (by omega) (by decide)) (x_letterTownOf (by omega) ?_)
        rw [w_X3_bareTowns_b55, nI_inc]
        exact hw
end
section
/-! pure part: tools for the mind, both sides -/
theorem u2_if {st : St} {k i k' i' : Nat} {v : Int32} : u2 st k i v k' i' = if k' = k ∧ i' = i then v else st k' i' := by
  by_cases h : k' = k ∧ i' = i
  · obtain ⟨rfl, rfl⟩ := h
    rw [u2_same, if_pos ⟨rfl, rfl⟩]
  · rw [if_neg h, u2_ne (by omega)]
theorem u2_u2 {st : St} {k i : Nat} {v w : Int32} : u2 (u2 st k i v) k i w = u2 st k i w := by
  funext a b
  rw [u2_if, u2_if, u2_if]
  split <;> rfl
theorem u2_comm {st : St} {k i k' i' : Nat} {v w : Int32} (h : k ≠ k' ∨ i ≠ i') : u2 (u2 st k i v) k' i' w = u2 (u2 st k' i' w) k i v := by
  funext a b
  rw [u2_if, u2_if, u2_if, u2_if]
  by_cases h1 : a = k ∧ b = i
  · rw [if_pos h1, if_pos h1, if_neg (by omega)]
  · rw [if_neg h1, if_neg h1]
theorem zC_u2 {c : Ct} {j i : Nat} {v : Int32} (h : zC c) (hi : i < lenC j) (h0 : j = 0 → 7 ≤ i) : zC (u2 c j i v) := by
  refine ⟨fun a b hb => ?_, fun b hb => ?_⟩
  · rw [u2_if, if_neg (fun z => by obtain ⟨rfl, rfl⟩ := z; omega)]
    exact h.1 a b hb
  · rw [u2_if, if_neg (fun z => by have := h0 z.1.symm; omega)]
    exact h.2 b hb
theorem zC_bec {c : Ct} (h : zC c) : zC (bec c) := by
  refine ⟨fun j i hi => ?_, fun i hi => ?_⟩
  · unfold bec
    by_cases e : j = 7
    · subst e
      rw [if_pos rfl]
      have l7 : lenC 7 = 6 := rfl
      unfold opN
      rw [if_neg (by omega)]
    · rw [if_neg e]; exact h.1 j i hi
  · show bec c 0 i = 0
    unfold bec
    rw [if_neg (by decide)]; exact h.2 i hi
theorem nC_bec {c : Ct} (h : nC c) : nC (bec c) := fun j hj => by
  unfold bec
  rw [if_neg (by omega)]
  exact h j hj
theorem bec_u2 {c : Ct} {j i : Nat} {v : Int32} (h : j ≠ 7) : bec (u2 c j i v) = u2 (bec c) j i v := by
  funext a b
  unfold bec
  by_cases e : a = 7
  · subst e
    rw [if_pos rfl, u2_ne (Or.inl (Ne.symm h)), if_pos rfl]
  · rw [if_neg e, u2_if, u2_if, if_neg e]
theorem bec_e {c : Ct} {j : Nat} (h : j ≠ 7) : bec c j = c j := if_neg h
def zn (c : Ct) : Prop := zC c ∧ nC c
theorem zn_bec {c : Ct} (h : zn c) : zn (bec c) := ⟨zC_bec h.1, nC_bec h.2⟩
theorem len4 : lenC 4 = 36 := rfl
theorem zn_u2 {c : Ct} {j i : Nat} {v : Int32} (h : zn c) (hj : j < 8) (hi : i < lenC j) (h0 : j = 0 → 7 ≤ i) : zn (u2 c j i v) := ⟨zC_u2 h.1 hi h0, nC_u2 h.2 hj i v⟩
theorem zn_hate {c : Ct} {p q : Nat} {v : Int32} (h : zn c) (hp : p < 6) (hq : q < 6) : zn (u2 c 4 (hI p q) v) := zn_u2 h (by decide) (by have := hI_lt hp hq; rw [len4]; omega) (fun z => absurd z (by decide))
theorem zn_town {c : Ct} {p : Nat} {v : Int32} (h : zn c) (hp : p < 6) : zn (u2 c 3 p v) := zn_u2 h (by decide) (show p < lenC 3 from hp) (fun z => absurd z (by decide))
theorem zn_hates {n : Nat} {c : Ct} (hn : n ≤ 6) (h : zn c) : zn (hatesF n c) :=
  fr_inv (fun _ c => zn c) _ (Nat.zero_le n) h fun p s _ hp hs => fr_inv (fun _ c => zn c) _ (show p + 1 ≤ n by omega) hs fun q s _ hq hs => zn_hate hs (by omega) (by omega)
theorem zn_stepL {n l : Nat} {s : Int32 × Ct} (hn : n ≤ 6) (hl : l < 6) (h : zn s.2) : zn (stepL n l s).2 := by
  unfold stepL
  split
  · exact h
  · split
    · exact h
    next p q e =>
      have := opS_in p q e
      exact zn_hate (zn_u2 (zn_u2 h (by decide) (show 9 < lenC 0 by decide) (fun _ => by decide)) (by decide) (show l < lenC 7 from hl) (fun z => absurd z (by decide))) (by omega) (by omega)
theorem zn_week {n nL : Nat} {c : Ct} (hn : n ≤ 6) (hL : nL ≤ 6) (h : zn c) : zn (weekF n nL c).2 :=
  fr_inv (fun _ (s : Int32 × Ct) => zn s.2) _ (Nat.zero_le nL) (s0 := (0, hatesF n (u2 c 0 10 (c 0 10 + 1)))) (zn_hates hn (zn_u2 h (by decide) (show 10 < lenC 0 by decide) (fun _ => by decide))) fun l s _ hl hs => zn_stepL hn (by omega) hs
theorem zn_weeks {n nL w : Nat} {c : Ct} (hn : n ≤ 6) (hL : nL ≤ 6) (h : zn c) : zn (weeksF n nL w c) := fr_inv (fun _ c => zn c) _ (Nat.zero_le w) h fun _ _ _ _ h => zn_week hn hL h
theorem vC_bec {n nL : Nat} {c : Ct} (h : vC n nL c) : vC n nL (bec c) := by
  obtain ⟨h1, h2, h3, h4, h5, h6, h7⟩ := h
  exact vC_of h1 h2 h3 h4 h5 ⟨ob c, h7, h6⟩
theorem ob_bec {c : Ct} : ob (bec c) = ob c := rfl
theorem c11 {st : St} {c : Ct} : cv (sv st 99 c) 11 = cv st 11 := cv_off (by decide)
theorem o11 {st : St} {c : Ct} : sv st 99 c 11 = st 11 := sv_off (by decide)
theorem m_become {st : St} {c0 : Ct} {K : St → Prop} (hz : zC (cv st 11)) (h0 : zn c0) (h : K (sv st 99 (bec (cv st 11)))) : w_X1_become 99 11 (sv st 99 c0) K :=
  s_become (by decide) (by rw [cv_sv h0.2]; exact h0.1) (by rw [c11]; exact hz) (by rw [sv_sv, c11]; exact h)
theorem m_move {st : St} {k p : Nat} {c : Ct} {v : Int32} {K : St → Prop} (hp : p < 6) (h : K (sv st k (u2 c 3 p v))) : w_X1_move k (nI p) v (sv st k c) K := by
  unfold w_X1_move
  refine s_put hp (by decide) ?_
  rw [sv_u2 (by decide)]
  exact h
theorem m_setKind {st : St} {k p : Nat} {c : Ct} {v : Int32} {K : St → Prop} (hp : p < 6) (h : K (sv st k (u2 c 1 p v))) : w_X1_setKind k (nI p) v (sv st k c) K := by
  unfold w_X1_setKind
  refine s_put hp (by decide) ?_
  rw [sv_u2 (by decide)]
  exact h
theorem m_setFigure {st : St} {k p : Nat} {c : Ct} {v : Int32} {K : St → Prop} (hp : p < 6) (h : K (sv st k (u2 c 2 p v))) : w_X1_setFigure k (nI p) v (sv st k c) K := by
  unfold w_X1_setFigure
  refine s_put hp (by decide) ?_
  rw [sv_u2 (by decide)]
  exact h
theorem m_isOpen {st : St} {k n nL l : Nat} {c : Ct} {K : Int32 → St → Prop} (hv : vC n nL c) (hl : l < 6) (h : K (if (ob c).testBit l then 1 else 0) (sv st k c)) : w_X1_isOpen k (nI l) (sv st k c) K := by
  refine s_isOpen ?_
  obtain ⟨-, h2, -, -, -, h6, h7⟩ := hv
  rw [h6, bit_is _ (p64 h2 h7) l hl]
  cases hb : (ob c).testBit l <;> simpa [hb] using h
theorem m_openedBy {st : St} {k l : Nat} {c : Ct} {K : Int32 → St → Prop} (hl : l < 6) (h : K (c 7 l) (sv st k c)) : w_X1_openedBy k (nI l) (sv st k c) K := by
  unfold w_X1_openedBy
  refine s_at hl (by decide) ?_
  rw [sv_7]
  exact h
theorem m_allHate {st : St} {k n nL : Nat} {c : Ct} {K : Int32 → St → Prop} (hv : vC n nL c) (hn : nC c) (h : K (allF n c) (sv st k c)) : w_X1_allHate k (sv st k c) K := by
  refine x_allHate hv.1 ?_ ?_
  · rw [sv_0]; exact hv.2.2.1
  · rw [cv_sv hn]; exact h
/-- class in mind: the start -/
theorem mind0 {st : St} (P : St → Prop) (h : ∀ c0, zn c0 → P (sv st 99 c0)) (hz : zC (cv st 99)) : P st := by
  have := h (cv st 99) ⟨hz, nC_cv⟩
  rwa [sv_cv] at this
theorem R_mind {st mt mt' : St} {c : Ct} (h : R st mt) (hz : zn c) (ht : tf mt mt') : R (sv st 99 c) mt' := R_fr h (xf_sv hz.1 hz.2) ht
theorem R.z11 {st mt : St} (h : R st mt) : zC (cv st 11) := h.2.1 11 isC_11
theorem R.z99 {st mt : St} (h : R st mt) : zC (cv st 99) := h.2.1 99 isC_99
/-- the check's live row, cell by cell -/
def lvj (a : Nat) : Nat := if a < 6 then 2 else if a < 12 then 3 else if a < 18 then 4 else if a < 54 then 5 else if a < 60 then 6 else if a < 66 then 7 else if a < 72 then 8 else 0
def lvi (a : Nat) : Nat := if a < 6 then a else if a < 12 then a - 6 else if a < 18 then a - 12 else if a < 54 then a - 18 else if a < 60 then a - 54 else if a < 66 then a - 60 else if a < 72 then a - 66 else if a = 72 then 8 else if a = 73 then 9 else 10
theorem lv_cell {mt : St} {a : Nat} : lvM mt a = mt (lvj a) (lvi a) := by
  unfold lvM lvj lvi
  by_cases h1 : a < 6
  · simp only [if_pos h1]
  by_cases h2 : a < 12
  · simp only [if_neg h1, if_pos h2]
  by_cases h3 : a < 18
  · simp only [if_neg h1, if_neg h2, if_pos h3]
  by_cases h4 : a < 54
  · simp only [if_neg h1, if_neg h2, if_neg h3, if_pos h4]
  by_cases h5 : a < 60
  · simp only [if_neg h1, if_neg h2, if_neg h3, if_neg h4, if_pos h5]
  by_cases h6 : a < 66
  · simp only [if_neg h1, if_neg h2, if_neg h3, if_neg h4, if_neg h5, if_pos h6]
  by_cases h7 : a < 72
  · simp only [if_neg h1, if_neg h2, if_neg h3, if_neg h4, if_neg h5, if_neg h6, if_pos h7]
  simp only [if_neg h1, if_neg h2, if_neg h3, if_neg h4, if_neg h5, if_neg h6, if_neg h7]
  by_cases h8 : a = 72
  · simp only [if_pos h8]
  by_cases h9 : a = 73
  · simp only [if_neg h8, if_pos h9]
  simp only [if_neg h8, if_neg h9]
theorem hf_back {mt s : St} {j i : Nat} {v : Int32} (h : hf (u2 mt j i v) s) (hj : 2 ≤ j ∧ j ≤ 8) : hf mt (u2 s j i (mt j i)) := by
  refine ⟨fun a ha => ?_, fun k p q r t => ?_, fun a p q r t u w x => ?_, fun a p => ?_⟩
  · have e := h.1 a ha
    rw [lv_cell, lv_cell] at e
    rw [lv_cell, lv_cell, u2_if]
    by_cases z : lvj a = j ∧ lvi a = i
    · rw [if_pos z, z.1, z.2]
    · rw [if_neg z, e, u2_if, if_neg z]
  · have e := h.2.1 k p q r t
    rw [u2_off (by omega)] at e
    rw [u2_off (by omega), e]
  · have e := h.2.2.1 a p q r t u w x
    rw [u2_off (by omega)] at e
    rw [u2_off (by omega), e]
  · have e := h.2.2.2 a p
    rw [u2_off (by omega)] at e
    rw [u2_off (by omega), e]
theorem hf_over {mt s : St} {j i : Nat} {v : Int32} (w : Int32) (h : hf mt s) (hj : 2 ≤ j ∧ j ≤ 8) : hf (u2 mt j i w) (u2 s j i w) := by
  refine ⟨fun a ha => ?_, fun k p q r t => ?_, fun a p q r t u w x => ?_, fun a p => ?_⟩
  · have e := h.1 a ha
    rw [lv_cell, lv_cell] at e
    rw [lv_cell, lv_cell, u2_if, u2_if]
    split
    · rfl
    · exact e
  · rw [u2_off (by omega), u2_off (by omega)]; exact h.2.1 k p q r t
  · rw [u2_off (by omega), u2_off (by omega)]; exact h.2.2.1 a p q r t u w x
  · rw [u2_off (by omega), u2_off (by omega)]; exact h.2.2.2 a p
theorem hf_over2 {mt s : St} {j i : Nat} {v : Int32} (w : Int32) (h : hf (u2 mt j i v) s) (hj : 2 ≤ j ∧ j ≤ 8) : hf (u2 mt j i w) (u2 s j i w) := by
  have := hf_over (v := v) (i := i) w h hj
  rwa [u2_u2] at this
theorem sets_ne {p q : Nat} (hp : p < 6) (hq : q < 6) (h : p ≠ q) : 6 * p + q ≠ 6 * q + p := by omega
theorem hf_sets {mt s : St} {p q : Nat} {v w : Int32} (h : hf (setsF mt p q v) s) (hp : p < 6) (hq : q < 6) (hpq : p ≠ q) : hf (setsF mt p q w) (setsF s p q w) := by
  have h1 := hf_over (v := v) (i := 6 * p + q) w h (show 2 ≤ 5 ∧ 5 ≤ 8 by decide)
  have h2 := hf_over (v := v) (i := 6 * q + p) w h1 (show 2 ≤ 5 ∧ 5 ≤ 8 by decide)
  unfold setsF at h2
  rw [u2_comm (i := 6 * q + p) (i' := 6 * p + q) (Or.inr (sets_ne hq hp (Ne.symm hpq))), u2_u2, u2_u2] at h2
  exact h2
theorem hf_unset {mt s : St} {p q : Nat} {v w : Int32} (h : hf (setsF mt p q v) s) (hp : p < 6) (hq : q < 6) (hpq : p ≠ q) (e1 : mt 5 (6 * p + q) = w) (e2 : mt 5 (6 * q + p) = w) : hf mt (setsF s p q w) := by
  have h1 := hf_back h (show 2 ≤ 5 ∧ 5 ≤ 8 by decide)
  have h2 := hf_back h1 (show 2 ≤ 5 ∧ 5 ≤ 8 by decide)
  rw [u2_ne (Or.inr (sets_ne hq hp (Ne.symm hpq))), e1, e2] at h2
  unfold setsF
  rw [u2_comm (Or.inr (sets_ne hp hq hpq))]
  exact h2
theorem RM_u2 {n nL : Nat} {mt : St} {c : Ct} {j i : Nat} {v : Int32} (h : RM n nL mt c) (hj : 9 ≤ j) : RM n nL (u2 mt j i v) c := RM_off h (fun k a b => u2_off (by omega)) (fun k a b => by rw [u2_off (by omega)])
theorem has0 (p : Nat) : ¬ hasB 0 p := by
  unfold hasB
  rw [Int32.zero_shiftRight, Int32.zero_and]
  decide
/-- keepers move, change kind or figure, on both sides -/
theorem RM_town {n nL p : Nat} {mt : St} {c : Ct} {v : Int32} (h : RM n nL mt c) (h0 : mt 0 11 = 0) (hv : v ≠ -1) : RM n nL (u2 mt 4 p v) (u2 c 3 p v) := by
  obtain ⟨g1, g2, g3, g4, g5, g6, g7, g8⟩ := h
  refine ⟨vC_u4 g1 (by decide) (by decide), fun p q a b => by rw [u2_off (by decide)]; exact g2 p q a b, by rw [u2_off (by decide)]; exact g3, by rw [u2_off (by decide)]; exact g4, by rw [u2_off (by decide), u2_off (by decide)]; exact g5, fun k hk => ?_, fun p q a b => ?_, fun l hl => ?_⟩
  · obtain ⟨a1, a2, a3, a4⟩ := g6 k hk
    rw [u2_off (show (2 : Nat) ≠ 4 by decide), u2_off (show (3 : Nat) ≠ 4 by decide), u2_off (show (0 : Nat) ≠ 4 by decide), u2_off (show (1 : Nat) ≠ 3 by decide), u2_off (show (2 : Nat) ≠ 3 by decide)]
    refine ⟨a1, a2, ?_, ?_⟩
    · by_cases e : k = p
      · subst e
        rw [u2_same, h0]
        exact ⟨fun z => absurd z (has0 k), fun z => absurd z hv⟩
      · rw [u2_ne (Or.inr e)]; exact a3
    · by_cases e : k = p
      · subst e
        rw [u2_same, u2_same]
        exact fun _ => rfl
      · rw [u2_ne (Or.inr e), u2_ne (Or.inr e)]; exact a4
  · rw [u2_off (by decide), u2_off (by decide)]; exact g7 p q a b
  · rw [u2_off (by decide), u2_off (by decide), u2_off (by decide), u2_off (by decide), u2_off (by decide), ob_off (by decide)]; exact g8 l hl
theorem RM_kind {n nL p : Nat} {mt : St} {c : Ct} {v : Int32} (h : RM n nL mt c) : RM n nL (u2 mt 2 p v) (u2 c 1 p v) := by
  obtain ⟨g1, g2, g3, g4, g5, g6, g7, g8⟩ := h
  refine ⟨vC_u4 g1 (by decide) (by decide), fun p q a b => by rw [u2_off (by decide)]; exact g2 p q a b, by rw [u2_off (by decide)]; exact g3, by rw [u2_off (by decide)]; exact g4, by rw [u2_off (by decide), u2_off (by decide)]; exact g5, fun k hk => ?_, fun p q a b => ?_, fun l hl => ?_⟩
  · obtain ⟨a1, a2, a3, a4⟩ := g6 k hk
    rw [u2_off (show (3 : Nat) ≠ 2 by decide), u2_off (show (4 : Nat) ≠ 2 by decide), u2_off (show (0 : Nat) ≠ 2 by decide), u2_off (show (3 : Nat) ≠ 1 by decide), u2_off (show (2 : Nat) ≠ 1 by decide)]
    refine ⟨?_, a2, a3, a4⟩
    by_cases e : k = p
    · subst e; rw [u2_same, u2_same]
    · rw [u2_ne (Or.inr e), u2_ne (Or.inr e)]; exact a1
  · rw [u2_off (by decide), u2_off (by decide)]; exact g7 p q a b
  · rw [u2_off (by decide), u2_off (by decide), u2_off (by decide), u2_off (by decide), u2_off (by decide), ob_off (by decide)]; exact g8 l hl
theorem RM_figure {n nL p : Nat} {mt : St} {c : Ct} {v : Int32} (h : RM n nL mt c) : RM n nL (u2 mt 3 p v) (u2 c 2 p v) := by
  obtain ⟨g1, g2, g3, g4, g5, g6, g7, g8⟩ := h
  refine ⟨vC_u4 g1 (by decide) (by decide), fun p q a b => by rw [u2_off (by decide)]; exact g2 p q a b, by rw [u2_off (by decide)]; exact g3, by rw [u2_off (by decide)]; exact g4, by rw [u2_off (by decide), u2_off (by decide)]; exact g5, fun k hk => ?_, fun p q a b => ?_, fun l hl => ?_⟩
  · obtain ⟨a1, a2, a3, a4⟩ := g6 k hk
    rw [u2_off (show (2 : Nat) ≠ 3 by decide), u2_off (show (4 : Nat) ≠ 3 by decide), u2_off (show (0 : Nat) ≠ 3 by decide), u2_off (show (3 : Nat) ≠ 2 by decide), u2_off (show (1 : Nat) ≠ 2 by decide)]
    refine ⟨a1, ?_, a3, a4⟩
    by_cases e : k = p
    · subst e; rw [u2_same, u2_same]
    · rw [u2_ne (Or.inr e), u2_ne (Or.inr e)]; exact a2
  · rw [u2_off (by decide), u2_off (by decide)]; exact g7 p q a b
  · rw [u2_off (by decide), u2_off (by decide), u2_off (by decide), u2_off (by decide), u2_off (by decide), ob_off (by decide)]; exact g8 l hl
/-- hate set, whichever of the two is first -/
theorem hI_comm {p q : Nat} : hI p q = hI q p := by unfold hI; omega
theorem RM_sets {n nL p q : Nat} {mt : St} {c : Ct} {v : Int32} (h : RM n nL mt c) (hp : p < n) (hq : q < n) (hpq : p ≠ q) (h0 : 0 ≤ v) (h9 : v ≤ 99) : RM n nL (setsF mt p q v) (u2 c 4 (hI p q) v) := by
  rcases Nat.lt_or_gt_of_ne hpq with z | z
  · exact (RM_hate h z hq h0 h9).1
  · rw [hI_comm]; exact (RM_hate h z hp h0 h9).2
theorem gC_ct {n nL : Nat} {c : Ct} (g : gC n nL c) (hn : nC c) : zn c := ⟨g.1, hn⟩
theorem out0 {st mt : St} (h : R st mt) : mt 0 11 = 0 := h.1.2
end
section
/-! pure part: what a week opens, and by whom; loops that end early, with states -/
theorem lo_fstJ {W : Nat → Nat → St → Prop} {P : Nat → Bool} {Q : Int32 → Prop} {J : Nat → St → Prop} {r i0 : Nat} {s : St} (hi : i0 ≤ r) (hj : J i0 s) (hx : ∀ n s, J r s → Q (-9) → W (n + 1) r s) (hp : ∀ n i s, i0 ≤ i → i < r → J i s → P i = true → Q (nI i) → W (n + 2) i s)
    (hn : ∀ n i s, i0 ≤ i → i < r → J i s → P i = false → (∀ s', J (i + 1) s' → W n (i + 1) s') → W (n + 1) i s) (h : Q (fstG P (r - i0) i0)) : ∃ n, W n i0 s := by
  have key : ∀ d i s, i0 ≤ i → i + d = r → J i s → Q (fstG P d i) → W (d + 2) i s := by
    intro d
    induction d with
    | zero =>
      intro i s h1 h2 h3 h4
      have : i = r := by omega
      subst this
      exact hx 1 s h3 h4
    | succ d ih =>
      intro i s h1 h2 h3 h4
      cases e : P i with
      | true =>
        rw [fstG, e] at h4
        exact hp (d + 1) i s h1 (by omega) h3 e h4
      | false =>
        rw [fstG, e] at h4
        exact hn (d + 2) i s h1 (by omega) h3 e fun s' hs' => ih (i + 1) s' (by omega) (by omega) hs' h4
  exact ⟨_, key (r - i0) i0 s (Nat.le_refl _) (by omega) hj h⟩
theorem fstG_some {P : Nat → Bool} : ∀ d i, (fstG P d i = -9 ∧ ∀ j, i ≤ j → j < i + d → P j = false) ∨ (∃ n, i ≤ n ∧ n < i + d ∧ fstG P d i = nI n ∧ P n = true ∧ ∀ j, i ≤ j → j < n → P j = false)
  | 0, i => Or.inl ⟨rfl, fun j a b => absurd b (by omega)⟩
  | d + 1, i => by
    rw [fstG]
    cases e : P i with
    | true => exact Or.inr ⟨i, Nat.le_refl i, by omega, rfl, e, fun j a b => absurd b (by omega)⟩
    | false =>
      rcases fstG_some (P := P) d (i + 1) with ⟨h1, h2⟩ | ⟨n, h1, h2, h3, h4, h5⟩
      · refine Or.inl ⟨h1, fun j a b => ?_⟩
        by_cases z : j = i
        · subst z; exact e
        · exact h2 j (by omega) (by omega)
      · refine Or.inr ⟨n, by omega, by omega, h3, h4, fun j a b => ?_⟩
        by_cases z : j = i
        · subst z; exact e
        · exact h5 j (by omega) b
theorem vC_stepL {n nL l : Nat} {s : Int32 × Ct} (hl : l < nL) (h : vC n nL s.2) : vC n nL (stepL n l s).2 := by
  obtain ⟨h1, h2, h3, h4, h5, h6, h7⟩ := h
  exact vC_of h1 h2 (by rw [stepL_0 (by decide)]; exact h3) (by rw [stepL_0 (by decide)]; exact h4) (fun j hj => by rw [stepL_off (by decide) (by decide) (by decide)]; exact h5 j hj) (stepL_ob h2 hl ⟨ob s.2, h7, h6⟩)
/-- what is opened in a week: bits b -/
def weekN (n nL : Nat) (c : Ct) (s : Int32 × Ct) : Prop :=
  vC n nL s.2 ∧ ∃ b, s.1 = nI b ∧ b < 2 ^ nL ∧ ∀ l, ((ob s.2).testBit l = ((ob c).testBit l || b.testBit l)) ∧ ((ob c).testBit l = true → b.testBit l = false) ∧ (b.testBit l = false → s.2 7 l = c 7 l)
theorem weekN_step {n nL l : Nat} {c : Ct} {s : Int32 × Ct} (hl : l < nL) (h : weekN n nL c s) : weekN n nL c (stepL n l s) := by
  obtain ⟨hv, b, h1, h2, h3⟩ := h
  refine ⟨vC_stepL hl hv, ?_⟩
  have hL := hv.2.1
  by_cases e : bitF (s.2 0 9) (nI l) = 1
  · rw [stepL_open e]; exact ⟨b, h1, h2, h3⟩
  · cases ho : openerF s.2 n l with
    | none => rw [stepL_none e ho]; exact ⟨b, h1, h2, h3⟩
    | some pq =>
      obtain ⟨p, q⟩ := pq
      rw [stepL_some e ho]
      have hb := p64 hL h2
      have ho64 := p64 hL hv.2.2.2.2.2.2
      have hbl : (ob s.2).testBit l = false := by
        cases z : (ob s.2).testBit l with
        | false => rfl
        | true =>
          refine absurd ?_ e
          rw [hv.2.2.2.2.2.1, bit_is _ ho64 l (by omega), if_pos z]
      have eo : ob (opens s.2 l p q) = ob s.2 ||| 2 ^ l := ob_of (opens_ob hv.2.2.2.2.2.1 ho64 (by omega)) (Nat.or_lt_two_pow (n := 6) ho64 (Nat.pow_lt_pow_right (by decide) (by omega)))
      refine ⟨b ||| 2 ^ l, by show s.1 ||| lbit l = _; rw [h1]; exact or_bit b hb l (by omega), Nat.or_lt_two_pow h2 (Nat.pow_lt_pow_right (by decide) hl), fun k => ?_⟩
      obtain ⟨a1, a2, a3⟩ := h3 k
      show (ob (opens s.2 l p q)).testBit k = _ ∧ _ ∧ (_ → opens s.2 l p q 7 k = c 7 k)
      rw [eo, tb_or, tb_or]
      by_cases ek : l = k
      · subst ek
        have c0 : (ob c).testBit l = false := by
          rw [hbl] at a1
          cases z : (ob c).testBit l with
          | false => rfl
          | true => rw [z] at a1; simp at a1
        refine ⟨by simp, fun z => ?_, fun z => ?_⟩
        · rw [c0] at z; cases z
        · simp at z
      · have d : decide (l = k) = false := decide_eq_false ek
        rw [d, Bool.or_false, Bool.or_false, opens_7 (fun z => ek z.symm)]
        exact ⟨a1, a2, a3⟩
theorem vC_hates {n nL : Nat} {c : Ct} (h : vC n nL c) : vC n nL (hatesF n c) := by
  obtain ⟨h1, h2, h3, h4, h5, h6, h7⟩ := h
  exact vC_of h1 h2 (by rw [hatesF_off (by decide)]; exact h3) (by rw [hatesF_off (by decide)]; exact h4) (fun l hl => by rw [hatesF_off (by decide)]; exact h5 l hl) ⟨ob c, h7, by rw [hatesF_off (by decide)]; exact h6⟩
theorem ob_hates {n : Nat} {c : Ct} : ob (hatesF n c) = ob c := by
  unfold ob
  rw [hatesF_off (by decide)]
theorem week_N {n nL : Nat} {c : Ct} (h : vC n nL c) : weekN n nL c (weekF n nL c) := by
  have e7 : hatesF n (u2 c 0 10 (c 0 10 + 1)) 7 = c 7 := by rw [hatesF_off (by decide), u2_off (by decide)]
  have h1 : vC n nL (hatesF n (u2 c 0 10 (c 0 10 + 1))) := vC_hates (vC_wk h)
  have h2 : ob (hatesF n (u2 c 0 10 (c 0 10 + 1))) = ob c := by rw [ob_hates, ob_wk]
  refine fr_inv (fun _ (s : Int32 × Ct) => weekN n nL c s) (stepL n) (Nat.zero_le nL) (s0 := (0, hatesF n (u2 c 0 10 (c 0 10 + 1)))) ⟨h1, 0, rfl, Nat.two_pow_pos nL, fun l => ⟨?_, fun _ => Nat.zero_testBit l, fun _ => ?_⟩⟩ (fun l s _ hl hs => weekN_step hl hs)
  · show (ob (hatesF n (u2 c 0 10 (c 0 10 + 1)))).testBit l = _
    rw [h2, Nat.zero_testBit, Bool.or_false]
  · show hatesF n (u2 c 0 10 (c 0 10 + 1)) 7 l = c 7 l
    rw [e7]
theorem wk_succ {n nL i : Nat} {c : Ct} : wkF n nL (i + 1) c = (weekF n nL (wkF n nL i c)).2 := by
  unfold wkF weeksF
  rw [fr_succ (Nat.zero_le i)]
theorem wk_0 {n nL : Nat} {c : Ct} : wkF n nL 0 c = bec c := rfl
theorem vC_wkF {n nL i : Nat} {c : Ct} (h : vC n nL c) : vC n nL (wkF n nL i c) := vC_weeks (vC_bec h)
theorem zn_wkF {n nL i : Nat} {c : Ct} (hn : n ≤ 6) (hL : nL ≤ 6) (h : zn c) : zn (wkF n nL i c) := zn_weeks hn hL (zn_bec h)
/-- is letter l open behind i weeks? -/
def opP (n nL l : Nat) (c : Ct) (i : Nat) : Bool := (ob (wkF n nL i c)).testBit l
theorem opP_0 {n nL l : Nat} {c : Ct} : opP n nL l c 0 = (ob c).testBit l := rfl
theorem opP_s {n nL l i : Nat} {c : Ct} (h : vC n nL c) (e : opP n nL l c i = true) : opP n nL l c (i + 1) = true := by
  obtain ⟨hv, b, h1, h2, h3⟩ := week_N (vC_wkF (i := i) h)
  unfold opP at *
  rw [wk_succ, (h3 l).1, e, Bool.true_or]
theorem opP_m {n nL l i j : Nat} {c : Ct} (h : vC n nL c) (hij : i ≤ j) (e : opP n nL l c i = true) : opP n nL l c j = true := by
  obtain ⟨d, rfl⟩ := Nat.exists_eq_add_of_le hij
  clear hij
  induction d with
  | zero => exact e
  | succ d ih => exact opP_s h ih
theorem by_keep {n nL l i : Nat} {c : Ct} (h : vC n nL c) (e : opP n nL l c i = true ∨ opP n nL l c (i + 1) = false) : wkF n nL (i + 1) c 7 l = wkF n nL i c 7 l := by
  obtain ⟨hv, b, h1, h2, h3⟩ := week_N (vC_wkF (i := i) h)
  rw [wk_succ]
  refine (h3 l).2.2 ?_
  rcases e with e | e
  · exact (h3 l).2.1 e
  · have := (h3 l).1
    unfold opP at e
    rw [wk_succ] at e
    rw [e] at this
    cases z : b.testBit l with
    | false => rfl
    | true => rw [z] at this; simp at this
theorem by_later {n nL l i j : Nat} {c : Ct} (h : vC n nL c) (hij : i ≤ j) (e : opP n nL l c i = true) : wkF n nL j c 7 l = wkF n nL i c 7 l := by
  obtain ⟨d, rfl⟩ := Nat.exists_eq_add_of_le hij
  clear hij
  induction d with
  | zero => rfl
  | succ d ih =>
    have := by_keep h (Or.inl (opP_m h (Nat.le_add_right i d) e))
    rw [show i + (d + 1) = (i + d) + 1 by omega, this, ih]
theorem by_none {n nL l j : Nat} {c : Ct} (h : vC n nL c) (hl : l < 6) (e : opP n nL l c j = false) : wkF n nL j c 7 l = -9 := by
  induction j with
  | zero =>
    show bec c 7 l = -9
    unfold bec opN
    rw [if_pos rfl, if_pos hl]
  | succ j ih =>
    rw [by_keep h (Or.inr e)]
    refine ih ?_
    cases z : opP n nL l c j with
    | false => rfl
    | true => rw [opP_s h z] at e; cases e
theorem by_open {n nL l j : Nat} {c : Ct} (h : vC n nL c) (hl : l < 6) (e : (ob c).testBit l = true) : wkF n nL j c 7 l = -9 := by
  rw [by_later h (Nat.zero_le j) (show opP n nL l c 0 = true from e)]
  show bec c 7 l = -9
  unfold bec opN
  rw [if_pos rfl, if_pos hl]
def whF (n nL l : Nat) (c : Ct) : Int32 := fstG (opP n nL l c) 61 0
/-- the class's mind, weeks on -/
theorem m_passWeeks {st : St} {n nL w : Nat} {c : Ct} {K : Int32 → St → Prop} (hw : w < 2147483648) (hc : vC n nL c) (h : K (nI (pc (ob (wkF n nL w c)))) (sv st 99 (wkF n nL w c))) : w_X1_passWeeks 99 (nI w) (sv st 99 (bec c)) K :=
  s_passWeeks hw (vC_bec hc) h
theorem x_hateAfter {st : St} {c0 : Ct} {n nL p q w : Nat} {K : Int32 → St → Prop} (hz : zC (cv st 11)) (h0 : zn c0) (hv : vC n nL (cv st 11)) (hp : p < 6) (hq : q < 6) (hw : w < 2147483648) (h : ∀ c', zn c' → K (wkF n nL w (cv st 11) 4 (hI p q)) (sv st 99 c')) : w_X4_hateAfter (nI p) (nI q) (nI w) (sv st 99 c0) K := by
  unfold w_X4_hateAfter
  exact m_become hz h0 (m_passWeeks hw hv (s_hateOf hp hq (h _ (zn_wkF hv.1 hv.2.1 ⟨hz, nC_cv⟩))))
theorem x_openBitsAfter {st : St} {c0 : Ct} {n nL w : Nat} {K : Int32 → St → Prop} (hz : zC (cv st 11)) (h0 : zn c0) (hv : vC n nL (cv st 11)) (hw : w < 2147483648) (h : ∀ c', zn c' → K (nI (ob (wkF n nL w (cv st 11)))) (sv st 99 c')) : w_X4_openBitsAfter (nI w) (sv st 99 c0) K := by
  unfold w_X4_openBitsAfter
  refine m_become hz h0 (m_passWeeks hw hv ?_)
  unfold w_X1_openBits
  rw [sv_0, (vC_wkF hv).2.2.2.2.2.1]
  exact h _ (zn_wkF hv.1 hv.2.1 ⟨hz, nC_cv⟩)
theorem x_allHateAfter {st : St} {c0 : Ct} {n nL w : Nat} {K : Int32 → St → Prop} (hz : zC (cv st 11)) (h0 : zn c0) (hv : vC n nL (cv st 11)) (hw : w < 2147483648) (h : ∀ c', zn c' → K (allF n (wkF n nL w (cv st 11))) (sv st 99 c')) : w_X4_allHateAfter (nI w) (sv st 99 c0) K := by
  unfold w_X4_allHateAfter
  have z := zn_wkF (n := n) (nL := nL) (i := w) hv.1 hv.2.1 (⟨hz, nC_cv⟩ : zn (cv st 11))
  exact m_become hz h0 (m_passWeeks hw hv (m_allHate (vC_wkF hv) z.2 (h _ z)))
theorem rg0 {x a b : Int32} (h : rangeF x a b = 0) (c : Int32) : firstF 0 (rangeF x a b) c = c := by rw [h]; rfl
theorem sim_behind {st mt : St} (h : R st mt) (x1 x2 x3 : Int32) : w_X8_behind x1 x2 x3 st (fun r st' => w_X9_behind x1 x2 x3 mt (fun r' mt' => r = r' ∧ R st' mt')) := by
  obtain ⟨n, nL, hm, g, hn, hL, h7, h8, k8, k9⟩ := h.ctx
  unfold w_X8_behind
  refine s_twoRef h7 (s_range (s_firstOf ?_))
  by_cases e1 : twF n x1 x2 = 0
  · rw [nb0 e1, f1 (by decide)]
    refine n1 (by decide) (s_refused rO1 ?_)
    unfold w_X9_behind
    refine t_areTwo k8 (y2 e1 ?_)
    rw [w_X9_behind_b17]
    exact n1 (by decide) (t_no rO1 ⟨rfl, R_ref h rO1⟩)
  · rw [nb1 e1]
    by_cases e2 : rangeF x3 0 60 = 0
    · rw [rg0 e2]
      obtain ⟨p, q, hp, hq, hpq, rfl, rfl⟩ := twF_1 (by omega) e1
      obtain ⟨w, -, hw, rfl⟩ := rg_nI (a := 0) (b := 60) (by decide) (by decide) e2
      refine y1 rfl (mind0 (fun s => w_X4_hateAfter (nI p) (nI q) (nI w) s _) (fun c0 z0 => x_hateAfter h.z11 z0 hm.1 (by omega) (by omega) (by omega) fun c' zc => ?_) h.z99)
      unfold w_X9_behind
      refine t_areTwo k8 (n2 e1 (t_notWeeks ?_))
      rw [e2, w_X9_behind_b17]
      exact y1 rfl (t_hateIn (by omega) hm hp hq hpq fun mt' hh => ⟨rfl, R_mind h zc hh.tf⟩)
    · rw [f01 e2]
      refine n1 e2 (s_refused (rg_ok e2) ?_)
      unfold w_X9_behind
      refine t_areTwo k8 (n2 e1 (t_notWeeks ?_))
      rw [w_X9_behind_b17]
      exact n1 e2 (t_no (rg_ok e2) ⟨rfl, R_ref h (rg_ok e2)⟩)
theorem sim_used {st mt : St} (h : R st mt) (x1 x2 x3 : Int32) : w_X8_used x1 x2 x3 st (fun r st' => w_X9_used x1 x2 x3 mt (fun r' mt' => r = r' ∧ R st' mt')) := by
  obtain ⟨n, nL, hm, g, hn, hL, h7, h8, k8, k9⟩ := h.ctx
  unfold w_X8_used
  refine s_twoRef h7 (s_range (s_firstOf ?_))
  by_cases e1 : twF n x1 x2 = 0
  · rw [nb0 e1, f1 (by decide)]
    refine n1 (by decide) (s_refused rO1 ?_)
    unfold w_X9_used
    refine t_areTwo k8 (y2 e1 ?_)
    rw [w_X9_used_b17]
    exact n1 (by decide) (t_lower rO1 ⟨rfl, R_ref h rO1⟩)
  · rw [nb1 e1]
    by_cases e2 : rangeF x3 0 60 = 0
    · rw [rg0 e2]
      obtain ⟨p, q, hp, hq, hpq, rfl, rfl⟩ := twF_1 (by omega) e1
      obtain ⟨w, -, hw, rfl⟩ := rg_nI (a := 0) (b := 60) (by decide) (by decide) e2
      refine y1 rfl (x_hateOf (by omega) (by omega) (mind0 (fun s => w_X4_hateAfter (nI p) (nI q) (nI w) s _) (fun c0 z0 => x_hateAfter h.z11 z0 hm.1 (by omega) (by omega) (by omega) fun c' zc => ?_) h.z99))
      unfold w_X9_used
      refine t_areTwo k8 (n2 e1 (t_notWeeks ?_))
      rw [e2, w_X9_used_b17]
      refine y1 rfl (t_hateOf (by omega) (by omega) (t_hateIn (by omega) hm hp hq hpq fun mt' hh => ⟨?_, R_mind h zc hh.tf⟩))
      rw [hm.hate hp hq hpq]
    · rw [f01 e2]
      refine n1 e2 (s_refused (rg_ok e2) ?_)
      unfold w_X9_used
      refine t_areTwo k8 (n2 e1 (t_notWeeks ?_))
      rw [w_X9_used_b17]
      exact n1 e2 (t_lower (rg_ok e2) ⟨rfl, R_ref h (rg_ok e2)⟩)
theorem sim_then {st mt : St} (h : R st mt) (x1 x2 : Int32) : w_X8_then x1 x2 st (fun r st' => w_X9_then x1 x2 mt (fun r' mt' => r = r' ∧ R st' mt')) := by
  obtain ⟨n, nL, hm, g, hn, hL, h7, h8, k8, k9⟩ := h.ctx
  unfold w_X8_then
  refine s_range (s_choice (s_firstOf ?_))
  by_cases e1 : rangeF x1 0 60 = 0
  · rw [e1]
    obtain ⟨w, -, hw, rfl⟩ := rg_nI (a := 0) (b := 60) (by decide) (by decide) e1
    by_cases e2 : inF x2 0 1 = 0
    · rw [ch_out e2, f0, if_neg (by decide)]
      refine n1 (by decide) (s_refused rO2 ?_)
      unfold w_X9_then
      refine t_notWeeks ?_
      rw [e1]
      refine y2 rfl (t_isIn' (y2 e2 ?_))
      rw [w_X9_then_b21]
      exact n1 (by decide) (t_no rO2 ⟨rfl, R_ref h rO2⟩)
    · rw [ch_in e2, f0, if_pos rfl]
      have key : ∀ K : Int32 → St → Prop, w_X9_then_b21 (nI w) x2 K 0 mt → w_X9_then (nI w) x2 mt K := fun K hK => by
        unfold w_X9_then
        refine t_notWeeks ?_
        rw [e1]
        exact y2 rfl (t_isIn' (n2 e2 hK))
      refine y1 rfl ⟨fun z => mind0 (fun s => w_X4_allHateAfter (nI w) s _) (fun c0 z0 => x_allHateAfter h.z11 z0 hm.1 (by omega) fun c' zc => key _ ?_) h.z99, fun z => mind0 (fun s => w_X4_openBitsAfter (nI w) s _) (fun c0 z0 => x_openBitsAfter h.z11 z0 hm.1 (by omega) fun c' zc => key _ ?_) h.z99⟩
      · rw [w_X9_then_b21]
        exact y1 rfl (n2 z (t_think hm fun s e3 e4 => t_goesOn (by omega) e3 fun s1 e5 e6 => t_allHate e5 (t_forget (e4.wf e6) fun s' hh _ _ => ⟨rfl, R_mind h zc hh.tf⟩)))
      · rw [w_X9_then_b21]
        exact y1 rfl (y2 z (t_openIn (by omega) hm fun mt' hh => ⟨rfl, R_mind h zc hh.tf⟩))
  · rw [f1 e1]
    refine n1 e1 (s_refused (rg_ok e1) ?_)
    unfold w_X9_then
    refine t_notWeeks (n2 e1 ?_)
    rw [w_X9_then_b21]
    exact n1 e1 (t_no (rg_ok e1) ⟨rfl, R_ref h (rg_ok e1)⟩)
end
section
/-! pure part: lasts, apart, when, never -/
theorem nI_s {i : Nat} (h1 : 1 ≤ i) : nI (i - 1) + 1 = nI i := by rw [nI_inc]; congr 1; omega
theorem gt60 {i : Nat} (hi : i < 61) : ¬ 60 < nI i := i_nlt.mpr (nI_le (show i ≤ 60 by omega) (by decide))
theorem gt61 : (60 : Int32) < nI 61 := by decide
theorem weeks_s {n nL i : Nat} {c : Ct} : (weekF n nL (wkF n nL i c)).2 = wkF n nL (i + 1) c := wk_succ.symm
def ltP (n nL p q : Nat) (d : Int32) (c : Ct) (i : Nat) : Bool := decide (wkF n nL i c 4 (hI p q) < d)
theorem sim_lasts {st mt : St} (h : R st mt) (x1 x2 x3 : Int32) : w_X8_lasts x1 x2 x3 st (fun r st' => w_X9_lasts x1 x2 x3 mt (fun r' mt' => r = r' ∧ R st' mt')) := by
  obtain ⟨n, nL, hm, g, hn, hL, h7, h8, k8, k9⟩ := h.ctx
  unfold w_X8_lasts
  refine s_twoRef h7 (s_range (s_firstOf ?_))
  by_cases e1 : twF n x1 x2 = 0
  · rw [nb0 e1, f1 (by decide)]
    refine n1 (by decide) (s_refused rO1 ?_)
    unfold w_X9_lasts
    refine t_areTwo k8 (y2 e1 ?_)
    rw [w_X9_lasts_b20]
    exact n1 (by decide) (t_no rO1 ⟨rfl, R_ref h rO1⟩)
  · rw [nb1 e1]
    by_cases e2 : rangeF x3 0 99 = 0
    · rw [rg0 e2]
      obtain ⟨p, q, hp, hq, hpq, rfl, rfl⟩ := twF_1 (by omega) e1
      refine y1 rfl (mind0 (fun s => w_X4_weekBelow (nI p) (nI q) x3 s _) (fun c0 z0 => ?_) h.z99)
      unfold w_X4_weekBelow
      refine m_become h.z11 z0 ?_
      have zz : ∀ i, zn (wkF n nL i (cv st 11)) := fun i => zn_wkF hn hL ⟨h.z11, nC_cv⟩
      refine lo_fst (W := fun m i => w_X4_weekBelow_L14 (nI p) (nI q) x3 _ m (nI i) (sv st 99 (wkF n nL i (cv st 11)))) (P := ltP n nL p q x3 (cv st 11)) (Q := fun v => ∀ c', zn c' → w_X9_lasts (nI p) (nI q) x3 mt (fun r' mt' => v = r' ∧ R (sv st 99 c') mt')) (Nat.zero_le 61) (fun hQ => ⟨1, ?_⟩) (fun i _ hi hP hQ => ⟨1, ?_⟩) (fun m i _ hi hP hw => ?_) ?_
      · rw [w_X4_weekBelow_L14, w_X4_weekBelow_L14q]
        exact y1 gt61 (hQ _ (zz 61))
      · rw [w_X4_weekBelow_L14, w_X4_weekBelow_L14q]
        refine n1 (gt60 hi) (s_hateOf (by omega) (by omega) (n1 (i_nle.mpr (of_decide_eq_true hP)) (hQ _ (zz i))))
      · rw [w_X4_weekBelow_L14, w_X4_weekBelow_L14q]
        refine n1 (gt60 hi) (s_hateOf (by omega) (by omega) (y1 (i_nlt.mp (of_decide_eq_false hP)) (s_week1 (vC_wkF hm.1) ?_)))
        rw [weeks_s, nI_inc]
        exact hw
      · intro c' zc
        unfold w_X9_lasts
        refine t_areTwo k8 (n2 e1 (t_bound ?_))
        rw [e2, w_X9_lasts_b20]
        refine y1 rfl (t_think hm fun s e3 e4 => ?_)
        have eh : ∀ i s, RM n nL s (wkF n nL i (cv st 11)) → s 5 (6 * p + q) = wkF n nL i (cv st 11) 4 (hI p q) := fun i s hs => hs.hate hp hq hpq
        refine lo_fstJ (W := fun m i s => w_X9_lasts_L45 (nI p) (nI q) x3 _ m (-9) (nI i) s) (P := ltP n nL p q x3 (cv st 11)) (Q := fun v => ∀ mt', hf mt mt' → fstG (ltP n nL p q x3 (cv st 11)) (61 - 0) 0 = v ∧ R (sv st 99 c') mt') (J := fun i s => RM n nL s (wkF n nL i (cv st 11)) ∧ th mt s) (Nat.zero_le 61) ⟨e3, e4⟩ (fun m s hJ hQ => ?_) (fun m i s _ hi hJ hP hQ => ?_) (fun m i s _ hi hJ hP hw => ?_) (fun mt' hh => ⟨rfl, R_mind h zc hh.tf⟩)
        · rw [w_X9_lasts_L45, w_X9_lasts_L45q]
          refine y1 gt61 ?_
          rw [w_X9_lasts_b86]
          exact t_forget hJ.2 fun s' hh _ _ => hQ s' hh
        · rw [w_X9_lasts_L45, w_X9_lasts_L45q]
          refine n1 (gt60 hi) (n1 (by decide) (t_hateOf (by omega) (by omega) ?_))
          rw [eh i s hJ.1]
          refine n1 (i_nle.mpr (of_decide_eq_true hP)) ?_
          rw [w_X9_lasts_b74]
          refine t_goesWeek hJ.1 fun s1 e5 e6 _ => ?_
          have fin : w_X9_lasts_b86 (nI p) (nI q) x3 (fun r' mt' => fstG (ltP n nL p q x3 (cv st 11)) (61 - 0) 0 = r' ∧ R (sv st 99 c') mt') (nI i) s1 := by
            rw [w_X9_lasts_b86]
            exact t_forget (hJ.2.wf e6) fun s' hh _ _ => hQ s' hh
          rw [w_X9_lasts_L45, w_X9_lasts_L45q]
          exact ⟨fun _ => fin, fun _ => y1 (n_le0 (by omega)) fin⟩
        · rw [w_X9_lasts_L45, w_X9_lasts_L45q]
          refine n1 (gt60 hi) (n1 (by decide) (t_hateOf (by omega) (by omega) ?_))
          rw [eh i s hJ.1]
          refine y1 (i_nlt.mp (of_decide_eq_false hP)) ?_
          rw [w_X9_lasts_b74]
          refine t_goesWeek hJ.1 fun s1 e5 e6 _ => ?_
          rw [nI_inc]
          exact hw s1 ⟨by rw [← weeks_s]; exact e5, hJ.2.wf e6⟩
    · rw [f01 e2]
      refine n1 e2 (s_refused (rg_ok e2) ?_)
      unfold w_X9_lasts
      refine t_areTwo k8 (n2 e1 (t_bound ?_))
      rw [w_X9_lasts_b20]
      exact n1 e2 (t_no (rg_ok e2) ⟨rfl, R_ref h (rg_ok e2)⟩)
/-- weeks in which nothing is opened -/
def idF (n nL w : Nat) (c : Ct) : Int32 := fr 0 w (fun i (s : Int32) => if (weekF n nL (wkF n nL i c)).1 = 0 then s + 1 else s) 0
theorem nI_inj0 {b : Nat} (hb : b < 2147483648) : nI b = 0 ↔ b = 0 := ⟨fun z => nI_eqI hb (by decide) (show nI b = nI 0 from z), fun z => by rw [z]; rfl⟩
theorem sim_apart {st mt : St} (h : R st mt) (x1 : Int32) : w_X8_apart x1 st (fun r st' => w_X9_apart x1 mt (fun r' mt' => r = r' ∧ R st' mt')) := by
  obtain ⟨n, nL, hm, g, hn, hL, h7, h8, k8, k9⟩ := h.ctx
  unfold w_X8_apart
  refine s_range ?_
  by_cases e2 : rangeF x1 0 60 = 0
  · rw [e2]
    obtain ⟨w, -, hw, rfl⟩ := rg_nI (a := 0) (b := 60) (by decide) (by decide) e2
    refine y1 rfl (mind0 (fun s => w_X4_idleWeeks (nI w) s _) (fun c0 z0 => ?_) h.z99)
    unfold w_X4_idleWeeks
    refine m_become h.z11 z0 ?_
    have zz : zn (wkF n nL w (cv st 11)) := zn_wkF hn hL ⟨h.z11, nC_cv⟩
    refine lo_fr (fun m i (s : Int32) => w_X4_idleWeeks_L15 (nI w) _ m s (nI i) (sv st 99 (wkF n nL i (cv st 11)))) (fun i (s : Int32) => if (weekF n nL (wkF n nL i (cv st 11))).1 = 0 then s + 1 else s) (fun _ _ => True) (0 : Int32) (Nat.zero_le w) trivial (fun _ _ _ _ _ => trivial) (fun _ m => ?_) (fun m i s _ hi _ hk => ?_)
    · rw [w_X4_idleWeeks_L15, w_X4_idleWeeks_L15q]
      refine y1 (nI_le (Nat.le_refl w) (by omega)) ?_
      unfold w_X9_apart
      refine t_notWeeks ?_
      rw [e2]
      refine y1 rfl (t_think hm fun s e3 e4 => ?_)
      refine lo_rel (fun m i (z : Int32 × St) => w_X9_apart_L24 (nI w) _ m z.1 (nI i) z.2) (fun i z => z.1 = idF n nL i (cv st 11) ∧ RM n nL z.2 (wkF n nL i (cv st 11)) ∧ th mt z.2) ((0 : Int32), s) (Nat.zero_le w) ⟨rfl, e3, e4⟩ (fun z hJ m => ?_) (fun m i z _ hi hJ hk => ?_)
      · rw [w_X9_apart_L24, w_X9_apart_L24q]
        refine y1 (nI_le (Nat.le_refl w) (by omega)) ?_
        rw [w_X9_apart_b55]
        exact t_forget hJ.2.2 fun s' hh _ _ => ⟨hJ.1.symm, R_mind h zz hh.tf⟩
      · rw [w_X9_apart_L24, w_X9_apart_L24q]
        refine n1 (nI_ge hi (by omega)) (t_goesWeek hJ.2.1 fun s1 e5 e6 e7 => ?_)
        obtain ⟨b, cnt, f1, f2, f3, f4, f5, -⟩ := e7
        have b64 := p64 hL f2
        rw [f3]
        have nx : ∀ v : Int32, z.1 + v = idF n nL (i + 1) (cv st 11) → w_X9_apart_b47 (nI w) (fun v3 v4 st_1 => w_X9_apart_L24 (nI w) (fun r' mt' => fr 0 w (fun i (s : Int32) => if (weekF n nL (wkF n nL i (cv st 11))).1 = 0 then s + 1 else s) 0 = r' ∧ R (sv st 99 (wkF n nL w (cv st 11))) mt') m v3 v4 st_1) (fun r' mt' => fr 0 w (fun i (s : Int32) => if (weekF n nL (wkF n nL i (cv st 11))).1 = 0 then s + 1 else s) 0 = r' ∧ R (sv st 99 (wkF n nL w (cv st 11))) mt') (nI i) v z.1 s1 := fun v ev => by
          rw [w_X9_apart_b47, nI_inc]
          exact hk (z.1 + v, s1) ⟨ev, by rw [← weeks_s]; exact e5, hJ.2.2.wf e6⟩
        have es : idF n nL (i + 1) (cv st 11) = if (weekF n nL (wkF n nL i (cv st 11))).1 = 0 then idF n nL i (cv st 11) + 1 else idF n nL i (cv st 11) := fr_succ (Nat.zero_le i) _ _
        by_cases ec : cnt = 0
        · refine y2 ((nI_inj0 (by omega)).mpr ec) (nx 1 ?_)
          rw [es, f1, if_pos ((nI_inj0 (by omega)).mpr (f5.mp ec)), hJ.1]
        · refine n2 (fun y => ec ((nI_inj0 (by omega)).mp y)) (nx 0 ?_)
          rw [es, f1, if_neg (fun y => ec (f5.mpr ((nI_inj0 (by omega)).mp y))), hJ.1, Int32.add_zero]
    · rw [w_X4_idleWeeks_L15, w_X4_idleWeeks_L15q]
      refine n1 (nI_ge hi (by omega)) (s_week1 (vC_wkF hm.1) ?_)
      rw [weeks_s]
      by_cases eb : (weekF n nL (wkF n nL i (cv st 11))).1 = 0
      · rw [if_pos eb] at hk
        refine y2 eb ?_
        rw [w_X4_idleWeeks_b33, nI_inc]
        exact hk
      · rw [if_neg eb] at hk
        refine n2 eb ?_
        rw [w_X4_idleWeeks_b33, nI_inc]
        exact hk
  · refine n1 e2 (s_refused (rg_ok e2) ?_)
    unfold w_X9_apart
    exact t_notWeeks (n1 e2 (t_no (rg_ok e2) ⟨rfl, R_ref h (rg_ok e2)⟩))
theorem fstG_succ (P : Nat → Bool) (d i : Nat) : fstG P (d + 1) i = if P i then nI i else fstG P d (i + 1) := rfl
theorem x_weekOpened {st : St} {c0 : Ct} {n nL l : Nat} {K : Int32 → St → Prop} (hz : zC (cv st 11)) (h0 : zn c0) (hv : vC n nL (cv st 11)) (hl : l < 6) (h : ∀ c', zn c' → K (whF n nL l (cv st 11)) (sv st 99 c')) : w_X4_weekOpened (nI l) (sv st 99 c0) K := by
  unfold w_X4_weekOpened
  refine m_become hz h0 ?_
  have zz : ∀ i, zn (wkF n nL i (cv st 11)) := fun i => zn_wkF hv.1 hv.2.1 ⟨hz, nC_cv⟩
  refine lo_fst (W := fun m i => w_X4_weekOpened_L13 (nI l) K m (nI i) (sv st 99 (wkF n nL i (cv st 11)))) (P := opP n nL l (cv st 11)) (Q := fun v => ∀ c', zn c' → K v (sv st 99 c')) (Nat.zero_le 61) (fun hQ => ⟨1, ?_⟩) (fun i _ hi hP hQ => ⟨1, ?_⟩) (fun m i _ hi hP hw => ?_) h
  · rw [w_X4_weekOpened_L13, w_X4_weekOpened_L13q]
    exact y1 gt61 (hQ _ (zz 61))
  · rw [w_X4_weekOpened_L13, w_X4_weekOpened_L13q]
    refine n1 (gt60 hi) (m_isOpen (vC_wkF hv) hl ?_)
    unfold opP at hP
    rw [if_pos hP]
    exact n1 (by decide) (hQ _ (zz i))
  · rw [w_X4_weekOpened_L13, w_X4_weekOpened_L13q]
    refine n1 (gt60 hi) (m_isOpen (vC_wkF hv) hl ?_)
    unfold opP at hP
    rw [if_neg (by rw [hP]; decide)]
    refine y1 rfl (s_week1 (vC_wkF hv) ?_)
    rw [weeks_s, nI_inc]
    exact hw
theorem t_think26 {n nL : Nat} {mt : St} {c : Ct} {K : St → Prop} (h : RM n nL mt c) (hk : ∀ s, RM n nL s (bec c) → th mt s → s 0 26 = mt 0 26 → K s) : w_X9_thinks mt K := by
  refine t_thinks fun s h1 h2 h3 h4 => hk s ?_ ⟨h3, fun j a b c d => h1 j a c, fun a p q r t u v w => h2 a t u, h4⟩ (h2 26 (by decide) (by decide))
  refine RM_bec (RM_lv h (fun i hi => ?_) (h2 11 (by decide) (by decide)))
  unfold lvM
  rw [h1 2 (by decide) (by decide), h1 3 (by decide) (by decide), h1 4 (by decide) (by decide), h1 5 (by decide) (by decide), h1 6 (by decide) (by decide), h1 7 (by decide) (by decide), h1 8 (by decide) (by decide), h2 8 (by decide) (by decide), h2 9 (by decide) (by decide), h2 10 (by decide) (by decide)]
/-- behind how many weeks first, and by whom, on the check's side -/
theorem t_whenOf {n nL l : Nat} {mt : St} {c : Ct} {K : Int32 → St → Prop} (hm : RM n nL mt c) (hl : l < nL) (hk : ∀ mt', hf mt mt' → mt' 0 26 = wkF n nL 60 c 7 l → K (whF n nL l c) mt') : w_X9_whenOf (nI l) mt K := by
  have hL := hm.1.2.1
  have a4 := (hm.2.2.2.2.2.2.2 l hl).2.2.2
  have cl : (nI l).toNatClampNeg = l := clI (show l < 6 by omega) (by decide)
  unfold w_X9_whenOf
  rw [cl, u2_off (show (8 : Nat) ≠ 0 by decide), a4]
  refine ⟨vp_in_nI (by omega) (by decide), ?_⟩
  have h1 : RM n nL (u2 mt 0 26 (-9)) c := RM_hf hm hf_u26
  by_cases eb : (ob c).testBit l = true
  · rw [if_pos eb]
    refine y2 rfl ?_
    have e : whF n nL l c = 0 := (fstG_succ (opP n nL l c) 60 0).trans (if_pos (by rw [opP_0, eb]))
    have := hk (u2 mt 0 26 (-9)) hf_u26 (by rw [u2_same, by_open hm.1 (by omega) eb])
    rwa [e] at this
  · rw [if_neg eb]
    have eb' : (ob c).testBit l = false := by
      cases z : (ob c).testBit l with
      | false => rfl
      | true => exact absurd z eb
    refine n2 (by decide) (t_think26 h1 fun s e3 e4 e26 => ?_)
    have e4' : th mt s := ⟨fun i hi => (e4.1 i hi).trans (hf_u26.1 i hi), fun j p q r t => (e4.2.1 j p q r t).trans (u2_off p), fun a p q r t u v w => (e4.2.2.1 a p q r t u v w).trans (u2_ne (Or.inr w)), fun a p => (e4.2.2.2 a p).trans (by rw [u2_off (by decide)])⟩
    have e : whF n nL l c = fstG (opP n nL l c) 60 1 := (fstG_succ (opP n nL l c) 60 0).trans (if_neg (by rw [opP_0, eb']; decide))
    obtain ⟨v, hv⟩ : ∃ v, v = whF n nL l c := ⟨_, rfl⟩
    rw [← hv] at hk
    rw [e] at hv
    -- the loop keeps byWhom till something is found
    have s26 : s 0 26 = -9 := e26.trans u2_same
    have first : ∀ j, j < 1 → opP n nL l c j = false := fun j hj => by
      have : j = 0 := by omega
      subst this
      exact eb'
    show ∃ n, w_X9_whenOf_L27 (nI l) K n (-9) (nI 1) s
    · refine lo_fstJ (W := fun m i s => w_X9_whenOf_L27 (nI l) K m (-9) (nI i) s) (P := opP n nL l c) (Q := fun x => x = v) (J := fun i s => RM n nL s (wkF n nL (i - 1) c) ∧ th mt s ∧ s 0 26 = -9 ∧ ∀ j, j < i → opP n nL l c j = false) (show 1 ≤ 61 by decide) ⟨e3, e4', s26, first⟩ (fun m s hJ hQ => ?_) (fun m i s h1' hi hJ hP hQ => ?_) (fun m i s h1' hi hJ hP hw => ?_) hv.symm
      · rw [w_X9_whenOf_L27, w_X9_whenOf_L27q]
        refine y1 gt61 ?_
        rw [w_X9_whenOf_b71, hQ]
        refine t_forget hJ.2.1 fun s' hh _ h26 => hk s' hh ?_
        rw [h26, hJ.2.2.1, by_none hm.1 (by omega) (hJ.2.2.2 60 (by decide))]
      · rw [w_X9_whenOf_L27, w_X9_whenOf_L27q]
        refine n1 (gt60 hi) (n1 (by decide) (t_goesWeek hJ.1 fun s1 e5 e6 e7 => ?_))
        rw [weeks_s, show i - 1 + 1 = i by omega] at e5
        rw [cl, (e5.2.2.2.2.2.2.2 l hl).2.2.2]
        unfold opP at hP
        refine ⟨vp_in_nI (by omega) (by decide), ?_⟩
        rw [if_pos hP]
        refine n2 (by decide) ⟨vp_in_nI (by omega) (by decide), ?_⟩
        rw [w_X9_whenOf_b65]
        obtain ⟨b, cnt, f1, f2, f3, f4, f5, f6⟩ := e7
        -- opened in this very week
        obtain ⟨hv, b', g1, g2, g3⟩ := week_N (vC_wkF (i := i - 1) hm.1)
        have ebb : b = b' := nI_eqI (by have := p64 hL f2; omega) (by have := p64 hL g2; omega) (f1.symm.trans g1)
        subst ebb
        have prev : opP n nL l c (i - 1) = false := hJ.2.2.2 (i - 1) (by omega)
        have bt : b.testBit l = true := by
          have := (g3 l).1
          unfold opP at prev
          rw [weeks_s, show i - 1 + 1 = i by omega, hP, prev, Bool.false_or] at this
          exact this.symm
        have e14 : s1 14 l = wkF n nL 60 c 7 l := by
          have := f6 l hl
          rw [if_pos bt, weeks_s, show i - 1 + 1 = i by omega] at this
          rw [this]
          exact (by_later hm.1 (show i ≤ 60 by omega) hP).symm
        have fin : w_X9_whenOf_b71 (nI l) K (nI i) (u2 s1 0 26 (s1 14 l)) := by
          rw [w_X9_whenOf_b71, hQ]
          refine t_forget (th_u26 (hJ.2.1.wf e6)) fun s' hh _ h26 => hk s' hh ?_
          rw [h26, u2_same, e14]
        rw [w_X9_whenOf_L27, w_X9_whenOf_L27q]
        exact ⟨fun _ => fin, fun _ => y1 (n_le0 (by omega)) fin⟩
      · rw [w_X9_whenOf_L27, w_X9_whenOf_L27q]
        refine n1 (gt60 hi) (n1 (by decide) (t_goesWeek hJ.1 fun s1 e5 e6 e7 => ?_))
        rw [weeks_s, show i - 1 + 1 = i by omega] at e5
        rw [cl, (e5.2.2.2.2.2.2.2 l hl).2.2.2]
        have hP' := hP
        unfold opP at hP'
        refine ⟨vp_in_nI (by omega) (by decide), ?_⟩
        rw [if_neg (by rw [hP']; decide)]
        refine y2 rfl ?_
        rw [w_X9_whenOf_b65, nI_inc]
        refine hw s1 ⟨by rw [Nat.add_sub_cancel]; exact e5, hJ.2.1.wf e6, by rw [e6.2 26 (by decide) (by decide)]; exact hJ.2.2.1, fun j hj => ?_⟩
        by_cases ej : j = i
        · subst ej; exact hP
        · exact hJ.2.2.2 j (by omega)
theorem sim_when {st mt : St} (h : R st mt) (x1 x2 : Int32) : w_X8_when x1 x2 st (fun r st' => w_X9_when x1 x2 mt (fun r' mt' => r = r' ∧ R st' mt')) := by
  obtain ⟨n, nL, hm, g, hn, hL, h7, h8, k8, k9⟩ := h.ctx
  unfold w_X8_when
  refine s_letterRef h8 (s_choice (s_firstOf ?_))
  by_cases e1 : isF nL x1 = 0
  · rw [nb0 e1, f1 (by decide)]
    refine n1 (by decide) (s_refused rO1 ?_)
    unfold w_X9_when
    refine t_isLetter k9 (y2 e1 ?_)
    rw [w_X9_when_b27]
    exact n1 (by decide) (t_no rO1 ⟨rfl, R_ref h rO1⟩)
  · rw [nb1 e1, f0]
    obtain ⟨l, hl, rfl⟩ := isF_1 (by omega) e1
    by_cases e2 : inF x2 0 1 = 0
    · rw [ch_out e2, if_neg (by decide)]
      refine n1 (by decide) (s_refused rO2 ?_)
      unfold w_X9_when
      refine t_isLetter k9 (n2 e1 (t_isIn' (y2 e2 ?_)))
      rw [w_X9_when_b27]
      exact n1 (by decide) (t_no rO2 ⟨rfl, R_ref h rO2⟩)
    · rw [ch_in e2, if_pos rfl]
      have key : ∀ K : Int32 → St → Prop, (∀ mt', hf mt mt' → (x2 = 0 → K (whF n nL l (cv st 11)) mt') ∧ (¬ x2 = 0 → K (wkF n nL 60 (cv st 11) 7 l) mt')) → w_X9_when (nI l) x2 mt K := fun K hK => by
        unfold w_X9_when
        refine t_isLetter k9 (n2 e1 (t_isIn' (n2 e2 ?_)))
        rw [w_X9_when_b27]
        refine y1 rfl (t_whenOf hm hl fun mt' hh h26 => ⟨fun z => ?_, fun z => (hK mt' hh).1 z⟩)
        rw [h26]
        exact (hK mt' hh).2 z
      refine y1 rfl ⟨fun z => mind0 (fun s => w_X4_openedBy (nI l) s _) (fun c0 z0 => ?_) h.z99, fun z => mind0 (fun s => w_X4_weekOpened (nI l) s _) (fun c0 z0 => x_weekOpened h.z11 z0 hm.1 (by omega) fun c' zc => key _ fun mt' hh => ⟨fun _ => ⟨rfl, R_mind h zc hh.tf⟩, fun y => absurd z y⟩) h.z99⟩
      unfold w_X4_openedBy
      refine m_become h.z11 z0 (m_passWeeks (w := 60) (by decide) hm.1 (m_openedBy (by omega) (key _ fun mt' hh => ⟨fun y => absurd y z, fun _ => ⟨rfl, R_mind h (zn_wkF hn hL ⟨h.z11, nC_cv⟩) hh.tf⟩⟩)))
end
section
/-! pure part: never, insult, two -/
/-- letter l is opened in week n, first -/
def Fst (n nL : Nat) (c : Ct) (l w : Nat) : Prop := 1 ≤ w ∧ w ≤ 60 ∧ opP n nL l c w = true ∧ opP n nL l c (w - 1) = false
theorem Fst_1 {n nL l w w' : Nat} {c : Ct} (hv : vC n nL c) (h : Fst n nL c l w) (h' : Fst n nL c l w') : w = w' := by
  obtain ⟨a1, a2, a3, a4⟩ := h
  obtain ⟨b1, b2, b3, b4⟩ := h'
  rcases Nat.lt_trichotomy w w' with z | z | z
  · rw [opP_m hv (show w ≤ w' - 1 by omega) a3] at b4; cases b4
  · exact z
  · rw [opP_m hv (show w' ≤ w - 1 by omega) b3] at a4; cases a4
theorem wh_cases {n nL l : Nat} {c : Ct} (hv : vC n nL c) : ((whF n nL l c = -9 ∨ whF n nL l c = 0) ∧ ∀ w, ¬ Fst n nL c l w) ∨ ∃ w, whF n nL l c = nI w ∧ Fst n nL c l w := by
  rcases fstG_some (P := opP n nL l c) 61 0 with ⟨h1, h2⟩ | ⟨w, h1, h2, h3, h4, h5⟩
  · refine Or.inl ⟨Or.inl h1, fun w hw => ?_⟩
    have := h2 w (Nat.zero_le w) (by have := hw.2.1; omega)
    rw [hw.2.2.1] at this; cases this
  · by_cases e : w = 0
    · subst e
      refine Or.inl ⟨Or.inr h3, fun w hw => ?_⟩
      have := opP_m hv (Nat.zero_le (w - 1)) h4
      rw [hw.2.2.2] at this; cases this
    · exact Or.inr ⟨w, h3, by omega, by omega, h4, h5 (w - 1) (Nat.zero_le _) (by omega)⟩
/-- what `first` asks for -/
def ChF (n nL : Nat) (c : Ct) (e : Nat) (v : Int32) (so : Nat) : Prop :=
  (v = -9 ∧ so = 61 ∧ ∀ l, l < e → ∀ w, ¬ Fst n nL c l w) ∨ ∃ l, v = nI l ∧ l < e ∧ Fst n nL c l so ∧ ∀ l' w', l' < e → Fst n nL c l' w' → so < w' ∨ (so = w' ∧ l ≤ l')
theorem ChF_1 {n nL e : Nat} {c : Ct} {v v' : Int32} {s s' : Nat} (h : ChF n nL c e v s) (h' : ChF n nL c e v' s') : v = v' := by
  rcases h with ⟨a1, -, a3⟩ | ⟨l, a1, a2, a3, a4⟩
  · rcases h' with ⟨b1, -, -⟩ | ⟨l', b1, b2, b3, -⟩
    · rw [a1, b1]
    · exact absurd b3 (a3 l' b2 s')
  · rcases h' with ⟨b1, -, b3⟩ | ⟨l', b1, b2, b3, b4⟩
    · exact absurd a3 (b3 l a2 s)
    · have c1 := a4 l' s' b2 b3
      have c2 := b4 l s a2 a3
      have : l = l' := by omega
      rw [a1, b1, this]
theorem x_firstOpened {st : St} {c0 : Ct} {n nL : Nat} {K : Int32 → St → Prop} (hz : zC (cv st 11)) (h0 : zn c0) (hv : vC n nL (cv st 11)) (h : ∀ v so c', ChF n nL (cv st 11) nL v so → zn c' → K v (sv st 99 c')) : w_X4_firstOpened (sv st 99 c0) K := by
  have hL := hv.2.1
  unfold w_X4_firstOpened
  refine m_become hz h0 ?_
  have zz : ∀ i, zn (wkF n nL i (cv st 11)) := fun i => zn_wkF hv.1 hv.2.1 ⟨hz, nC_cv⟩
  show ∃ m, w_X4_firstOpened_L13 K m (nI 1) (sv st 99 (wkF n nL (1 - 1) (cv st 11)))
  refine lo_rel (fun m i (_ : Unit) => w_X4_firstOpened_L13 K m (nI i) (sv st 99 (wkF n nL (i - 1) (cv st 11)))) (fun i _ => ∀ l, l < nL → ∀ w, w < i → ¬ Fst n nL (cv st 11) l w) () (show 1 ≤ 61 by decide) (fun l _ w hw hf => by have := hf.1; omega) (fun _ hI m => ?_) (fun m i _ h1 hi hI hw => ?_)
  · rw [w_X4_firstOpened_L13, w_X4_firstOpened_L13q]
    exact y1 gt61 (h (-9) 61 _ (Or.inl ⟨rfl, rfl, fun l hl w hf => hI l hl w (by have := hf.2.1; omega) hf⟩) (zz 60))
  · rw [w_X4_firstOpened_L13, w_X4_firstOpened_L13q]
    refine n1 (gt60 hi) (s_week1 (vC_wkF hv) ?_)
    rw [weeks_s, show i - 1 + 1 = i by omega]
    obtain ⟨hv', b, g1, g2, g3⟩ := week_N (vC_wkF (i := i - 1) hv)
    rw [g1]
    rw [weeks_s, show i - 1 + 1 = i by omega] at g3
    have bt : ∀ l, b.testBit l = true ↔ Fst n nL (cv st 11) l i := fun l => by
      have q := g3 l
      unfold Fst opP
      constructor
      · intro z
        refine ⟨h1, by omega, by rw [q.1, z, Bool.or_true], ?_⟩
        cases y : (ob (wkF n nL (i - 1) (cv st 11))).testBit l with
        | false => rfl
        | true => rw [q.2.1 y] at z; cases z
      · intro z
        have := q.1
        rw [z.2.2.1, z.2.2.2, Bool.false_or] at this
        exact this.symm
    have b256 : b < 256 := by have := p64 hL g2; omega
    refine lo_fst (W := fun k l => w_X4_firstOpened_L29 (fun v1 st => w_X4_firstOpened_L13 K m v1 st) K k (nI i) (nI b) (nI l) (sv st 99 (wkF n nL i (cv st 11)))) (P := fun l => b.testBit l) (Q := fun v => v = fstG (fun l => b.testBit l) 6 0) (Nat.zero_le 6) (fun hQ => ⟨1, ?_⟩) (fun l _ hl hP hQ => ⟨1, ?_⟩) (fun k l _ hl hP hk => ?_) rfl
    · rw [w_X4_firstOpened_L29, w_X4_firstOpened_L29q]
      refine y1 (nI_le (Nat.le_refl 6) (by decide)) ?_
      rw [w_X4_firstOpened_b52, nI_inc]
      refine hw () fun l hl w hwi hf => ?_
      by_cases e : w = i
      · subst e
        rcases fstG_some (P := fun l => b.testBit l) 6 0 with ⟨-, z2⟩ | ⟨w', z1, z2, z3, z4, -⟩
        · have := z2 l (Nat.zero_le l) (by omega)
          rw [(bt l).mpr hf] at this; cases this
        · have : (-9 : Int32) = nI w' := hQ.trans z3
          exact absurd (show nI w' < 0 by rw [← this]; decide) (n_lt0 (by omega))
      · exact hI l hl w (by omega) hf
    · rw [w_X4_firstOpened_L29, w_X4_firstOpened_L29q]
      refine n1 (nI_ge hl (by decide)) (s_bitN b256 (by omega) ?_)
      rw [if_pos hP]
      have fl := (bt l).mp hP
      have lL : l < nL := by
        refine Nat.not_le.mp fun z => ?_
        have := Nat.testBit_lt_two_pow (Nat.lt_of_lt_of_le g2 (Nat.pow_le_pow_right (by decide) z))
        rw [hP] at this; cases this
      refine y2 rfl (h (nI l) i _ (Or.inr ⟨l, rfl, lL, fl, fun l' w' hl' hf' => ?_⟩) (zz i))
      by_cases e : w' < i
      · exact absurd hf' (hI l' hl' w' e)
      · by_cases e2 : w' = i
        · subst e2
          refine Or.inr ⟨rfl, ?_⟩
          rcases fstG_some (P := fun l => b.testBit l) 6 0 with ⟨z1, -⟩ | ⟨w2, z1, z2, z3, z4, z5⟩
          · have : nI l = -9 := hQ.trans z1
            exact absurd (show nI l < 0 by rw [this]; decide) (n_lt0 (by omega))
          · have e3 : l = w2 := nI_eqI (by omega) (by omega) (hQ.trans z3)
            subst e3
            refine Nat.not_lt.mp fun y => ?_
            have := z5 l' (Nat.zero_le _) y
            rw [(bt l').mpr hf'] at this; cases this
        · exact Or.inl (by omega)
    · rw [w_X4_firstOpened_L29, w_X4_firstOpened_L29q]
      refine n1 (nI_ge hl (by decide)) (s_bitN b256 (by omega) ?_)
      rw [if_neg (by rw [hP]; decide)]
      refine n2 (by decide) ?_
      rw [nI_inc]
      exact hk
theorem t_firstOne {n nL : Nat} {mt : St} {c : Ct} {K : Int32 → St → Prop} (hm : RM n nL mt c) (hk : ∀ v so mt', ChF n nL c nL v so → hf mt mt' → K v mt') : w_X9_firstOne mt K := by
  have hL := hm.1.2.1
  have hv := hm.1
  unfold w_X9_firstOne
  show ∃ m, w_X9_firstOne_L8 K m (-9) (nI 61) (nI 0) mt
  refine lo_rel (fun m l (z : Int32 × Nat × St) => w_X9_firstOne_L8 K m z.1 (nI z.2.1) (nI l) z.2.2) (fun l z => ChF n nL c l z.1 z.2.1 ∧ z.2.1 ≤ 61 ∧ hf mt z.2.2) ((-9 : Int32), 61, mt) (Nat.zero_le nL) ⟨Or.inl ⟨rfl, rfl, fun l hl => absurd hl (Nat.not_lt_zero l)⟩, Nat.le_refl 61, hf_rf⟩ (fun z hI m => ?_) (fun m l z _ hl hI hw => ?_)
  · obtain ⟨i1, i2, i3⟩ := hI
    have hm' := RM_hf hm i3
    rw [w_X9_firstOne_L8, w_X9_firstOne_L8q, hm'.2.2.2.1]
    exact y1 (nI_le (Nat.le_refl nL) (by omega)) (hk _ _ _ i1 i3)
  · obtain ⟨i1, i2, i3⟩ := hI
    have hm' := RM_hf hm i3
    rw [w_X9_firstOne_L8, w_X9_firstOne_L8q, hm'.2.2.2.1]
    refine n1 (nI_ge hl (by omega)) (t_whenOf hm' hl fun s' hh _ => ?_)
    have keep : ChF n nL c (l + 1) z.1 z.2.1 → w_X9_firstOne_b42 (fun v1 v2 v3 st => w_X9_firstOne_L8 K m v1 v2 v3 st) K z.1 (nI z.2.1) (nI l) s' := fun q => by
      rw [w_X9_firstOne_b42, nI_inc]
      exact hw (z.1, z.2.1, s') ⟨q, i2, i3.tr hh⟩
    rcases wh_cases (l := l) hv with ⟨e1, e2⟩ | ⟨w, e1, e2⟩
    · have le0 : whF n nL l c ≤ 0 := by rcases e1 with e | e <;> rw [e] <;> decide
      refine y1 le0 (keep ?_)
      rcases i1 with ⟨a1, a2, a3⟩ | ⟨l0, a1, a2, a3, a4⟩
      · refine Or.inl ⟨a1, a2, fun l' hl' w' hf' => ?_⟩
        by_cases e : l' = l
        · subst e; exact e2 w' hf'
        · exact a3 l' (by omega) w' hf'
      · refine Or.inr ⟨l0, a1, by omega, a3, fun l' w' hl' hf' => ?_⟩
        by_cases e : l' = l
        · subst e; exact absurd hf' (e2 w')
        · exact a4 l' w' (by omega) hf'
    · rw [e1]
      have w1 := e2.1
      have w60 := e2.2.1
      refine n1 (fun y => absurd ((nJ_le (b := 0) (by omega) (by decide)).mp y) (by omega)) ?_
      by_cases lt : w < z.2.1
      · refine y1 ((nJ_lt (by omega) (by omega)).mpr lt) ?_
        rw [w_X9_firstOne_b42, nI_inc]
        refine hw (nI l, w, s') ⟨Or.inr ⟨l, rfl, by omega, e2, fun l' w' hl' hf' => ?_⟩, by show w ≤ 61; omega, i3.tr hh⟩
        by_cases e : l' = l
        · subst e; exact Or.inr ⟨Fst_1 hv e2 hf', Nat.le_refl _⟩
        · rcases i1 with ⟨a1, a2, a3⟩ | ⟨l0, a1, a2, a3, a4⟩
          · exact absurd hf' (a3 l' (by omega) w')
          · have := a4 l' w' (by omega) hf'
            exact Or.inl (show w < w' by omega)
      · refine n1 (fun y => lt ((nJ_lt (by omega) (by omega)).mp y)) (keep ?_)
        rcases i1 with ⟨a1, a2, a3⟩ | ⟨l0, a1, a2, a3, a4⟩
        · omega
        · refine Or.inr ⟨l0, a1, by omega, a3, fun l' w' hl' hf' => ?_⟩
          by_cases e : l' = l
          · subst e
            have := Fst_1 hv e2 hf'
            omega
          · exact a4 l' w' (by omega) hf'
theorem sim_never {st mt : St} (h : R st mt) (x1 : Int32) : w_X8_never x1 st (fun r st' => w_X9_never x1 mt (fun r' mt' => r = r' ∧ R st' mt')) := by
  obtain ⟨n, nL, hm, g, hn, hL, h7, h8, k8, k9⟩ := h.ctx
  unfold w_X8_never
  refine s_choice ?_
  by_cases e : inF x1 0 1 = 0
  · rw [ch_out e]
    refine n1 (by decide) (s_refused rO2 ?_)
    unfold w_X9_never
    exact t_isIn' (y2 e (t_no rO2 ⟨rfl, R_ref h rO2⟩))
  · rw [ch_in e]
    refine y1 rfl ⟨fun z => mind0 (fun s => w_X4_firstOpened s _) (fun c0 z0 => x_firstOpened h.z11 z0 hm.1 fun v so c' hc zc => ?_) h.z99, fun z => mind0 (fun s => w_X4_sealedFar s _) (fun c0 z0 => ?_) h.z99⟩
    · unfold w_X9_never
      exact t_isIn' (n2 e (n2 z (t_firstOne hm fun v' so' mt' hc' hh => ⟨ChF_1 hc hc', R_mind h zc hh.tf⟩)))
    · unfold w_X4_sealedFar w_X1_letterCount
      rw [o11, h8]
      refine x_openBitsAfter (w := 60) h.z11 z0 hm.1 (by decide) fun c' zc => ?_
      unfold w_X9_never
      refine t_isIn' (n2 e (y2 z (t_openIn (w := 60) (by decide) hm fun mt' hh => ⟨?_, R_mind h zc hh.tf⟩)))
      rw [k9]
/-- the name of a two -/
def nmF (p q : Nat) : Int32 := nI (10 * min p q + max p q)
theorem nm_ne {p q : Nat} (hp : p < 6) (hq : q < 6) : (-9 : Int32) ≠ nmF p q := fun z => by
  have : nmF p q < 0 := by rw [← z]; decide
  exact absurd this (n_lt0 (by omega))
theorem t_isOpenedBy {n nL p q l : Nat} {mt : St} {c : Ct} {K : Int32 → St → Prop} (hm : RM n nL mt c) (hp : p < n) (hq : q < n) (hpq : p ≠ q) (hl : l < nL) (hs : (ob c).testBit l = false)
    (hk : ∀ mt', hf mt mt' → K (if wkF n nL 1 c 7 l = nmF p q then 1 else 0) mt') : w_X9_isOpenedBy (nI p) (nI q) (nI l) mt K := by
  have hn := hm.1.1
  have hL := hm.1.2.1
  have cl : (nI l).toNatClampNeg = l := clI (show l < 6 by omega) (by decide)
  unfold w_X9_isOpenedBy
  refine t_think hm fun s e3 e4 => t_goesWeek e3 fun s1 e5 e6 e7 => ?_
  have e5' : RM n nL s1 (wkF n nL 1 c) := e5
  rw [cl, (e5'.2.2.2.2.2.2.2 l hl).2.2.2]
  have vi : vp_in (nI l) 6 := vp_in_nI (by omega) (by decide)
  have fin : ∀ v : Int32, (v = 0 ∨ v = 1) → (if wkF n nL 1 c 7 l = nmF p q then 1 else 0) = v → w_X9_isOpenedBy_b52 (nI p) (nI q) (nI l) K v s1 := fun v hv e => by
    rw [w_X9_isOpenedBy_b52]
    refine t_forget (e4.wf e6) fun s' hh _ _ => ⟨hv, ?_⟩
    rw [← e]
    exact hk s' hh
  refine ⟨vi, ?_⟩
  by_cases eb : (ob (wkF n nL 1 c)).testBit l = true
  · rw [if_pos eb]
    refine y2 rfl ⟨vi, ?_⟩
    obtain ⟨b, cnt, f1, f2, f3, f4, f5, f6⟩ := e7
    obtain ⟨hv, b', g1, g2, g3⟩ := week_N (vC_bec hm.1)
    have ebb : b = b' := nI_eqI (by have := p64 hL f2; omega) (by have := p64 hL g2; omega) (f1.symm.trans g1)
    subst ebb
    have bt : b.testBit l = true := by
      have := (g3 l).1
      rw [ob_bec, hs, Bool.false_or] at this
      rw [← this]
      exact eb
    have e14 : s1 14 l = wkF n nL 1 c 7 l := by
      have := f6 l hl
      rw [if_pos bt] at this
      exact this
    rw [e14]
    have fin2 : w_X9_isOpenedBy_b44 (nI p) (nI q) (nI l) K (nmF p q) (wkF n nL 1 c 7 l) s1 := by
      rw [w_X9_isOpenedBy_b44]
      by_cases en : wkF n nL 1 c 7 l = nmF p q
      · exact y2 en (fin 1 (Or.inr rfl) (if_pos en))
      · refine n2 en ?_
        rw [w_X9_isOpenedBy_b51]
        exact fin 0 (Or.inl rfl) (if_neg en)
    by_cases lt : q ≤ p
    · refine y1 (nI_le lt (by omega)) ?_
      rw [n10 q (by omega) p (by omega)]
      unfold nmF at fin2
      rw [show min p q = q by omega, show max p q = p by omega] at fin2
      exact fin2
    · refine n1 (fun z => lt ((nJ_le (by omega) (by omega)).mp z)) ?_
      rw [n10 p (by omega) q (by omega)]
      unfold nmF at fin2
      rw [show min p q = p by omega, show max p q = q by omega] at fin2
      exact fin2
  · rw [if_neg eb]
    refine n2 (by decide) ?_
    rw [w_X9_isOpenedBy_b51]
    refine fin 0 (Or.inl rfl) (if_neg ?_)
    have : opP n nL l c 1 = false := by
      unfold opP
      cases z : (ob (wkF n nL 1 c)).testBit l with
      | false => rfl
      | true => exact absurd z eb
    rw [by_none hm.1 (by omega) this]
    exact nm_ne (by omega) (by omega)
/-- the country with one two hating more -/
def moF (c : Ct) (p q v : Nat) : Ct := u2 c 4 (hI p q) (heldF (c 4 (hI p q) + nI v))
def inP (n nL p q l : Nat) (c : Ct) (v : Nat) : Bool := decide (wkF n nL 1 (moF c p q v) 7 l = nmF p q)
theorem sets_id {mt : St} {p q : Nat} {v : Int32} (h1 : mt 5 (6 * p + q) = v) (h2 : mt 5 (6 * q + p) = v) : setsF mt p q v = mt := by
  unfold setsF
  rw [u2_id h1, u2_id h2]
theorem setsF2 {s : St} {p q : Nat} {v : Int32} : setsF s p q v 5 (6 * q + p) = v := u2_same
theorem gt99 {i : Nat} (hi : i < 100) : ¬ 99 < nI i := i_nlt.mpr (nI_le (show i ≤ 99 by omega) (by decide))
theorem sim_insult {st mt : St} (h : R st mt) (x1 x2 x3 : Int32) : w_X8_insult x1 x2 x3 st (fun r st' => w_X9_insult x1 x2 x3 mt (fun r' mt' => r = r' ∧ R st' mt')) := by
  obtain ⟨n, nL, hm, g, hn, hL, h7, h8, k8, k9⟩ := h.ctx
  have main : ∀ v : Int32, (∀ l, l < nL → x3 = nI l → ((ob (cv st 11)).testBit l = true ∧ v = -3) ∨ ((ob (cv st 11)).testBit l = false ∧ v = 0)) → w_X8_insult_b17 x1 x2 x3 (fun r st' => w_X9_insult x1 x2 x3 mt (fun r' mt' => r = r' ∧ R st' mt')) v st := by
    intro v hv
    rw [w_X8_insult_b17]
    refine s_twoRef h7 (s_letterRef h8 (s_firstOf ?_))
    by_cases e1 : twF n x1 x2 = 0
    · rw [nb0 e1, f1 (by decide)]
      refine n1 (by decide) (s_refused rO1 ?_)
      unfold w_X9_insult
      refine t_areTwo k8 (y1 e1 ?_)
      rw [w_X9_insult_b17, w_X9_insult_b37]
      exact n1 (by decide) (t_no rO1 ⟨rfl, R_ref h rO1⟩)
    · rw [nb1 e1]
      by_cases e2 : isF nL x3 = 0
      · rw [nb0 e2, f01 (by decide)]
        refine n1 (by decide) (s_refused rO1 ?_)
        unfold w_X9_insult
        refine t_areTwo k8 (n1 e1 (t_isLetter k9 (y2 e2 ?_)))
        rw [w_X9_insult_b17, w_X9_insult_b37]
        exact n1 (by decide) (t_no rO1 ⟨rfl, R_ref h rO1⟩)
      · rw [nb1 e2, f00]
        obtain ⟨l, hl, rfl⟩ := isF_1 (by omega) e2
        obtain ⟨p, q, hp, hq, hpq, rfl, rfl⟩ := twF_1 (by omega) e1
        have cl : (nI l).toNatClampNeg = l := clI (show l < 6 by omega) (by decide)
        have vi : vp_in (nI l) 6 := vp_in_nI (by omega) (by decide)
        have a4 := (hm.2.2.2.2.2.2.2 l hl).2.2.2
        rcases hv l hl rfl with ⟨eb, rfl⟩ | ⟨eb, rfl⟩
        · refine n1 (by decide) (s_refused rO3 ?_)
          unfold w_X9_insult
          refine t_areTwo k8 (n1 e1 (t_isLetter k9 (n2 e2 ⟨vi, ?_⟩)))
          rw [cl, a4, if_pos eb]
          refine y2 rfl ?_
          rw [w_X9_insult_b37]
          exact n1 (by decide) (t_no rO3 ⟨rfl, R_ref h rO3⟩)
        · refine y1 rfl (mind0 (fun s => w_X4_leastInsult (nI p) (nI q) (nI l) s _) (fun c0 z0 => ?_) h.z99)
          have rm : ∀ s i, hf (setsF mt p q (moF (cv st 11) p q i 4 (hI p q))) s → RM n nL s (moF (cv st 11) p q i) := fun s i hs => by
            have := RM_sets (v := moF (cv st 11) p q i 4 (hI p q)) hm hp hq hpq (by unfold moF; rw [u2_same]; exact (heldF_in _).1) (by unfold moF; rw [u2_same]; exact (heldF_in _).2)
            have e : u2 (cv st 11) 4 (hI p q) (moF (cv st 11) p q i 4 (hI p q)) = moF (cv st 11) p q i := by
              unfold moF
              rw [u2_same]
            rw [e] at this
            exact RM_hf this hs
          have vmo : ∀ i, vC n nL (moF (cv st 11) p q i) := fun i => vC_u4 hm.1 (by decide) (by decide)
          have zmo : ∀ i, zn (moF (cv st 11) p q i) := fun i => zn_hate ⟨h.z11, nC_cv⟩ (by omega) (by omega)
          have zw : ∀ i, zn (wkF n nL 1 (moF (cv st 11) p q i)) := fun i => zn_wkF hn hL (zmo i)
          have mo_e : ∀ i, u2 (bec (cv st 11)) 4 (hI p q) (heldF (cv st 11 4 (hI p q) + nI i)) = bec (moF (cv st 11) p q i) := fun i => (bec_u2 (by decide)).symm
          unfold w_X4_leastInsult
          refine lo_fstJ (W := fun m i s => w_X4_leastInsult_L3 (nI p) (nI q) (nI l) _ m (nI i) s) (P := inP n nL p q l (cv st 11)) (Q := fun v => ∀ c', zn c' → w_X9_insult (nI p) (nI q) (nI l) mt (fun r' mt' => v = r' ∧ R (sv st 99 c') mt')) (J := fun i s => ∃ c', zn c' ∧ s = sv st 99 c') (Nat.zero_le 100) ⟨c0, z0, rfl⟩ (fun m s hJ hQ => ?_) (fun m i s _ hi hJ hP hQ => ?_) (fun m i s _ hi hJ hP hw => ?_) ?_
          · obtain ⟨c', zc, rfl⟩ := hJ
            rw [w_X4_leastInsult_L3, w_X4_leastInsult_L3q]
            exact y1 (by decide) (hQ c' zc)
          · obtain ⟨c', zc, rfl⟩ := hJ
            rw [w_X4_leastInsult_L3, w_X4_leastInsult_L3q]
            refine n1 (gt99 hi) (m_become h.z11 zc (x_hateOf (by omega) (by omega) ?_))
            rw [c11]
            refine s_setHate (by omega) (by omega) ?_
            rw [mo_e]
            refine s_week1 (vC_bec (vmo i)) ?_
            show w_X1_openedBy 99 (nI l) (sv st 99 (wkF n nL 1 (moF (cv st 11) p q i))) _
            exact m_openedBy (by omega) (s_twoName (by omega) (by omega) (y2 (of_decide_eq_true hP) (hQ _ (zw i))))
          · obtain ⟨c', zc, rfl⟩ := hJ
            rw [w_X4_leastInsult_L3, w_X4_leastInsult_L3q]
            refine n1 (gt99 hi) (m_become h.z11 zc (x_hateOf (by omega) (by omega) ?_))
            rw [c11]
            refine s_setHate (by omega) (by omega) ?_
            rw [mo_e]
            refine s_week1 (vC_bec (vmo i)) ?_
            show w_X1_openedBy 99 (nI l) (sv st 99 (wkF n nL 1 (moF (cv st 11) p q i))) _
            refine m_openedBy (by omega) (s_twoName (by omega) (by omega) (n2 (of_decide_eq_false hP) ?_))
            rw [nI_inc]
            exact hw _ ⟨_, zw i, rfl⟩
          · intro c' zc
            unfold w_X9_insult
            refine t_areTwo k8 (n1 e1 (t_isLetter k9 (n2 e2 ⟨vi, ?_⟩)))
            rw [cl, a4, if_neg (by rw [eb]; decide)]
            refine n2 (by decide) ?_
            rw [w_X9_insult_b37]
            refine y1 rfl (t_hateOf (by omega) (by omega) ?_)
            have ho := hm.hate hp hq hpq
            have ho2 := hm.hate hq hp (Ne.symm hpq)
            rw [hI_comm] at ho2
            rw [ho]
            have fin : ∀ w s v, hf (setsF mt p q w) s → v = fstG (inP n nL p q l (cv st 11)) (100 - 0) 0 → w_X9_insult_b120 (nI p) (nI q) (nI l) (fun r' mt' => fstG (inP n nL p q l (cv st 11)) (100 - 0) 0 = r' ∧ R (sv st 99 c') mt') (cv st 11 4 (hI p q)) v s := fun w s v hs hv => by
              rw [w_X9_insult_b120]
              exact t_sets (by omega) (by omega) ⟨hv.symm, R_mind h zc (hf_unset hs (by omega) (by omega) hpq ho ho2).tf⟩
            have stp : ∀ i s w K, hf (setsF mt p q w) s → (∀ s', hf (setsF mt p q (moF (cv st 11) p q i 4 (hI p q))) s' → K (if wkF n nL 1 (moF (cv st 11) p q i) 7 l = nmF p q then 1 else 0) s') → w_X9_held (cv st 11 4 (hI p q) + nI i) 0 99 s (fun r89 st89 => w_X9_sets (nI p) (nI q) r89 st89 (fun st92 => w_X9_isOpenedBy (nI p) (nI q) (nI l) st92 K)) := fun i s w K hs hk => by
              refine t_held (t_sets (by omega) (by omega) ?_)
              rw [hlF_held]
              have e : heldF (cv st 11 4 (hI p q) + nI i) = moF (cv st 11) p q i 4 (hI p q) := by unfold moF; rw [u2_same]
              rw [e]
              have h1 : hf (setsF mt p q (moF (cv st 11) p q i 4 (hI p q))) (setsF s p q (moF (cv st 11) p q i 4 (hI p q))) := hf_sets hs (by omega) (by omega) hpq
              exact t_isOpenedBy (rm _ i h1) hp hq hpq hl (by unfold moF; rw [ob_off (by decide)]; exact eb) fun s' hh => hk s' (h1.tr hh)
            obtain ⟨v, hv⟩ : ∃ v, v = fstG (inP n nL p q l (cv st 11)) (100 - 0) 0 := ⟨_, rfl⟩
            rw [← hv] at fin ⊢
            refine lo_fstJ (W := fun m i s => w_X9_insult_L66 (nI p) (nI q) (nI l) (fun r' mt' => v = r' ∧ R (sv st 99 c') mt') m (cv st 11 4 (hI p q)) (-9) (nI i) s) (P := inP n nL p q l (cv st 11)) (Q := fun x => x = v) (J := fun i s => ∃ w, hf (setsF mt p q w) s) (Nat.zero_le 100) ⟨cv st 11 4 (hI p q), by rw [sets_id ho ho2]; exact hf_rf⟩ (fun m s hJ hQ => ?_) (fun m i s _ hi hJ hP hQ => ?_) (fun m i s _ hi hJ hP hw => ?_) hv.symm
            · obtain ⟨w, hs⟩ := hJ
              rw [w_X9_insult_L66, w_X9_insult_L66q]
              exact y1 (by decide) (fin w s _ hs hQ)
            · obtain ⟨w, hs⟩ := hJ
              rw [w_X9_insult_L66, w_X9_insult_L66q]
              refine n1 (gt99 hi) (n1 (by decide) (stp i s w _ hs fun s' hh => ?_))
              rw [if_pos (of_decide_eq_true hP)]
              refine n1 (by decide) ?_
              rw [w_X9_insult_b112, w_X9_insult_L66, w_X9_insult_L66q]
              exact ⟨fun _ => fin _ s' _ hh hQ, fun _ => y1 (n_le0 (by omega)) (fin _ s' _ hh hQ)⟩
            · obtain ⟨w, hs⟩ := hJ
              rw [w_X9_insult_L66, w_X9_insult_L66q]
              refine n1 (gt99 hi) (n1 (by decide) (stp i s w _ hs fun s' hh => ?_))
              rw [if_neg (of_decide_eq_false hP)]
              refine y1 rfl ?_
              rw [w_X9_insult_b112, nI_inc]
              exact hw s' ⟨_, hh⟩
  unfold w_X8_insult
  refine rd (k := 11) (P := fun s => w_X1_isOpen 11 x3 s _) (s_isOpen ?_)
  rw [sv_cv]
  have bit : ∀ l, l < nL → x3 = nI l → bitF (cv st 11 0 9) x3 = if (ob (cv st 11)).testBit l then 1 else 0 := fun l hl e => by
    obtain ⟨-, h2, -, -, -, h6, h7⟩ := hm.1
    rw [e, h6, bit_is _ (p64 h2 h7) l (by omega)]
  by_cases eo : bitF (cv st 11 0 9) x3 = 1
  · rw [if_pos eo]
    refine n1 (by decide) (main (-3) fun l hl e => Or.inl ⟨?_, rfl⟩)
    have := bit l hl e
    rw [eo] at this
    cases z : (ob (cv st 11)).testBit l with
    | true => rfl
    | false => rw [z] at this; exact absurd this (by decide)
  · rw [if_neg eo]
    refine y1 rfl (main 0 fun l hl e => Or.inr ⟨?_, rfl⟩)
    have := bit l hl e
    cases z : (ob (cv st 11)).testBit l with
    | false => rfl
    | true => rw [z] at this; exact absurd this eo
end
section
/-! pure part: two, send, swap -/
theorem lo_frD {σ δ : Type} (W : Nat → Nat → σ → δ → Prop) (f : Nat → σ → σ) (I : Nat → σ → Prop) (D : Nat → δ → Prop) {e i0 : Nat} (s0 : σ) (d0 : δ) (hi : i0 ≤ e) (h0 : I i0 s0) (hI : ∀ i s, i0 ≤ i → i < e → I i s → I (i + 1) (f i s)) (hd : D i0 d0)
    (hx : I e (fr i0 e f s0) → ∀ n d, D e d → W (n + 1) e (fr i0 e f s0) d) (hs : ∀ n i s d, i0 ≤ i → i < e → I i s → D i d → (∀ d', D (i + 1) d' → W n (i + 1) (f i s) d') → W (n + 1) i s d) : ∃ n, W n i0 s0 d0 := by
  refine lo_rel (fun n i (z : σ × δ) => W n i z.1 z.2) (fun i z => z.1 = fr i0 i f s0 ∧ I i z.1 ∧ D i z.2) (s0, d0) hi ⟨(fr_self _ _ _).symm, h0, hd⟩ (fun z hz n => ?_) (fun n i z h1 h2 hz hw => ?_)
  · obtain ⟨a, b, c⟩ := hz
    rw [a] at b ⊢
    exact hx b n z.2 c
  · obtain ⟨a, b, c⟩ := hz
    exact hs n i z.1 z.2 h1 h2 b c fun d' hd' => hw (f i z.1, d') ⟨by rw [fr_succ h1, a], hI i z.1 h1 h2 b, hd'⟩
/-- how many are open behind w weeks -/
def cnF (n nL w : Nat) (c : Ct) : Nat := pc (ob (wkF n nL w c))
theorem cn_lt {n nL w : Nat} {c : Ct} (h : vC n nL c) : cnF n nL w c < 7 := pc_lt _ (p64 h.2.1 (vC_wkF h).2.2.2.2.2.2)
theorem t_many {n nL w : Nat} {mt : St} {c : Ct} {K : Int32 → St → Prop} (hw : w < 2147483648) (h : RM n nL mt c) (hk : ∀ mt', hf mt mt' → K (nI (cnF n nL w c)) mt') : w_X9_openIn (nI w) mt (fun r st => w_X9_bits r st K) :=
  t_openIn hw h fun mt' hh => t_bits (by have := p64 h.1.2.1 (vC_wkF (i := w) h.1).2.2.2.2.2.2; omega) (hk mt' hh)
theorem x_openAsAllIs {st : St} {c0 : Ct} {n nL w : Nat} {K : Int32 → St → Prop} (hz : zC (cv st 11)) (h0 : zn c0) (hv : vC n nL (cv st 11)) (hw : w < 2147483648) (h : ∀ c', zn c' → K (nI (cnF n nL w (cv st 11))) (sv st 99 c')) : w_X4_openAsAllIs (nI w) (sv st 99 c0) K := by
  unfold w_X4_openAsAllIs
  exact m_become hz h0 (m_passWeeks hw hv (h _ (zn_wkF hv.1 hv.2.1 ⟨hz, nC_cv⟩)))
/-! two -/
def gnF (c : Ct) (p x y : Nat) (war peace : Int32) : Int32 := 4 * wageF c p - (if x = 1 ∧ y = 1 then peace else war) / 2 - (if x = 1 ∧ y = 0 then 3 else 0)
theorem nI2 {x k : Nat} (hx : x < 2) (hk : k < 2) : nI x = nI k ↔ x = k := ⟨fun z => nI_eqI (by omega) (by omega) z, fun z => by rw [z]⟩
theorem x_gain {st : St} {p x y : Nat} {war peace : Int32} {K : Int32 → St → Prop} (hp : p < 6) (hx : x < 2) (hy : y < 2) (h : K (gnF (cv st 11) p x y war peace) st) : w_X4_gain (nI p) (nI x) (nI y) war peace st K := by
  unfold w_X4_gain
  have ox : nI x = 1 ↔ x = 1 := nI2 (k := 1) hx (by decide)
  have oy : nI y = 1 ↔ y = 1 := nI2 (k := 1) hy (by decide)
  have zy : nI y = 0 ↔ y = 0 := nI2 (k := 0) hy (by decide)
  unfold gnF at h
  have fin : ∀ s v : Int32, (if x = 1 ∧ y = 0 then 3 else 0) = s → (if x = 1 ∧ y = 1 then peace else war) = v → w_X4_gain_b33 (nI p) (nI x) (nI y) war peace K v s st := fun s v e1 e2 => by
    rw [w_X4_gain_b33]
    refine x_wageOf hp ?_
    rw [← e1, ← e2]
    exact h
  have b17 : ∀ v : Int32, (if x = 1 ∧ y = 1 then peace else war) = v → w_X4_gain_b17 (nI p) (nI x) (nI y) war peace K v st := fun v e2 => by
    rw [w_X4_gain_b17]
    by_cases h1 : x = 1
    · refine y2 (ox.mpr h1) ?_
      by_cases h2 : y = 0
      · exact y2 (zy.mpr h2) (fin 3 v (if_pos ⟨h1, h2⟩) e2)
      · refine n2 (fun z => h2 (zy.mp z)) ?_
        rw [w_X4_gain_b32]
        exact fin 0 v (if_neg fun z => h2 z.2) e2
    · refine n2 (fun z => h1 (ox.mp z)) ?_
      rw [w_X4_gain_b32]
      exact fin 0 v (if_neg fun z => h1 z.1) e2
  by_cases h1 : x = 1
  · refine y2 (ox.mpr h1) ?_
    by_cases h2 : y = 1
    · exact y2 (oy.mpr h2) (b17 peace (if_pos ⟨h1, h2⟩))
    · refine n2 (fun z => h2 (oy.mp z)) ?_
      rw [w_X4_gain_b15]
      exact b17 war (if_neg fun z => h2 z.2)
  · refine n2 (fun z => h1 (ox.mp z)) ?_
    rw [w_X4_gain_b15]
    exact b17 war (if_neg fun z => h1 z.1)
def pcF (n nL p q : Nat) (c : Ct) : Int32 := wkF n nL 4 (u2 c 4 (hI p q) (heldF (c 4 (hI p q) / 2))) 4 (hI p q)
def wrF (n nL p q : Nat) (c : Ct) : Int32 := wkF n nL 4 c 4 (hI p q)
theorem half : ∀ d, d < 100 → heldF (nI d / 2) = nI d / 2 ∧ 0 ≤ nI d / 2 ∧ nI d / 2 ≤ 99 := by decide +kernel
theorem hOk_nI {n p q : Nat} {c : Ct} (h : hOk n c) (hp : p < n) (hq : q < n) (hpq : p ≠ q) : ∃ d, d < 100 ∧ c 4 (hI p q) = nI d := by
  have b : 0 ≤ c 4 (hI p q) ∧ c 4 (hI p q) ≤ 99 := by
    rcases Nat.lt_or_gt_of_ne hpq with z | z
    · exact h p q z hq
    · rw [hI_comm]; exact h q p z hp
  obtain ⟨d, hd, e⟩ := nI_of (i_nlt.mpr b.1)
  refine ⟨d, Nat.not_le.mp fun z => ?_, e⟩
  have b2 := b.2
  rw [e] at b2
  have : d ≤ 99 := (nJ_le hd (show 99 < 2147483648 by decide)).mp (show nI d ≤ nI 99 from b2)
  omega
theorem t_getsOf {n nL p q x y : Nat} {mt : St} {c : Ct} {K : Int32 → St → Prop} (hm : RM n nL mt c) (hp : p < n) (hq : q < n) (hpq : p ≠ q) (hx : x < 2) (hy : y < 2) (hk : ∀ mt', hf mt mt' → K (gnF c p x y (wrF n nL p q c) (pcF n nL p q c)) mt') : w_X9_getsOf (nI p) (nI q) (nI x) (nI y) mt K := by
  have hn := hm.1.1
  have ox : nI x = 1 ↔ x = 1 := nI2 (k := 1) hx (by decide)
  have oy : nI y = 1 ↔ y = 1 := nI2 (k := 1) hy (by decide)
  have zy : nI y = 0 ↔ y = 0 := nI2 (k := 0) hy (by decide)
  have ho := hm.hate hp hq hpq
  have ho2 := hm.hate hq hp (Ne.symm hpq)
  rw [hI_comm] at ho2
  obtain ⟨d, hd, e⟩ := hOk_nI hm.2.1 hp hq hpq
  have hh2 := half d hd
  -- the tail, whichever hate is set
  have tail : ∀ (v : Int32) (s : Int32), RM n nL (setsF mt p q v) (u2 c 4 (hI p q) v) → wkF n nL 4 (u2 c 4 (hI p q) v) 4 (hI p q) = (if x = 1 ∧ y = 1 then pcF n nL p q c else wrF n nL p q c) → w_X9_getsOf_b31 (nI p) (nI q) (nI x) (nI y) K (c 4 (hI p q)) v (nI q) (nI p) mt := fun v s hr ev => by
    rw [w_X9_getsOf_b31]
    refine t_sets (by omega) (by omega) ?_
    refine t_payOf (by omega) ?_
    have a := hr.2.2.2.2.2.1 p hp
    rw [a.1, a.2.1, u2_off (by decide), u2_off (by decide)]
    have fin : ∀ s1 (t : Int32), hf (setsF mt p q v) s1 → (if x = 1 ∧ y = 0 then 3 else 0) = t → w_X9_getsOf_b66 (nI p) (nI q) (nI x) (nI y) K (c 4 (hI p q)) t (4 * wagingF (c 1 p) (c 2 p) - wkF n nL 4 (u2 c 4 (hI p q) v) 4 (hI p q) / 2) s1 := fun s1 t hs et => by
      rw [w_X9_getsOf_b66]
      refine t_sets (by omega) (by omega) ?_
      rw [ev, ← et]
      exact hk _ (hf_unset hs (by omega) (by omega) hpq ho ho2)
    refine t_hateIn (w := 4) (by decide) hr hp hq hpq fun s1 hs => ?_
    by_cases h1 : x = 1
    · refine y2 (ox.mpr h1) ?_
      by_cases h2 : y = 0
      · exact y2 (zy.mpr h2) (fin s1 3 hs (if_pos ⟨h1, h2⟩))
      · refine n2 (fun z => h2 (zy.mp z)) ?_
        rw [w_X9_getsOf_b65]
        exact fin s1 0 hs (if_neg fun z => h2 z.2)
    · refine n2 (fun z => h1 (ox.mp z)) ?_
      rw [w_X9_getsOf_b65]
      exact fin s1 0 hs (if_neg fun z => h1 z.1)
  have war : ¬ (x = 1 ∧ y = 1) → w_X9_getsOf_b29 (nI p) (nI q) (nI x) (nI y) K (c 4 (hI p q)) (nI q) (nI p) mt := fun z => by
    rw [w_X9_getsOf_b29]
    have e1 : u2 c 4 (hI p q) (c 4 (hI p q)) = c := u2_id rfl
    refine tail (c 4 (hI p q)) 0 (by rw [sets_id ho ho2, e1]; exact hm) ?_
    rw [if_neg z, e1]
    rfl
  unfold w_X9_getsOf
  refine t_hateOf (by omega) (by omega) ?_
  rw [ho]
  by_cases h1 : x = 1
  · refine y2 (ox.mpr h1) ?_
    by_cases h2 : y = 1
    · refine y2 (oy.mpr h2) (tail _ 0 ?_ ?_)
      · refine RM_sets hm hp hq hpq ?_ ?_
        · rw [e]; exact hh2.2.1
        · rw [e]; exact hh2.2.2
      · rw [if_pos ⟨h1, h2⟩]
        unfold pcF
        rw [e, hh2.1]
    · exact n2 (fun z => h2 (oy.mp z)) (war fun z => h2 z.2)
  · exact n2 (fun z => h1 (ox.mp z)) (war fun z => h1 z.1)
def twP (n nL p q : Nat) (c : Ct) (k : Nat) : Bool :=
  decide (gnF c p (1 - k / 2) (k % 2) (wrF n nL p q c) (pcF n nL p q c) ≤ gnF c p (k / 2) (k % 2) (wrF n nL p q c) (pcF n nL p q c)) &&
  decide (gnF c q (1 - k % 2) (k / 2) (wrF n nL p q c) (pcF n nL p q c) ≤ gnF c q (k % 2) (k / 2) (wrF n nL p q c) (pcF n nL p q c))
theorem k2 : ∀ k, k < 4 → nI k / 2 = nI (k / 2) ∧ nI k - nI k / 2 * 2 = nI (k % 2) ∧ 1 - nI (k / 2) = nI (1 - k / 2) ∧ 1 - nI (k % 2) = nI (1 - k % 2) := by decide +kernel
def vF (v : Int32) : Int32 := if v = -9 then -9 else 10 * (v / 2) + (v - v / 2 * 2)
theorem vF_k : ∀ k, k < 4 → vF (nI k) = 10 * nI (k / 2) + nI (k % 2) := by decide +kernel
theorem swapF {n nL p q : Nat} {c : Ct} : wrF n nL q p c = wrF n nL p q c ∧ pcF n nL q p c = pcF n nL p q c := by
  unfold wrF pcF
  rw [hI_comm (p := q) (q := p)]
  exact ⟨rfl, rfl⟩
theorem x_hateMadeUp {st : St} {c0 : Ct} {n nL p q : Nat} {K : Int32 → St → Prop} (hz : zC (cv st 11)) (h0 : zn c0) (hv : vC n nL (cv st 11)) (hp : p < 6) (hq : q < 6) (h : ∀ c', zn c' → K (pcF n nL p q (cv st 11)) (sv st 99 c')) : w_X4_hateMadeUp (nI p) (nI q) (sv st 99 c0) K := by
  unfold w_X4_hateMadeUp
  refine m_become hz h0 (x_hateOf hp hq ?_)
  rw [c11]
  refine s_setHate hp hq ?_
  have e : u2 (bec (cv st 11)) 4 (hI p q) (heldF (cv st 11 4 (hI p q) / 2)) = bec (u2 (cv st 11) 4 (hI p q) (heldF (cv st 11 4 (hI p q) / 2))) := (bec_u2 (by decide)).symm
  rw [e]
  exact m_passWeeks (w := 4) (by decide) (vC_u4 hv (by decide) (by decide)) (s_hateOf hp hq (h _ (zn_wkF hv.1 hv.2.1 (zn_hate ⟨hz, nC_cv⟩ hp hq))))
theorem sim_two {st mt : St} (h : R st mt) (x1 x2 : Int32) : w_X8_two x1 x2 st (fun r st' => w_X9_two x1 x2 mt (fun r' mt' => r = r' ∧ R st' mt')) := by
  obtain ⟨n, nL, hm, g, hn, hL, h7, h8, k8, k9⟩ := h.ctx
  unfold w_X8_two
  refine s_twoRef h7 ?_
  by_cases e1 : twF n x1 x2 = 0
  · rw [nb0 e1]
    refine n1 (by decide) (s_refused rO1 ?_)
    unfold w_X9_two
    exact t_areTwo k8 (y2 e1 (t_no rO1 ⟨rfl, R_ref h rO1⟩))
  · rw [nb1 e1]
    obtain ⟨p, q, hp, hq, hpq, rfl, rfl⟩ := twF_1 (by omega) e1
    refine y1 rfl (mind0 (fun s => w_X4_settled (nI p) (nI q) s _) (fun c0 z0 => ?_) h.z99)
    unfold w_X4_settled
    refine x_hateAfter (w := 4) h.z11 z0 hm.1 (by omega) (by omega) (by decide) fun c1 z1 => x_hateMadeUp h.z11 z1 hm.1 (by omega) (by omega) fun c2 z2 => ?_
    refine lo_fst (W := fun m k => w_X4_settled_L19 (nI p) (nI q) _ m (wrF n nL p q (cv st 11)) (pcF n nL p q (cv st 11)) (nI k) (sv st 99 c2)) (P := twP n nL p q (cv st 11)) (Q := fun v => w_X9_two (nI p) (nI q) mt (fun r' mt' => vF v = r' ∧ R (sv st 99 c2) mt')) (Nat.zero_le 4) (fun hQ => ⟨1, ?_⟩) (fun k _ hk hP hQ => ⟨1, ?_⟩) (fun m k _ hk hP hw => ?_) ?_
    · rw [w_X4_settled_L19, w_X4_settled_L19q]
      exact y1 (nI_le (Nat.le_refl 4) (by decide)) hQ
    · obtain ⟨q1, q2, q3, q4⟩ := k2 k hk
      rw [w_X4_settled_L19, w_X4_settled_L19q, q2, q1, q3]
      have hP' := Bool.and_eq_true_iff.mp hP
      refine n1 (nI_ge hk (by decide)) (x_gain (by omega) (by omega) (by omega) (x_gain (by omega) (by omega) (by omega) (n1 ?_ ?_)))
      · rw [c11]; exact i_nlt.mpr (of_decide_eq_true hP'.1)
      · rw [w_X4_settled_b71, q4]
        refine x_gain (by omega) (by omega) (by omega) (x_gain (by omega) (by omega) (by omega) (n1 ?_ ?_))
        · rw [c11]; exact i_nlt.mpr (of_decide_eq_true hP'.2)
        · rw [w_X4_settled_b107]
          refine n1 (by decide) (n1 (by decide) ?_)
          rw [w_X4_settled_b119]
          rw [vF_k k hk] at hQ
          exact hQ
    · obtain ⟨q1, q2, q3, q4⟩ := k2 k hk
      rw [w_X4_settled_L19, w_X4_settled_L19q, q2, q1, q3]
      have nx : ∀ v8 s0 : Int32, (v8 = 0 ∨ s0 = 0) → w_X4_settled_b107 (nI p) (nI q) (fun v3 v4 v5 st_1 => w_X4_settled_L19 (nI p) (nI q) (fun r st' => w_X9_two (nI p) (nI q) mt (fun r' mt' => r = r' ∧ R st' mt')) m v3 v4 v5 st_1) (fun r st' => w_X9_two (nI p) (nI q) mt (fun r' mt' => r = r' ∧ R st' mt')) (wrF n nL p q (cv st 11)) (pcF n nL p q (cv st 11)) (nI k) (nI (k / 2)) (nI (k % 2)) v8 s0 (sv st 99 c2) := fun v8 s0 hz => by
        have b128 : w_X4_settled_b128 (nI p) (nI q) (fun v3 v4 v5 st_1 => w_X4_settled_L19 (nI p) (nI q) (fun r st' => w_X9_two (nI p) (nI q) mt (fun r' mt' => r = r' ∧ R st' mt')) m v3 v4 v5 st_1) (fun r st' => w_X9_two (nI p) (nI q) mt (fun r' mt' => r = r' ∧ R st' mt')) (wrF n nL p q (cv st 11)) (pcF n nL p q (cv st 11)) (nI k) (sv st 99 c2) := by
          rw [w_X4_settled_b128, nI_inc]
          exact hw
        rw [w_X4_settled_b107]
        refine ⟨fun _ => b128, fun y => ?_⟩
        exact y1 (hz.resolve_left y) b128
      refine n1 (nI_ge hk (by decide)) (x_gain (by omega) (by omega) (by omega) (x_gain (by omega) (by omega) (by omega) ?_))
      rw [c11]
      have b71 : ∀ s0 : Int32, (s0 = 0 ∨ ¬ gnF (cv st 11) q (1 - k % 2) (k / 2) (wrF n nL p q (cv st 11)) (pcF n nL p q (cv st 11)) ≤ gnF (cv st 11) q (k % 2) (k / 2) (wrF n nL p q (cv st 11)) (pcF n nL p q (cv st 11))) → w_X4_settled_b71 (nI p) (nI q) (fun v3 v4 v5 st_1 => w_X4_settled_L19 (nI p) (nI q) (fun r st' => w_X9_two (nI p) (nI q) mt (fun r' mt' => r = r' ∧ R st' mt')) m v3 v4 v5 st_1) (fun r st' => w_X9_two (nI p) (nI q) mt (fun r' mt' => r = r' ∧ R st' mt')) (wrF n nL p q (cv st 11)) (pcF n nL p q (cv st 11)) (nI k) (nI (k / 2)) (nI (k % 2)) s0 (sv st 99 c2) := fun s0 hz => by
        rw [w_X4_settled_b71, q4]
        refine x_gain (by omega) (by omega) (by omega) (x_gain (by omega) (by omega) (by omega) ?_)
        rw [c11]
        refine ⟨fun _ => nx s0 0 (Or.inr rfl), fun y => ?_⟩
        rcases hz with hz | hz
        · exact nx s0 1 (Or.inl hz)
        · exact absurd (i_nlt.mp y) hz
      refine ⟨fun _ => b71 0 (Or.inl rfl), fun y => b71 1 (Or.inr fun z => ?_)⟩
      rw [twP, decide_eq_true (i_nlt.mp y), decide_eq_true z] at hP
      cases hP
    · unfold w_X9_two
      refine t_areTwo k8 (n2 e1 ?_)
      obtain ⟨v, hv⟩ : ∃ v, v = fstG (twP n nL p q (cv st 11)) (4 - 0) 0 := ⟨_, rfl⟩
      rw [← hv]
      refine lo_fstJ (W := fun m k s => w_X9_two_L17 (nI p) (nI q) _ m (nI k) s) (P := twP n nL p q (cv st 11)) (Q := fun x => x = v) (J := fun _ s => hf mt s) (Nat.zero_le 4) hf_rf (fun m s hJ hQ => ?_) (fun m k s _ hk hJ hP hQ => ?_) (fun m k s _ hk hJ hP hw => ?_) hv.symm
      · rw [w_X9_two_L17, w_X9_two_L17q]
        exact y1 (nI_le (Nat.le_refl 4) (by decide)) ⟨by rw [← hQ]; rfl, R_mind h z2 hJ.tf⟩
      · obtain ⟨q1, q2, q3, q4⟩ := k2 k hk
        rw [w_X9_two_L17, w_X9_two_L17q, q2, q1, q3]
        have hP' := Bool.and_eq_true_iff.mp hP
        have hs := RM_hf hm hJ
        refine n1 (nI_ge hk (by decide)) (t_getsOf hs hp hq hpq (by omega) (by omega) fun s1 g1 => t_getsOf (RM_hf hs g1) hp hq hpq (by omega) (by omega) fun s2 g2 => n1 (i_nlt.mpr (of_decide_eq_true hP'.1)) ?_)
        rw [q4]
        refine t_getsOf (RM_hf (RM_hf hs g1) g2) hq hp (Ne.symm hpq) (by omega) (by omega) fun s3 g3 => t_getsOf (RM_hf (RM_hf (RM_hf hs g1) g2) g3) hq hp (Ne.symm hpq) (by omega) (by omega) fun s4 g4 => ?_
        rw [swapF.1, swapF.2]
        refine n1 (i_nlt.mpr (of_decide_eq_true hP'.2)) ?_
        rw [w_X9_two_b82]
        refine ⟨by rw [← hQ]; exact vF_k k hk, R_mind h z2 ((((hJ.tr g1).tr g2).tr g3).tr g4).tf⟩
      · obtain ⟨q1, q2, q3, q4⟩ := k2 k hk
        rw [w_X9_two_L17, w_X9_two_L17q, q2, q1, q3]
        have hs := RM_hf hm hJ
        have nx : ∀ s', hf mt s' → w_X9_two_b91 (nI p) (nI q) (fun v3 st_1 => w_X9_two_L17 (nI p) (nI q) (fun r' mt' => vF v = r' ∧ R (sv st 99 c2) mt') m v3 st_1) (fun r' mt' => vF v = r' ∧ R (sv st 99 c2) mt') (nI k) s' := fun s' hs' => by
          rw [w_X9_two_b91, nI_inc]
          exact hw s' hs'
        refine n1 (nI_ge hk (by decide)) (t_getsOf hs hp hq hpq (by omega) (by omega) fun s1 g1 => t_getsOf (RM_hf hs g1) hp hq hpq (by omega) (by omega) fun s2 g2 => ⟨fun _ => nx s2 ((hJ.tr g1).tr g2), fun y => ?_⟩)
        rw [q4]
        refine t_getsOf (RM_hf (RM_hf hs g1) g2) hq hp (Ne.symm hpq) (by omega) (by omega) fun s3 g3 => t_getsOf (RM_hf (RM_hf (RM_hf hs g1) g2) g3) hq hp (Ne.symm hpq) (by omega) (by omega) fun s4 g4 => ?_
        rw [swapF.1, swapF.2]
        refine ⟨fun _ => nx s4 ((((hJ.tr g1).tr g2).tr g3).tr g4), fun y' => ?_⟩
        rw [twP, decide_eq_true (i_nlt.mp y), decide_eq_true (i_nlt.mp y')] at hP
        cases hP
end
section
/-! pure part: send, swap -/
theorem hf_cell {mt s : St} {p : Nat} (h : hf mt s) (hp : p < 6) : s 4 p = mt 4 p := by
  have e := h.1 (12 + p) (by omega)
  rw [lv_cell, lv_cell] at e
  have a : lvj (12 + p) = 4 := by unfold lvj; rw [if_neg (by omega), if_neg (by omega), if_pos (by omega)]
  have b : lvi (12 + p) = p := by unfold lvi; rw [if_neg (by omega), if_neg (by omega), if_pos (by omega)]; omega
  rw [a, b] at e
  exact e
theorem cn_nI {n nL w : Nat} {c : Ct} (h : vC n nL c) : cnF n nL w c < 2147483648 := by have := cn_lt (w := w) h; omega
def sdC (c : Ct) (p t : Nat) : Ct := u2 c 3 p (nI t)
def sdS (n nL w : Nat) (c : Ct) (p t : Nat) (s : Int32 × Nat) : Int32 × Nat := if nI t = c 3 p then s else if cnF n nL w (sdC c p t) ≤ s.2 then s else (nI (10 * p + t), cnF n nL w (sdC c p t))
def sdF (n nL w : Nat) (c : Ct) : Int32 × Nat := fr 0 n (fun p s => fr 0 4 (fun t s => sdS n nL w c p t s) s) (-9, cnF n nL w c)
theorem vC_sd {n nL p t : Nat} {c : Ct} (h : vC n nL c) : vC n nL (sdC c p t) := vC_u4 h (by decide) (by decide)
theorem sdS_lt {n nL w p t : Nat} {c : Ct} {s : Int32 × Nat} (hv : vC n nL c) (h : s.2 < 7) : (sdS n nL w c p t s).2 < 7 := by
  unfold sdS
  split
  · exact h
  · split
    · exact h
    · exact cn_lt (vC_sd hv)
theorem x_bestSending {st : St} {c0 : Ct} {n nL w : Nat} {K : Int32 → St → Prop} (hz : zC (cv st 11)) (h0 : zn c0) (hv : vC n nL (cv st 11)) (hw : w < 2147483648) (h7 : st 11 7 = nI n) (h : ∀ c', zn c' → K (sdF n nL w (cv st 11)).1 (sv st 99 c')) : w_X4_bestSending (nI w) (sv st 99 c0) K := by
  have hn := hv.1
  have hL := hv.2.1
  unfold w_X4_bestSending
  refine x_openAsAllIs hz h0 hv hw fun c1 z1 => ?_
  refine lo_frD (fun m p (s : Int32 × Nat) c' => w_X4_bestSending_L12 (nI w) K m s.1 (nI s.2) (nI p) (sv st 99 c')) (fun p s => fr 0 4 (fun t s => sdS n nL w (cv st 11) p t s) s) (fun _ s => s.2 < 7) (fun _ c' => zn c') ((-9 : Int32), cnF n nL w (cv st 11)) c1 (Nat.zero_le n) (cn_lt hv) (fun p s _ _ hs => fr_inv (fun _ (s : Int32 × Nat) => s.2 < 7) _ (Nat.zero_le 4) hs fun t s _ _ hs => sdS_lt hv hs) z1 (fun _ m d hd => ?_) (fun m p s d _ hp hs hd hk => ?_)
  · rw [w_X4_bestSending_L12, w_X4_bestSending_L12q]
    unfold w_X1_keeperCount
    rw [o11, h7]
    exact y1 (nI_le (Nat.le_refl n) (by omega)) (h d hd)
  · rw [w_X4_bestSending_L12, w_X4_bestSending_L12q]
    unfold w_X1_keeperCount
    rw [o11, h7]
    refine n1 (nI_ge hp (by omega)) ?_
    refine lo_frD (fun k t (s : Int32 × Nat) c' => w_X4_bestSending_L27 (nI w) (fun v2 v3 v4 st => w_X4_bestSending_L12 (nI w) K m v2 v3 v4 st) K k s.1 (nI s.2) (nI p) (nI t) (sv st 99 c')) (fun t s => sdS n nL w (cv st 11) p t s) (fun _ s => s.2 < 7) (fun _ c' => zn c') s d (Nat.zero_le 4) hs (fun t s _ _ hs => sdS_lt hv hs) hd (fun _ k d hd => ?_) (fun k t s d _ ht hs hd hk2 => ?_)
    · rw [w_X4_bestSending_L27, w_X4_bestSending_L27q]
      refine y1 (nI_le (Nat.le_refl 4) (by decide)) ?_
      rw [w_X4_bestSending_b103, nI_inc]
      exact hk d hd
    · rw [w_X4_bestSending_L27, w_X4_bestSending_L27q]
      refine n1 (nI_ge ht (by decide)) (x_townOf (by omega) ?_)
      rw [c11]
      unfold sdS at hk2
      by_cases e : nI t = cv st 11 3 p
      · rw [if_pos e] at hk2
        refine y1 e ?_
        rw [w_X4_bestSending_b97, nI_inc]
        exact hk2 d hd
      · rw [if_neg e] at hk2
        refine n1 e (m_become hz hd (m_move (by omega) ?_))
        have eb : u2 (bec (cv st 11)) 3 p (nI t) = bec (sdC (cv st 11) p t) := (bec_u2 (by decide)).symm
        rw [eb]
        refine m_passWeeks hw (vC_sd hv) ?_
        have zz : zn (wkF n nL w (sdC (cv st 11) p t)) := zn_wkF hn hL (zn_town ⟨hz, nC_cv⟩ (by omega))
        show (nI (cnF n nL w (sdC (cv st 11) p t)) ≤ nI s.2 → _) ∧ _
        by_cases e2 : cnF n nL w (sdC (cv st 11) p t) ≤ s.2
        · rw [if_pos e2] at hk2
          refine y1 (nI_le e2 (by omega)) ?_
          rw [w_X4_bestSending_b97, nI_inc]
          exact hk2 _ zz
        · rw [if_neg e2] at hk2
          refine n1 (fun y => e2 ((nJ_le (cn_nI (vC_sd hv)) (by omega)).mp y)) ?_
          rw [w_X4_bestSending_b97, nI_inc, n10 p (by omega) t (by omega)]
          exact hk2 _ zz
theorem n9lt {m : Nat} (h : m < 2147483648) : ¬ nI m < -9 := fun z => by
  have := Int32.lt_of_lt_of_le z (show (-9 : Int32) ≤ 0 by decide)
  exact n_lt0 h this
theorem t_sendL {n nL w : Nat} {mt : St} {c : Ct} {K : Int32 → St → Prop} (hw : w < 2147483648) (hm : RM n nL mt c) (g : gC n nL c) (h11 : mt 0 11 = 0) (hk : ∀ s, hf mt s → K (sdF n nL w c).1 s) : ∀ s0, hf mt s0 → ∃ m, w_X9_send_L31 (nI w) K m (-9) (nI (cnF n nL w c)) 0 s0 := by
  have hv := hm.1
  have hn := hv.1
  intro s0 hs0
  refine lo_frD (fun m p (s : Int32 × Nat) d => w_X9_send_L31 (nI w) K m s.1 (nI s.2) (nI p) d) (fun p s => fr 0 4 (fun t s => sdS n nL w c p t s) s) (fun _ s => s.2 < 7) (fun _ d => hf mt d) ((-9 : Int32), cnF n nL w c) s0 (Nat.zero_le n) (cn_lt hv) (fun p s _ _ hs => fr_inv (fun _ (s : Int32 × Nat) => s.2 < 7) _ (Nat.zero_le 4) hs fun t s _ _ hs => sdS_lt hv hs) hs0 (fun _ m d hd => ?_) (fun m p s d _ hp hs hd hk1 => ?_)
  · rw [w_X9_send_L31, w_X9_send_L31q, (RM_hf hm hd).2.2.1]
    exact y1 (nI_le (Nat.le_refl n) (by omega)) (hk d hd)
  · rw [w_X9_send_L31, w_X9_send_L31q, (RM_hf hm hd).2.2.1]
    refine n1 (nI_ge hp (by omega)) ?_
    refine lo_frD (fun k t (s : Int32 × Nat) d => w_X9_send_L43 (nI w) (fun v3 v4 v5 st => w_X9_send_L31 (nI w) K m v3 v4 v5 st) K k s.1 (nI s.2) (nI p) (nI t) d) (fun t s => sdS n nL w c p t s) (fun _ s => s.2 < 7) (fun _ d => hf mt d) s d (Nat.zero_le 4) hs (fun t s _ _ hs => sdS_lt hv hs) hd (fun _ k d hd => ?_) (fun k t s d _ ht hs hd hk2 => ?_)
    · rw [w_X9_send_L43, w_X9_send_L43q]
      refine y1 (nI_le (Nat.le_refl 4) (by decide)) ?_
      rw [w_X9_send_b106, nI_inc]
      exact hk1 d hd
    · have hmd := RM_hf hm hd
      have cl : (nI p).toNatClampNeg = p := clI (show p < 6 by omega) (by decide)
      have vi : vp_in (nI p) 6 := vp_in_nI (by omega) (by decide)
      rw [w_X9_send_L43, w_X9_send_L43q, cl, hmd.town g hp]
      refine n1 (nI_ge ht (by decide)) ⟨vi, ?_⟩
      unfold sdS at hk2
      by_cases e : nI t = c 3 p
      · rw [if_pos e] at hk2
        refine y2 e ?_
        rw [w_X9_send_b75]
        refine n1 (n9lt (by omega)) ?_
        rw [w_X9_send_b100, nI_inc]
        exact hk2 d hd
      · rw [if_neg e] at hk2
        refine n2 e ?_
        unfold w_X9_manyAt
        rw [cl]
        refine ⟨vi, vi, ?_⟩
        have h11d : d 0 11 = 0 := (hd.2.2.1 11 (by decide) (by decide) (by decide) (by decide) (by decide) (by decide) (by decide)).trans h11
        have rm : RM n nL (u2 d 4 p (nI t)) (sdC c p t) := RM_town hmd h11d (tn1 t ht)
        refine t_many hw rm fun s1 hs1 => ⟨vi, ?_⟩
        have back : hf mt (u2 s1 4 p (d 4 p)) := hd.tr (hf_back hs1 (by decide))
        show w_X9_send_b75 (nI w) _ _ K s.1 (nI s.2) (nI p) (nI t) (nI (cnF n nL w (sdC c p t))) _
        rw [w_X9_send_b75]
        by_cases e2 : cnF n nL w (sdC c p t) ≤ s.2
        · rw [if_pos e2] at hk2
          refine n1 (fun y => absurd ((nJ_lt (by omega) (cn_nI (vC_sd hv))).mp y) (by omega)) ?_
          rw [w_X9_send_b100, nI_inc]
          exact hk2 _ back
        · rw [if_neg e2] at hk2
          refine y1 ((nJ_lt (by omega) (cn_nI (vC_sd hv))).mpr (by omega)) ?_
          rw [w_X9_send_b100, nI_inc, n10 p (by omega) t (by omega)]
          exact hk2 _ back
theorem sim_send {st mt : St} (h : R st mt) (x1 : Int32) : w_X8_send x1 st (fun r st' => w_X9_send x1 mt (fun r' mt' => r = r' ∧ R st' mt')) := by
  obtain ⟨n, nL, hm, g, hn, hL, h7, h8, k8, k9⟩ := h.ctx
  unfold w_X8_send
  refine s_range ?_
  by_cases e : rangeF x1 0 60 = 0
  · rw [e]
    obtain ⟨w, -, hw, rfl⟩ := rg_nI (a := 0) (b := 60) (by decide) (by decide) e
    refine y1 rfl (mind0 (fun s => w_X4_bestSending (nI w) s _) (fun c0 z0 => x_bestSending h.z11 z0 hm.1 (by omega) h7 fun c' zc => ?_) h.z99)
    unfold w_X9_send
    refine t_notWeeks ?_
    rw [e]
    exact y1 rfl (t_many (by omega) hm fun s hs => t_sendL (by omega) hm g (out0 h) (fun s' hs' => ⟨rfl, R_mind h zc hs'.tf⟩) s hs)
  · refine n1 e (s_refused (rg_ok e) ?_)
    unfold w_X9_send
    exact t_notWeeks (n1 e (t_no (rg_ok e) ⟨rfl, R_ref h (rg_ok e)⟩))
def swC (c : Ct) (p q : Nat) : Ct := u2 (u2 c 3 p (c 3 q)) 3 q (c 3 p)
def swS (n nL w : Nat) (c : Ct) (p q : Nat) (s : Int32 × Nat) : Int32 × Nat := if c 3 p = c 3 q then s else if cnF n nL w (swC c p q) ≤ s.2 then s else (nI (10 * p + q), cnF n nL w (swC c p q))
def swF (n nL w : Nat) (c : Ct) : Int32 × Nat := fr 0 n (fun p s => fr (p + 1) n (fun q s => swS n nL w c p q s) s) (-9, cnF n nL w c)
theorem vC_sw {n nL p q : Nat} {c : Ct} (h : vC n nL c) : vC n nL (swC c p q) := vC_u4 (vC_u4 h (by decide) (by decide)) (by decide) (by decide)
theorem swS_lt {n nL w p q : Nat} {c : Ct} {s : Int32 × Nat} (hv : vC n nL c) (h : s.2 < 7) : (swS n nL w c p q s).2 < 7 := by
  unfold swS
  split
  · exact h
  · split
    · exact h
    · exact cn_lt (vC_sw hv)
theorem x_bestSwap {st : St} {c0 : Ct} {n nL w : Nat} {K : Int32 → St → Prop} (hz : zC (cv st 11)) (h0 : zn c0) (hv : vC n nL (cv st 11)) (hw : w < 2147483648) (h7 : st 11 7 = nI n) (h : ∀ c', zn c' → K (swF n nL w (cv st 11)).1 (sv st 99 c')) : w_X4_bestSwap (nI w) (sv st 99 c0) K := by
  have hn := hv.1
  have hL := hv.2.1
  unfold w_X4_bestSwap
  refine x_openAsAllIs hz h0 hv hw fun c1 z1 => ?_
  refine lo_frD (fun m p (s : Int32 × Nat) c' => w_X4_bestSwap_L12 (nI w) K m s.1 (nI s.2) (nI p) (sv st 99 c')) (fun p s => fr (p + 1) n (fun q s => swS n nL w (cv st 11) p q s) s) (fun _ s => s.2 < 7) (fun _ c' => zn c') ((-9 : Int32), cnF n nL w (cv st 11)) c1 (Nat.zero_le n) (cn_lt hv) (fun p s _ hp hs => fr_inv (fun _ (s : Int32 × Nat) => s.2 < 7) _ (show p + 1 ≤ n by omega) hs fun t s _ _ hs => swS_lt hv hs) z1 (fun _ m d hd => ?_) (fun m p s d _ hp hs hd hk => ?_)
  · rw [w_X4_bestSwap_L12, w_X4_bestSwap_L12q]
    unfold w_X1_keeperCount
    rw [o11, h7]
    exact y1 (nI_le (Nat.le_refl n) (by omega)) (h d hd)
  · rw [w_X4_bestSwap_L12, w_X4_bestSwap_L12q]
    unfold w_X1_keeperCount
    rw [o11, h7]
    refine n1 (nI_ge hp (by omega)) ?_
    rw [nI_inc]
    refine lo_frD (fun k q (s : Int32 × Nat) c' => w_X4_bestSwap_L30 (nI w) (fun v2 v3 v4 st => w_X4_bestSwap_L12 (nI w) K m v2 v3 v4 st) K k s.1 (nI s.2) (nI p) (nI q) (sv st 99 c')) (fun q s => swS n nL w (cv st 11) p q s) (fun _ s => s.2 < 7) (fun _ c' => zn c') s d (show p + 1 ≤ n by omega) hs (fun t s _ _ hs => swS_lt hv hs) hd (fun _ k d hd => ?_) (fun k q s d h1 hq hs hd hk2 => ?_)
    · rw [w_X4_bestSwap_L30, w_X4_bestSwap_L30q]
      unfold w_X1_keeperCount
      rw [o11, h7]
      refine y1 (nI_le (Nat.le_refl n) (by omega)) ?_
      rw [w_X4_bestSwap_b143, nI_inc]
      exact hk d hd
    · rw [w_X4_bestSwap_L30, w_X4_bestSwap_L30q]
      unfold w_X1_keeperCount
      rw [o11, h7]
      refine n1 (nI_ge hq (by omega)) (x_townOf (by omega) (x_townOf (by omega) ?_))
      rw [c11]
      unfold swS at hk2
      by_cases e : cv st 11 3 p = cv st 11 3 q
      · rw [if_pos e] at hk2
        refine y1 e ?_
        rw [w_X4_bestSwap_b137, nI_inc]
        exact hk2 d hd
      · rw [if_neg e] at hk2
        refine n1 e (m_become hz hd (x_townOf (by omega) ?_))
        rw [c11]
        refine m_move (by omega) (x_townOf (by omega) ?_)
        rw [c11]
        refine m_move (by omega) ?_
        have eb : u2 (u2 (bec (cv st 11)) 3 p (cv st 11 3 q)) 3 q (cv st 11 3 p) = bec (swC (cv st 11) p q) := by
          unfold swC
          rw [bec_u2 (by decide), bec_u2 (by decide)]
        rw [eb]
        refine m_passWeeks hw (vC_sw hv) ?_
        have zz : zn (wkF n nL w (swC (cv st 11) p q)) := zn_wkF hn hL (zn_town (zn_town ⟨hz, nC_cv⟩ (by omega)) (by omega))
        show (nI (cnF n nL w (swC (cv st 11) p q)) ≤ nI s.2 → _) ∧ _
        by_cases e2 : cnF n nL w (swC (cv st 11) p q) ≤ s.2
        · rw [if_pos e2] at hk2
          refine y1 (nI_le e2 (by omega)) ?_
          rw [w_X4_bestSwap_b137, nI_inc]
          exact hk2 _ zz
        · rw [if_neg e2] at hk2
          refine n1 (fun y => e2 ((nJ_le (cn_nI (vC_sw hv)) (by omega)).mp y)) (s_twoName (by omega) (by omega) ?_)
          rw [w_X4_bestSwap_b137, nI_inc, m10 (by omega)]
          exact hk2 _ zz
theorem t_swapL {n nL w : Nat} {mt : St} {c : Ct} {K : Int32 → St → Prop} (hw : w < 2147483648) (hm : RM n nL mt c) (g : gC n nL c) (h11 : mt 0 11 = 0) (hk : ∀ s, hf mt s → K (swF n nL w c).1 s) : ∀ s0, hf mt s0 → ∃ m, w_X9_swap_L31 (nI w) K m (-9) (nI (cnF n nL w c)) 0 s0 := by
  have hv := hm.1
  have hn := hv.1
  intro s0 hs0
  refine lo_frD (fun m p (s : Int32 × Nat) d => w_X9_swap_L31 (nI w) K m s.1 (nI s.2) (nI p) d) (fun p s => fr (p + 1) n (fun q s => swS n nL w c p q s) s) (fun _ s => s.2 < 7) (fun _ d => hf mt d) ((-9 : Int32), cnF n nL w c) s0 (Nat.zero_le n) (cn_lt hv) (fun p s _ hp hs => fr_inv (fun _ (s : Int32 × Nat) => s.2 < 7) _ (show p + 1 ≤ n by omega) hs fun t s _ _ hs => swS_lt hv hs) hs0 (fun _ m d hd => ?_) (fun m p s d _ hp hs hd hk1 => ?_)
  · rw [w_X9_swap_L31, w_X9_swap_L31q, (RM_hf hm hd).2.2.1]
    exact y1 (nI_le (Nat.le_refl n) (by omega)) (hk d hd)
  · rw [w_X9_swap_L31, w_X9_swap_L31q, (RM_hf hm hd).2.2.1]
    refine n1 (nI_ge hp (by omega)) ?_
    rw [nI_inc]
    refine lo_frD (fun k q (s : Int32 × Nat) d => w_X9_swap_L46 (nI w) (fun v3 v4 v5 st => w_X9_swap_L31 (nI w) K m v3 v4 v5 st) K k s.1 (nI s.2) (nI p) (nI q) d) (fun q s => swS n nL w c p q s) (fun _ s => s.2 < 7) (fun _ d => hf mt d) s d (show p + 1 ≤ n by omega) hs (fun t s _ _ hs => swS_lt hv hs) hd (fun _ k d hd => ?_) (fun k q s d h1 hq hs hd hk2 => ?_)
    · rw [w_X9_swap_L46, w_X9_swap_L46q, (RM_hf hm hd).2.2.1]
      refine y1 (nI_le (Nat.le_refl n) (by omega)) ?_
      rw [w_X9_swap_b117, nI_inc]
      exact hk1 d hd
    · have hmd := RM_hf hm hd
      have clp : (nI p).toNatClampNeg = p := clI (show p < 6 by omega) (by decide)
      have clq : (nI q).toNatClampNeg = q := clI (show q < 6 by omega) (by decide)
      have vp : vp_in (nI p) 6 := vp_in_nI (by omega) (by decide)
      have vq : vp_in (nI q) 6 := vp_in_nI (by omega) (by decide)
      have tp := hmd.town g hp
      have tq := hmd.town g hq
      rw [w_X9_swap_L46, w_X9_swap_L46q, hmd.2.2.1, clp, clq, tp, tq]
      refine n1 (nI_ge hq (by omega)) ⟨vp, vq, ?_⟩
      unfold swS at hk2
      by_cases e : c 3 p = c 3 q
      · rw [if_pos e] at hk2
        refine y2 e ?_
        rw [w_X9_swap_b86]
        refine n1 (n9lt (by omega)) ?_
        rw [w_X9_swap_b111, nI_inc]
        exact hk2 d hd
      · rw [if_neg e] at hk2
        refine n2 e ?_
        unfold w_X9_manySwapped
        rw [clp, clq]
        refine ⟨vp, vq, vp, vq, ?_⟩
        have h11d : d 0 11 = 0 := (hd.2.2.1 11 (by decide) (by decide) (by decide) (by decide) (by decide) (by decide) (by decide)).trans h11
        obtain ⟨t1, ht1, et1⟩ := g.2.1 p hp
        obtain ⟨t2, ht2, et2⟩ := g.2.1 q hq
        have rm : RM n nL (u2 (u2 d 4 p (d 4 q)) 4 q (d 4 p)) (swC c p q) := by
          rw [tp, tq]
          exact RM_town (RM_town hmd h11d (by rw [et2]; exact tn1 t2 ht2)) (by rw [u2_off (by decide)]; exact h11d) (by rw [et1]; exact tn1 t1 ht1)
        refine t_many hw rm fun s1 hs1 => ⟨vp, vq, vp, ?_⟩
        have e1 : s1 4 p = d 4 q := by
          rw [hf_cell hs1 (by omega), u2_ne (Or.inr (by omega)), u2_same]
        have back : hf mt (u2 (u2 s1 4 q (s1 4 p)) 4 p (d 4 p)) := by
          have q1 := hf_back hs1 (by decide)
          rw [u2_ne (Or.inr (by omega))] at q1
          rw [e1]
          exact hd.tr (hf_back q1 (by decide))
        show w_X9_swap_b86 (nI w) _ _ K s.1 (nI s.2) (nI p) (nI q) (nI (cnF n nL w (swC c p q))) _
        rw [w_X9_swap_b86]
        by_cases e2 : cnF n nL w (swC c p q) ≤ s.2
        · rw [if_pos e2] at hk2
          refine n1 (fun y => absurd ((nJ_lt (by omega) (cn_nI (vC_sw hv))).mp y) (by omega)) ?_
          rw [w_X9_swap_b111, nI_inc]
          exact hk2 _ back
        · rw [if_neg e2] at hk2
          refine y1 ((nJ_lt (by omega) (cn_nI (vC_sw hv))).mpr (by omega)) ?_
          rw [w_X9_swap_b111, nI_inc, n10 p (by omega) q (by omega)]
          exact hk2 _ back
theorem sim_swap {st mt : St} (h : R st mt) (x1 : Int32) : w_X8_swap x1 st (fun r st' => w_X9_swap x1 mt (fun r' mt' => r = r' ∧ R st' mt')) := by
  obtain ⟨n, nL, hm, g, hn, hL, h7, h8, k8, k9⟩ := h.ctx
  unfold w_X8_swap
  refine s_range ?_
  by_cases e : rangeF x1 0 60 = 0
  · rw [e]
    obtain ⟨w, -, hw, rfl⟩ := rg_nI (a := 0) (b := 60) (by decide) (by decide) e
    refine y1 rfl (mind0 (fun s => w_X4_bestSwap (nI w) s _) (fun c0 z0 => x_bestSwap h.z11 z0 hm.1 (by omega) h7 fun c' zc => ?_) h.z99)
    unfold w_X9_swap
    refine t_notWeeks ?_
    rw [e]
    exact y1 rfl (t_many (by omega) hm fun s hs => t_swapL (by omega) hm g (out0 h) (fun s' hs' => ⟨rfl, R_mind h zc hs'.tf⟩) s hs)
  · refine n1 e (s_refused (rg_ok e) ?_)
    unfold w_X9_swap
    exact t_notWeeks (n1 e (t_no (rg_ok e) ⟨rfl, R_ref h (rg_ok e)⟩))
end
section
/-! pure part: places, fewest -/
def twI (i : Nat) : Nat := 100 * (i / 16) + 10 * (i / 4 % 4) + i % 4
theorem tw_x : ∀ i, i < 64 → (((nI i / 16) * 100) + (((nI i / 4) - (nI i / 4) / 4 * 4) * 10)) + (nI i - nI i / 4 * 4) = nI (twI i) := by decide +kernel
theorem tw_m : ∀ i, i < 64 → ((100 * (nI i / 16)) + (10 * ((nI i / 4) - (nI i / 4) / 4 * 4))) + (nI i - nI i / 4 * 4) = nI (twI i) := by decide +kernel
theorem tw_d : ∀ i, i < 64 → nI (twI i) / 100 = nI (i / 16) ∧ (nI (twI i) / 10) - (nI (twI i) / 10) / 10 * 10 = nI (i / 4 % 4) ∧ nI (twI i) - nI (twI i) / 10 * 10 = nI (i % 4) := by decide +kernel
theorem tw_v : ∀ i, i < 64 → nI i / 16 = nI (i / 16) ∧ (nI i / 4) - (nI i / 4) / 4 * 4 = nI (i / 4 % 4) ∧ nI i - nI i / 4 * 4 = nI (i % 4) := by decide +kernel
def plC (c : Ct) (p q r i : Nat) : Ct := u2 (u2 (u2 c 3 p (nI (i / 16))) 3 q (nI (i / 4 % 4))) 3 r (nI (i % 4))
def plN (n nL w p q r : Nat) (c : Ct) (i : Nat) : Nat := cnF n nL w (plC c p q r i)
def plS (N : Nat → Nat) (i : Nat) (s : Option (Nat × Nat)) : Option (Nat × Nat) := match s with
  | none => some (i, N i)
  | some (b, m) => if N i ≤ m then s else some (i, N i)
def plF (N : Nat → Nat) : Option (Nat × Nat) := fr 0 64 (plS N) none
theorem vC_pl {n nL p q r i : Nat} {c : Ct} (h : vC n nL c) : vC n nL (plC c p q r i) := vC_u4 (vC_u4 (vC_u4 h (by decide) (by decide)) (by decide) (by decide)) (by decide) (by decide)
/-- after the first, something is found; how much is known -/
def plI (N : Nat → Nat) (e : Nat) (s : Option (Nat × Nat)) : Prop := (e = 0 ∧ s = none) ∨ ∃ b, b < 64 ∧ s = some (b, N b)
theorem plI_s {N : Nat → Nat} {i : Nat} {s : Option (Nat × Nat)} (hi : i < 64) (h : plI N i s) : plI N (i + 1) (plS N i s) := by
  rcases h with ⟨-, rfl⟩ | ⟨b, hb, rfl⟩
  · exact Or.inr ⟨i, hi, rfl⟩
  · refine Or.inr ?_
    unfold plS
    simp only
    split
    · exact ⟨b, hb, rfl⟩
    · exact ⟨i, hi, rfl⟩
theorem pl_some (N : Nat → Nat) : ∃ b, b < 64 ∧ plF N = some (b, N b) := by
  rcases fr_inv (plI N) (plS N) (Nat.zero_le 64) (Or.inl ⟨rfl, rfl⟩) (fun i s _ hi hs => plI_s hi hs) with ⟨h, -⟩ | h
  · cases h
  · exact h
theorem x_openPlaced {st : St} {c0 : Ct} {n nL w p q r i : Nat} {K : Int32 → St → Prop} (hz : zC (cv st 11)) (h0 : zn c0) (hv : vC n nL (cv st 11)) (hw : w < 2147483648) (hp : p < 6) (hq : q < 6) (hr : r < 6) (hi : i < 64) (h : ∀ c', zn c' → K (nI (plN n nL w p q r (cv st 11) i)) (sv st 99 c')) : w_X4_openPlaced (nI p) (nI q) (nI r) (nI w) (nI (twI i)) (sv st 99 c0) K := by
  obtain ⟨d1, d2, d3⟩ := tw_d i hi
  unfold w_X4_openPlaced
  rw [d1, d2, d3]
  refine m_become hz h0 (m_move hp (m_move hq (m_move hr ?_)))
  have eb : u2 (u2 (u2 (bec (cv st 11)) 3 p (nI (i / 16))) 3 q (nI (i / 4 % 4))) 3 r (nI (i % 4)) = bec (plC (cv st 11) p q r i) := by
    unfold plC
    rw [bec_u2 (by decide), bec_u2 (by decide), bec_u2 (by decide)]
  rw [eb]
  exact m_passWeeks hw (vC_pl hv) (h _ (zn_wkF hv.1 hv.2.1 (zn_town (zn_town (zn_town ⟨hz, nC_cv⟩ hp) hq) hr)))
def plX : Option (Nat × Nat) → Int32 × Int32
  | none => (0, -1)
  | some (b, m) => (nI (twI b), nI m)
def plM : Option (Nat × Nat) → Int32 × Int32
  | none => (-9, -9)
  | some (b, m) => (nI (twI b), nI m)
theorem pl_lt {n nL w p q r i : Nat} {c : Ct} (h : vC n nL c) : plN n nL w p q r c i < 7 := cn_lt (vC_pl h)
theorem x_bestPlaces {st : St} {c0 : Ct} {n nL w p q r : Nat} {K : Int32 → St → Prop} (hz : zC (cv st 11)) (h0 : zn c0) (hv : vC n nL (cv st 11)) (hw : w < 2147483648) (hp : p < 6) (hq : q < 6) (hr : r < 6) (h : ∀ b c', b < 64 → plF (plN n nL w p q r (cv st 11)) = some (b, plN n nL w p q r (cv st 11) b) → zn c' → K (nI (twI b)) (sv st 99 c')) : w_X4_bestPlaces (nI p) (nI q) (nI r) (nI w) (sv st 99 c0) K := by
  unfold w_X4_bestPlaces
  refine lo_frD (fun m i (s : Option (Nat × Nat)) c' => w_X4_bestPlaces_L9 (nI p) (nI q) (nI r) (nI w) K m (plX s).1 (plX s).2 (nI i) (sv st 99 c')) (plS (plN n nL w p q r (cv st 11))) (plI (plN n nL w p q r (cv st 11))) (fun _ c' => zn c') none c0 (Nat.zero_le 64) (Or.inl ⟨rfl, rfl⟩) (fun i s _ hi hs => plI_s hi hs) h0 (fun _ m d hd => ?_) (fun m i s d _ hi hs hd hk => ?_)
  · obtain ⟨b, hb, e⟩ := pl_some (plN n nL w p q r (cv st 11))
    rw [w_X4_bestPlaces_L9, w_X4_bestPlaces_L9q]
    refine y1 (nI_le (Nat.le_refl 64) (by decide)) ?_
    have e' : fr 0 64 (plS (plN n nL w p q r (cv st 11))) none = some (b, plN n nL w p q r (cv st 11) b) := e
    rw [e']
    exact h b d hb e hd
  · rw [w_X4_bestPlaces_L9, w_X4_bestPlaces_L9q, tw_x i hi]
    refine n1 (nI_ge hi (by decide)) (x_openPlaced hz hd hv hw hp hq hr hi fun c' zc => ?_)
    have l1 := pl_lt (w := w) (p := p) (q := q) (r := r) (i := i) hv
    rcases hs with ⟨-, rfl⟩ | ⟨b, hb, rfl⟩
    · have ng : ¬ nI (plN n nL w p q r (cv st 11) i) ≤ (plX none).2 := fun z => by
        have := Int32.lt_of_le_of_lt z (show (plX none).2 < 0 by decide)
        exact n_lt0 (by omega) this
      refine n1 ng ?_
      rw [w_X4_bestPlaces_b69, nI_inc]
      exact hk c' zc
    · have l2 := pl_lt (w := w) (p := p) (q := q) (r := r) (i := b) hv
      unfold plS at hk
      simp only at hk
      show (nI (plN n nL w p q r (cv st 11) i) ≤ nI (plN n nL w p q r (cv st 11) b) → _) ∧ _
      by_cases e2 : plN n nL w p q r (cv st 11) i ≤ plN n nL w p q r (cv st 11) b
      · rw [if_pos e2] at hk
        refine y1 (nI_le e2 (by omega)) ?_
        rw [w_X4_bestPlaces_b69, nI_inc]
        exact hk c' zc
      · rw [if_neg e2] at hk
        refine n1 (fun y => e2 ((nJ_le (by omega) (by omega)).mp y)) ?_
        rw [w_X4_bestPlaces_b69, nI_inc]
        exact hk c' zc
/-- the check's change of three towns, kept aside and put back -/
theorem t_places {n nL w p q r : Nat} {x : Int32} {mt : St} {c : Ct} {K : Int32 → St → Prop} (hw : w < 2147483648) (hm : RM n nL mt c) (h11 : mt 0 11 = 0) (hp : p < n) (hq : q < n) (hr : r < n) (hk : ∀ b s, b < 64 → plF (plN n nL w p q r c) = some (b, plN n nL w p q r c b) → tf mt s → K (if x = 0 then nI (twI b) else nI (plN n nL w p q r c b)) s) : w_X9_places_b57 (nI p) (nI q) (nI r) (nI w) x K 0 mt := by
  have hn := hm.1.1
  have hv := hm.1
  have clp : (nI p).toNatClampNeg = p := clI (show p < 6 by omega) (by decide)
  have clq : (nI q).toNatClampNeg = q := clI (show q < 6 by omega) (by decide)
  have clr : (nI r).toNatClampNeg = r := clI (show r < 6 by omega) (by decide)
  have vp : vp_in (nI p) 6 := vp_in_nI (by omega) (by decide)
  have vq : vp_in (nI q) 6 := vp_in_nI (by omega) (by decide)
  have vr : vp_in (nI r) 6 := vp_in_nI (by omega) (by decide)
  rw [w_X9_places_b57]
  refine y1 rfl ?_
  unfold w_X9_changes
  refine t_saves (w := 1) (by decide) fun m1 a1 a2 a3 => ?_
  have hm1 : RM n nL m1 c := RM_off hm (fun j h1 h2 => a1 j (by omega) (by omega)) (fun i h1 h2 => a2 i (by omega) (by omega))
  have h11' : m1 0 11 = 0 := (a2 11 (by decide) (by decide)).trans h11
  -- back to the start
  have fin : ∀ (x1 x2 x3 : Int32) (s : St) (b : Nat), hf (u2 (u2 (u2 m1 4 p x1) 4 q x2) 4 r x3) s → b < 64 → plF (plN n nL w p q r c) = some (b, plN n nL w p q r c b) → w_X9_places_b180 (nI p) (nI q) (nI r) (nI w) x K (nI (twI b)) (nI (plN n nL w p q r c b)) s := fun x1 x2 x3 s b hs hb e => by
    rw [w_X9_places_b180]
    unfold w_X9_changesBack
    refine t_puts (w := 1) (by decide) fun s' b1 b2 b3 => ?_
    have off : ∀ j, j ≠ 4 → u2 (u2 (u2 m1 4 p x1) 4 q x2) 4 r x3 j = m1 j := fun j hj => by rw [u2_off hj, u2_off hj, u2_off hj]
    have s0 : ∀ a, a ≠ 8 → a ≠ 9 → a ≠ 10 → a ≠ 21 → a ≠ 22 → a ≠ 25 → a ≠ 26 → s' 0 a = mt 0 a := fun a q1 q2 q3 q4 q5 q6 q7 => by
      rw [b3 a q1 q2 q3 q4 q5, hs.2.2.1 a q1 q2 q3 q4 q5 q6 q7, off 0 (by decide)]
      exact a2 a q4 q5
    have s1 : ∀ j, j ≠ 0 → (j < 2 ∨ 8 < j) → j ≠ 13 → j ≠ 14 → s' j = mt j := fun j q1 q2 q3 q4 => by
      rw [b2 j q1 q2, hs.2.1 j q1 q2 q3 q4, off j (by omega)]
      exact a1 j q1 q3
    have s13 : ∀ a, (a < 150 ∨ 225 ≤ a) → s' 13 a = m1 13 a := fun a ha => by
      rw [b2 13 (by decide) (by decide), hs.2.2.2 a ha, off 13 (by decide)]
    have ht : tf mt s' := by
      refine ⟨fun i hi => ?_, s0 11 (by decide) (by decide) (by decide) (by decide) (by decide) (by decide) (by decide), s1 1 (by decide) (by decide) (by decide) (by decide), s1 9 (by decide) (by decide) (by decide) (by decide), s1 16 (by decide) (by decide) (by decide) (by decide), s0 16 (by decide) (by decide) (by decide) (by decide) (by decide) (by decide) (by decide), s0 20 (by decide) (by decide) (by decide) (by decide) (by decide) (by decide) (by decide), s0 23 (by decide) (by decide) (by decide) (by decide) (by decide) (by decide) (by decide), s0 29 (by decide) (by decide) (by decide) (by decide) (by decide) (by decide) (by decide), fun a ha => ?_⟩
      · rw [b1 i hi, hs.2.2.2 _ (by omega), off 13 (by decide), a3, if_pos ⟨by omega, by omega⟩]
        congr 1; omega
      · rw [s13 a (by omega), a3, if_neg (by omega)]
    have := hk b s' hb e ht
    by_cases ex : x = 0
    · rw [if_pos ex] at this; exact y2 ex this
    · rw [if_neg ex] at this; exact n2 ex this
  refine lo_frD (fun m i (s : Option (Nat × Nat)) d => w_X9_places_L84 (nI p) (nI q) (nI r) (nI w) x K m (plM s).1 (plM s).2 (nI i) d) (plS (plN n nL w p q r c)) (plI (plN n nL w p q r c)) (fun _ d => ∃ x1 x2 x3, hf (u2 (u2 (u2 m1 4 p x1) 4 q x2) 4 r x3) d) none m1 (Nat.zero_le 64) (Or.inl ⟨rfl, rfl⟩) (fun i s _ hi hs => plI_s hi hs) ⟨m1 4 p, m1 4 q, m1 4 r, by rw [u2_id (show u2 (u2 m1 4 p (m1 4 p)) 4 q (m1 4 q) 4 r = m1 4 r by rw [u2_id rfl, u2_id rfl]), u2_id rfl, u2_id rfl]; exact hf_rf⟩ (fun _ m d hd => ?_) (fun m i s d _ hi hs hd hk2 => ?_)
  · obtain ⟨x1, x2, x3, hd⟩ := hd
    obtain ⟨b, hb, e⟩ := pl_some (plN n nL w p q r c)
    rw [w_X9_places_L84, w_X9_places_L84q]
    refine y1 (nI_le (Nat.le_refl 64) (by decide)) ?_
    have e' : fr 0 64 (plS (plN n nL w p q r c)) none = some (b, plN n nL w p q r c b) := e
    rw [e']
    exact fin x1 x2 x3 d b hd hb e
  · obtain ⟨x1, x2, x3, hd⟩ := hd
    obtain ⟨v1, v2, v3⟩ := tw_v i hi
    rw [w_X9_places_L84, w_X9_places_L84q, tw_m i hi, v1, v2, v3, clp, clq, clr]
    refine n1 (nI_ge hi (by decide)) ⟨vp, vq, vr, ?_⟩
    have h1 : hf (u2 (u2 (u2 m1 4 p (nI (i / 16))) 4 q (nI (i / 4 % 4))) 4 r (nI (i % 4))) (u2 (u2 (u2 d 4 p (nI (i / 16))) 4 q (nI (i / 4 % 4))) 4 r (nI (i % 4))) := by
      have q1 := hf_over (v := 0) (i := p) (nI (i / 16)) hd (show 2 ≤ 4 ∧ 4 ≤ 8 by decide)
      have q2 := hf_over (v := 0) (i := q) (nI (i / 4 % 4)) q1 (show 2 ≤ 4 ∧ 4 ≤ 8 by decide)
      have q3 := hf_over (v := 0) (i := r) (nI (i % 4)) q2 (show 2 ≤ 4 ∧ 4 ≤ 8 by decide)
      have e : u2 (u2 (u2 (u2 (u2 (u2 m1 4 p x1) 4 q x2) 4 r x3) 4 p (nI (i / 16))) 4 q (nI (i / 4 % 4))) 4 r (nI (i % 4)) = u2 (u2 (u2 m1 4 p (nI (i / 16))) 4 q (nI (i / 4 % 4))) 4 r (nI (i % 4)) := by
        funext a b
        simp only [u2_if]
        by_cases y1 : a = 4 ∧ b = r
        · simp only [if_pos y1]
        · by_cases y2 : a = 4 ∧ b = q
          · simp only [if_neg y1, if_pos y2]
          · by_cases y3 : a = 4 ∧ b = p
            · simp only [if_neg y1, if_neg y2, if_pos y3]
            · simp only [if_neg y1, if_neg y2, if_neg y3]
      rw [e] at q3
      exact q3
    have rm : RM n nL (u2 (u2 (u2 d 4 p (nI (i / 16))) 4 q (nI (i / 4 % 4))) 4 r (nI (i % 4))) (plC c p q r i) :=
      RM_hf (RM_town (RM_town (RM_town hm1 h11' (tn1 _ (by omega))) (by rw [u2_off (by decide)]; exact h11') (tn1 _ (by omega))) (by rw [u2_off (by decide), u2_off (by decide)]; exact h11') (tn1 _ (by omega))) h1
    refine t_many hw rm fun s1 hs1 => ?_
    show ((plM s).2 < nI (plN n nL w p q r c i) → _) ∧ _
    have D1 : ∃ x1 x2 x3, hf (u2 (u2 (u2 m1 4 p x1) 4 q x2) 4 r x3) s1 := ⟨_, _, _, h1.tr hs1⟩
    have l1 := pl_lt (w := w) (p := p) (q := q) (r := r) (i := i) hv
    rcases hs with ⟨-, rfl⟩ | ⟨b, hb, rfl⟩
    · have ng : (plM none).2 < nI (plN n nL w p q r c i) := Int32.lt_of_lt_of_le (show (plM none).2 < 0 by decide) (n_le0 (by omega))
      refine y1 ng ?_
      rw [w_X9_places_b174, nI_inc]
      exact hk2 s1 D1
    · have l2 := pl_lt (w := w) (p := p) (q := q) (r := r) (i := b) hv
      unfold plS at hk2
      simp only at hk2
      show (nI (plN n nL w p q r c b) < nI (plN n nL w p q r c i) → _) ∧ _
      by_cases e2 : plN n nL w p q r c i ≤ plN n nL w p q r c b
      · rw [if_pos e2] at hk2
        refine n1 (fun y => absurd ((nJ_lt (by omega) (by omega)).mp y) (by omega)) ?_
        rw [w_X9_places_b174, nI_inc]
        exact hk2 s1 D1
      · rw [if_neg e2] at hk2
        refine y1 ((nJ_lt (by omega) (by omega)).mpr (by omega)) ?_
        rw [w_X9_places_b174, nI_inc]
        exact hk2 s1 D1
theorem sim_places {st mt : St} (h : R st mt) (x1 x2 x3 x4 x5 : Int32) : w_X8_places x1 x2 x3 x4 x5 st (fun r st' => w_X9_places x1 x2 x3 x4 x5 mt (fun r' mt' => r = r' ∧ R st' mt')) := by
  obtain ⟨n, nL, hm, g, hn, hL, h7, h8, k8, k9⟩ := h.ctx
  -- the check refuses a nobody
  have nob : ∀ K : Int32 → St → Prop, (twF n x1 x2 = 0 ∨ twF n x1 x3 = 0 ∨ twF n x2 x3 = 0) → K (-1) (refS mt (-1)) → w_X9_places x1 x2 x3 x4 x5 mt K := fun K z hK => by
    have b27 : w_X9_places_b27 x1 x2 x3 x4 x5 K mt := by
      rw [w_X9_places_b27, w_X9_places_b36]
      refine n2 (by decide) ?_
      rw [w_X9_places_b57]
      exact n1 (by decide) (t_no rO1 hK)
    unfold w_X9_places
    refine t_areTwo k8 ⟨fun _ => b27, fun y1' => t_areTwo k8 ⟨fun _ => b27, fun y2' => t_areTwo k8 ⟨fun y3' => ?_, fun _ => b27⟩⟩⟩
    rcases z with z | z | z
    · exact absurd z y1'
    · exact absurd z y2'
    · exact absurd z y3'
  unfold w_X8_places
  refine s_twoRef h7 (s_twoRef h7 (s_twoRef h7 (s_firstOf (s_range (s_choice (s_firstOf ?_))))))
  by_cases e : twF n x1 x2 = 0 ∨ twF n x1 x3 = 0 ∨ twF n x2 x3 = 0
  · have ef : firstF (nbF (twF n x1 x2)) (nbF (twF n x1 x3)) (nbF (twF n x2 x3)) = -1 := by
      unfold firstF
      by_cases z1 : twF n x1 x2 = 0
      · rw [nb0 z1, if_neg (by decide)]
      · rw [nb1 z1, if_pos rfl]
        by_cases z2 : twF n x1 x3 = 0
        · rw [nb0 z2, if_neg (by decide)]
        · rw [nb1 z2, if_pos rfl]
          exact nb0 ((e.resolve_left z1).resolve_left z2)
    rw [ef, f1 (by decide)]
    exact n1 (by decide) (s_refused rO1 (nob _ e ⟨rfl, R_ref h rO1⟩))
  · have z1 : ¬ twF n x1 x2 = 0 := fun z => e (Or.inl z)
    have z2 : ¬ twF n x1 x3 = 0 := fun z => e (Or.inr (Or.inl z))
    have z3 : ¬ twF n x2 x3 = 0 := fun z => e (Or.inr (Or.inr z))
    rw [nb1 z1, nb1 z2, nb1 z3, f00]
    have chk : ∀ K : Int32 → St → Prop, w_X9_places_b36 x1 x2 x3 x4 x5 K (rangeF x4 0 60) mt → w_X9_places x1 x2 x3 x4 x5 mt K := fun K hK => by
      unfold w_X9_places
      exact t_areTwo k8 (n1 z1 (t_areTwo k8 (n1 z2 (t_areTwo k8 (n2 z3 (t_notWeeks hK))))))
    by_cases e2 : rangeF x4 0 60 = 0
    · rw [e2] at chk ⊢
      obtain ⟨w, -, hw, rfl⟩ := rg_nI (a := 0) (b := 60) (by decide) (by decide) e2
      by_cases e3 : inF x5 0 1 = 0
      · rw [ch_out e3, f00]
        refine n1 (by decide) (s_refused rO2 (chk _ ?_))
        rw [w_X9_places_b36]
        refine y2 rfl (t_isIn' (y2 e3 ?_))
        rw [w_X9_places_b57]
        exact n1 (by decide) (t_no rO2 ⟨rfl, R_ref h rO2⟩)
      · rw [ch_in e3, f00]
        obtain ⟨p, q, hp, hq, hpq, rfl, rfl⟩ := twF_1 (by omega) z1
        obtain ⟨p', r, hp', hr, -, e4, rfl⟩ := twF_1 (by omega) z2
        have chk2 : ∀ K : Int32 → St → Prop, (∀ b s, b < 64 → plF (plN n nL w p q r (cv st 11)) = some (b, plN n nL w p q r (cv st 11) b) → tf mt s → K (if x5 = 0 then nI (twI b) else nI (plN n nL w p q r (cv st 11) b)) s) → w_X9_places (nI p) (nI q) (nI r) (nI w) x5 mt K := fun K hK => by
          refine chk K ?_
          rw [w_X9_places_b36]
          exact y2 rfl (t_isIn' (n2 e3 (t_places (by omega) hm (out0 h) hp hq hr hK)))
        refine y1 rfl (mind0 (fun s => w_X4_bestPlaces (nI p) (nI q) (nI r) (nI w) s _) (fun c0 z0 => x_bestPlaces h.z11 z0 hm.1 (by omega) (by omega) (by omega) (by omega) fun b c' hb eb zc => ⟨fun y => x_openPlaced h.z11 zc hm.1 (by omega) (by omega) (by omega) (by omega) hb fun c2 zc2 => chk2 _ fun b' s' hb' eb' ht => ?_, fun y => chk2 _ fun b' s' hb' eb' ht => ?_⟩) h.z99)
        · rw [eb] at eb'
          cases eb'
          rw [if_neg y]
          exact ⟨rfl, R_mind h zc2 ht⟩
        · rw [eb] at eb'
          cases eb'
          rw [if_pos y]
          exact ⟨rfl, R_mind h zc ht⟩
    · have ef : ∀ v, firstF 0 (rangeF x4 0 60) v = rangeF x4 0 60 := fun v => f01 e2 v
      rw [ef]
      refine n1 e2 (s_refused (rg_ok e2) (chk _ ?_))
      rw [w_X9_places_b36]
      refine n2 e2 ?_
      rw [w_X9_places_b57]
      exact n1 e2 (t_no (rg_ok e2) ⟨rfl, R_ref h (rg_ok e2)⟩)
end
section
/-! pure part: fewest -/
def kpS (b k : Nat) (c : Ct) : Ct := if b.testBit k then c else u2 c 3 k (-1)
def kpF (n : Nat) (c : Ct) (b : Nat) : Ct := fr 0 n (kpS b) c
theorem kp_off {n b j : Nat} {c : Ct} (hj : j ≠ 3) : kpF n c b j = c j := fr_comp (fun k c => by unfold kpS; split; rfl; exact u2_off hj) (Nat.zero_le n)
theorem kp_3 {n b p : Nat} {c : Ct} (hp : p < n) : kpF n c b 3 p = if b.testBit p then c 3 p else -1 := by
  have key := fr_inv (fun i (x : Ct) => ∀ p, x 3 p = if p < i ∧ b.testBit p = false then -1 else c 3 p) (kpS b) (Nat.zero_le n) (s0 := c) (fun p => by rw [if_neg (fun z => absurd z.1 (Nat.not_lt_zero p))]) (fun i x _ _ hx p => by
    unfold kpS
    cases e : b.testBit i with
    | true =>
      rw [if_pos rfl, hx p]
      by_cases z : p < i ∧ b.testBit p = false
      · rw [if_pos z, if_pos ⟨by omega, z.2⟩]
      · rw [if_neg z, if_neg]
        intro y
        by_cases ep : p = i
        · subst ep; rw [e] at y; cases y.2
        · exact z ⟨by omega, y.2⟩
    | false =>
      rw [if_neg (by decide), u2_if]
      by_cases ep : p = i
      · subst ep
        rw [if_pos ⟨rfl, rfl⟩, if_pos ⟨by omega, e⟩]
      · rw [if_neg (fun z => ep z.2), hx p]
        by_cases z : p < i ∧ b.testBit p = false
        · rw [if_pos z, if_pos ⟨by omega, z.2⟩]
        · rw [if_neg z, if_neg]
          intro y
          exact z ⟨by omega, y.2⟩)
  have := key p
  unfold kpF
  rw [this]
  cases e : b.testBit p with
  | true => rw [if_neg (by simp), if_pos rfl]
  | false => rw [if_pos ⟨hp, rfl⟩, if_neg (by decide)]
theorem kp_bec {n b : Nat} {c : Ct} : fr 0 n (kpS b) (bec c) = bec (kpF n c b) := by
  induction n with
  | zero => rfl
  | succ n ih =>
    unfold kpF at ih ⊢
    rw [fr_succ (Nat.zero_le n), fr_succ (Nat.zero_le n), ih]
    unfold kpS
    split
    · rfl
    · rw [bec_u2 (by decide)]
theorem vC_kp {n nL b m : Nat} {c : Ct} (h : vC n nL c) : vC n nL (kpF m c b) := by
  obtain ⟨h1, h2, h3, h4, h5, h6, h7⟩ := h
  exact vC_of h1 h2 (by rw [kp_off (by decide)]; exact h3) (by rw [kp_off (by decide)]; exact h4) (fun l hl => by rw [kp_off (by decide)]; exact h5 l hl) ⟨ob c, h7, by rw [kp_off (by decide)]; exact h6⟩
theorem ob_kp {n b : Nat} {c : Ct} : ob (kpF n c b) = ob c := by unfold ob; rw [kp_off (by decide)]
theorem zn_kp {n b : Nat} {c : Ct} (hn : n ≤ 6) (h : zn c) : zn (kpF n c b) := fr_inv (fun _ c => zn c) _ (Nat.zero_le n) h fun k c _ hk hc => by
  unfold kpS
  split
  · exact hc
  · exact zn_town hc (by omega)
def kN (n nL w : Nat) (c : Ct) (b : Nat) : Nat := cnF n nL w (kpF n c b)
theorem kN_lt {n nL w b : Nat} {c : Ct} (h : vC n nL c) : kN n nL w c b < 7 := cn_lt (vC_kp h)
theorem x_openKept {st : St} {c0 : Ct} {n nL w b : Nat} {K : Int32 → St → Prop} (hz : zC (cv st 11)) (h0 : zn c0) (hv : vC n nL (cv st 11)) (h7 : st 11 7 = nI n) (hw : w < 2147483648) (hb : b < 64) (h : ∀ c', zn c' → K (nI (kN n nL w (cv st 11) b)) (sv st 99 c')) : w_X4_openKept (nI b) (nI w) (sv st 99 c0) K := by
  have hn := hv.1
  unfold w_X4_openKept
  refine m_become hz h0 ?_
  refine lo_fr (fun m k (c : Ct) => w_X4_openKept_L13 (nI b) (nI w) K m (nI k) (sv st 99 c)) (kpS b) (fun _ _ => True) (bec (cv st 11)) (Nat.zero_le n) trivial (fun _ _ _ _ _ => trivial) (fun _ m => ?_) (fun m k c _ hk _ hK => ?_)
  · rw [w_X4_openKept_L13, w_X4_openKept_L13q]
    unfold w_X1_keeperCount
    rw [o11, h7]
    refine y1 (nI_le (Nat.le_refl n) (by omega)) ?_
    rw [w_X4_openKept_b47, kp_bec]
    exact m_passWeeks hw (vC_kp hv) (h _ (zn_wkF hn hv.2.1 (zn_kp hn ⟨hz, nC_cv⟩)))
  · rw [w_X4_openKept_L13, w_X4_openKept_L13q]
    unfold w_X1_keeperCount
    rw [o11, h7]
    refine n1 (nI_ge hk (by omega)) (s_bitN (by omega) (by omega) ?_)
    unfold kpS at hK
    cases e : b.testBit k with
    | true =>
      rw [e, if_pos rfl] at hK
      rw [if_pos rfl]
      refine n2 (by decide) ?_
      rw [w_X4_openKept_b41, nI_inc]
      exact hK
    | false =>
      rw [e, if_neg (by decide)] at hK
      rw [if_neg (by decide)]
      refine y2 rfl (m_move (by omega) ?_)
      rw [w_X4_openKept_b41, nI_inc]
      exact hK
def fwG (A due : Nat) (N : Nat → Nat) (s : Nat) : Prop := s = A ∨ due ≤ N s
def fwB (b s : Nat) : Prop := pc b < pc s ∨ (pc b = pc s ∧ b ≤ s)
/-- the fewest to be kept -/
def ChW (A due : Nat) (N : Nat → Nat) (b : Nat) : Prop := b ≤ A ∧ fwG A due N b ∧ ∀ s, s ≤ A → fwG A due N s → fwB b s
theorem ChW_1 {A due : Nat} {N : Nat → Nat} {b b' : Nat} (h : ChW A due N b) (h' : ChW A due N b') : b = b' := by
  have h1 := h.2.2 b' h'.1 h'.2.1
  have h2 := h'.2.2 b h.1 h.2.1
  unfold fwB at h1 h2
  omega
theorem pcA : ∀ n, n < 7 → ∀ i, i < 64 → i < 2 ^ n - 1 → pc i < pc (2 ^ n - 1) := by decide +kernel
theorem shA : ∀ n, n < 7 → ((1 : Int32) <<< (nI n &&& 31)) - 1 = nI (2 ^ n - 1) := by decide +kernel
theorem A64 : ∀ n, n < 7 → 2 ^ n - 1 < 64 := by decide
theorem x_fewestKept {st : St} {c0 : Ct} {n nL w : Nat} {K : Int32 → St → Prop} (hz : zC (cv st 11)) (h0 : zn c0) (hv : vC n nL (cv st 11)) (h7 : st 11 7 = nI n) (hw : w < 2147483648) (h : ∀ b c', ChW (2 ^ n - 1) (cnF n nL w (cv st 11)) (kN n nL w (cv st 11)) b → zn c' → K (nI b) (sv st 99 c')) : w_X4_fewestKept (nI w) (sv st 99 c0) K := by
  have hn := hv.1
  have hA := A64 n (by omega)
  unfold w_X4_fewestKept w_X1_keeperCount
  rw [o11, h7]
  show w_X4_openAsAllIs (nI w) (sv st 99 c0) (fun r14 st14 => ∃ m, w_X4_fewestKept_L24 (nI w) K m (((1 : Int32) <<< (nI n &&& 31)) - 1) r14 (((1 : Int32) <<< (nI n &&& 31)) - 1) 0 st14)
  rw [shA n (by omega)]
  refine x_openAsAllIs hz h0 hv hw fun c1 z1 => ?_
  have dl := cn_lt (w := w) hv
  show ∃ m, w_X4_fewestKept_L24 (nI w) K m (nI (2 ^ n - 1)) (nI (cnF n nL w (cv st 11))) (nI (2 ^ n - 1)) (nI 0) (sv st 99 c1)
  refine lo_rel (fun m i (z : Nat × Ct) => w_X4_fewestKept_L24 (nI w) K m (nI (2 ^ n - 1)) (nI (cnF n nL w (cv st 11))) (nI z.1) (nI i) (sv st 99 z.2)) (fun i z => (z.1 < i ∨ z.1 = 2 ^ n - 1) ∧ z.1 ≤ 2 ^ n - 1 ∧ fwG (2 ^ n - 1) (cnF n nL w (cv st 11)) (kN n nL w (cv st 11)) z.1 ∧ (∀ s, s < i → fwG (2 ^ n - 1) (cnF n nL w (cv st 11)) (kN n nL w (cv st 11)) s → fwB z.1 s) ∧ zn z.2) (2 ^ n - 1, c1) (Nat.zero_le (2 ^ n - 1)) ⟨Or.inr rfl, Nat.le_refl _, Or.inl rfl, fun s hs => absurd hs (Nat.not_lt_zero s), z1⟩ (fun z hI m => ?_) (fun m i z _ hi hI hk => ?_)
  · obtain ⟨i1, i2, i3, i4, i5⟩ := hI
    rw [w_X4_fewestKept_L24, w_X4_fewestKept_L24q]
    refine y1 (nI_le (Nat.le_refl _) (by omega)) (h z.1 z.2 ⟨i2, i3, fun s hs hg => ?_⟩ i5)
    by_cases e : s < 2 ^ n - 1
    · exact i4 s e hg
    · have es : s = 2 ^ n - 1 := by omega
      subst es
      by_cases ez : z.1 = 2 ^ n - 1
      · exact Or.inr ⟨by rw [ez], i2⟩
      · exact Or.inl (pcA n (by omega) z.1 (by omega) (by omega))
  · obtain ⟨i1, i2, i3, i4, i5⟩ := hI
    have pi := pc_lt i (by omega)
    have pz := pc_lt z.1 (by omega)
    rw [w_X4_fewestKept_L24, w_X4_fewestKept_L24q]
    refine n1 (nI_ge hi (by omega)) (s_bitCount (by omega) (s_bitCount (by omega) ?_))
    have keep : ∀ c', zn c' → (fwG (2 ^ n - 1) (cnF n nL w (cv st 11)) (kN n nL w (cv st 11)) i → fwB z.1 i) → w_X4_fewestKept_b70 (nI w) (fun v2 v3 v4 v5 st => w_X4_fewestKept_L24 (nI w) K m v2 v3 v4 v5 st) K (nI (2 ^ n - 1)) (nI (cnF n nL w (cv st 11))) (nI z.1) (nI i) (sv st 99 c') := fun c' zc hb => by
      rw [w_X4_fewestKept_b70, nI_inc]
      refine hk (z.1, c') ⟨by have : z.1 < i + 1 ∨ z.1 = 2 ^ n - 1 := by omega
                              exact this, i2, i3, fun s hs hg => ?_, zc⟩
      by_cases e : s = i
      · subst e; exact hb hg
      · exact i4 s (by omega) hg
    by_cases e1 : pc z.1 ≤ pc i
    · refine y1 (nI_le e1 (by omega)) ?_
      rw [w_X4_fewestKept_b48]
      refine y1 rfl (keep z.2 i5 fun _ => ?_)
      by_cases e2 : pc z.1 = pc i
      · refine Or.inr ⟨e2, ?_⟩
        rcases i1 with i1 | i1
        · omega
        · have := pcA n (by omega) i (by omega) hi
          rw [i1] at e2
          omega
      · exact Or.inl (by omega)
    · refine n1 (fun y => e1 ((nJ_le (by omega) (by omega)).mp y)) ?_
      rw [w_X4_fewestKept_b48]
      refine n1 (by decide) (x_openKept hz i5 hv h7 hw (by omega) fun c' zc => ?_)
      have kl := kN_lt (w := w) (b := i) hv
      by_cases e2 : kN n nL w (cv st 11) i < cnF n nL w (cv st 11)
      · refine y1 ((nJ_lt (by omega) (by omega)).mpr e2) (keep c' zc fun hg => ?_)
        rcases hg with hg | hg
        · omega
        · omega
      · refine n1 (fun y => e2 ((nJ_lt (by omega) (by omega)).mp y)) ?_
        rw [w_X4_fewestKept_b70, nI_inc]
        refine hk (i, c') ⟨Or.inl (show i < i + 1 by omega), by show i ≤ _; omega, Or.inr (by show _ ≤ kN n nL w (cv st 11) i; omega), fun s hs hg => ?_, zc⟩
        by_cases e : s = i
        · subst e; exact Or.inr ⟨rfl, Nat.le_refl _⟩
        · have := i4 s (by omega) hg
          unfold fwB at this ⊢
          show pc i < pc s ∨ _
          omega
theorem has_not : ∀ b, b < 64 → ∀ p, p < 6 → ((((nI b ^^^ (-1)) >>> (nI p &&& 31)) &&& 1) = 1 ↔ b.testBit p = false) := by decide +kernel
theorem RM_kept {n nL b : Nat} {mt : St} {c : Ct} (h : RM n nL mt c) (h0 : mt 0 11 = 0) (hb : b < 64) : RM n nL (u2 mt 0 11 (nI b ^^^ (-1))) (kpF n c b) := by
  obtain ⟨g1, g2, g3, g4, g5, g6, g7, g8⟩ := h
  have hn := g1.1
  refine ⟨vC_kp g1, fun p q a b => by rw [kp_off (by decide)]; exact g2 p q a b, by rw [u2_0 (by decide)]; exact g3, by rw [u2_0 (by decide)]; exact g4, by rw [u2_0 (by decide), kp_off (by decide)]; exact g5, fun k hk => ?_, fun p q a b => ?_, fun l hl => ?_⟩
  · obtain ⟨a1, a2, a3, a4⟩ := g6 k hk
    have t0 : c 3 k ≠ -1 := fun z => has0 k (by have := a3.mpr z; rw [h0] at this; exact this)
    rw [u2_off (show (2 : Nat) ≠ 0 by decide), u2_off (show (3 : Nat) ≠ 0 by decide), u2_off (show (4 : Nat) ≠ 0 by decide), u2_same, kp_off (show (1 : Nat) ≠ 3 by decide), kp_off (show (2 : Nat) ≠ 3 by decide), kp_3 hk]
    refine ⟨a1, a2, ?_, ?_⟩
    · unfold hasB
      rw [has_not b hb k (by omega)]
      cases e : b.testBit k with
      | true => rw [if_pos rfl]; exact ⟨fun z => (by cases z), fun z => absurd z t0⟩
      | false => rw [if_neg (by decide)]; exact ⟨fun _ => rfl, fun _ => rfl⟩
    · cases e : b.testBit k with
      | true => rw [if_pos rfl]; exact a4
      | false => rw [if_neg (by decide)]; exact fun z => absurd rfl z
  · rw [u2_off (by decide), kp_off (by decide)]; exact g7 p q a b
  · rw [u2_off (by decide), u2_off (by decide), u2_off (by decide), kp_off (by decide), kp_off (by decide), ob_kp]; exact g8 l hl
theorem hf_out {mt s : St} {x : Int32} (h : hf (u2 mt 0 11 x) s) (h0 : mt 0 11 = 0) : hf mt (u2 s 0 11 0) := by
  refine ⟨fun a ha => ?_, fun k p q r t => ?_, fun a p q r t u w y => ?_, fun a p => ?_⟩
  · rw [lv_u2 (Or.inr ⟨rfl, by decide, by decide, by decide⟩) a ha, h.1 a ha, lv_u2 (Or.inr ⟨rfl, by decide, by decide, by decide⟩) a ha]
  · rw [u2_off p, h.2.1 k p q r t, u2_off p]
  · by_cases e : a = 11
    · subst e; rw [u2_same, h0]
    · rw [u2_0 e, h.2.2.1 a p q r t u w y, u2_0 e]
  · rw [u2_off (by decide), h.2.2.2 a p, u2_off (by decide)]
theorem t_manyBy {n nL w b : Nat} {mt : St} {c : Ct} {K : Int32 → St → Prop} (hw : w < 2147483648) (hm : RM n nL mt c) (h0 : mt 0 11 = 0) (hb : b < 64) (hk : ∀ s, hf mt s → K (nI (kN n nL w c b)) s) : w_X9_manyBy (nI b) (nI w) mt K := by
  unfold w_X9_manyBy
  exact t_many hw (RM_kept hm h0 hb) fun s hs => hk _ (hf_out hs h0)
def dnF (A i : Nat) : Int32 := if i ≤ A then nI (A - i) else -1
theorem dn_s : ∀ A, A < 64 → ∀ i, i < 64 → i ≤ A → dnF A i + (-1) = dnF A (i + 1) := by decide +kernel
theorem t_fewestL {n nL w : Nat} {x : Int32} {mt : St} {c : Ct} {K : Int32 → St → Prop} (hw : w < 2147483648) (hm : RM n nL mt c) (h0 : mt 0 11 = 0) (hk : ∀ b s, ChW (2 ^ n - 1) (cnF n nL w c) (kN n nL w c) b → hf mt s → w_X9_fewest_b95 (nI w) x K (nI b) s) : ∀ s0, hf mt s0 → ∃ m, w_X9_fewest_L55 (nI w) x K m (nI (cnF n nL w c)) (nI (2 ^ n - 1)) (nI (2 ^ n - 1)) s0 := by
  have hv := hm.1
  have hn := hv.1
  have hA := A64 n (by omega)
  have dl := cn_lt (w := w) hv
  intro s0 hs0
  refine lo_rel (fun m i (z : Nat × St) => w_X9_fewest_L55 (nI w) x K m (nI (cnF n nL w c)) (nI z.1) (dnF (2 ^ n - 1) i) z.2) (fun i z => (2 ^ n - 1 < z.1 + i ∨ z.1 = 2 ^ n - 1) ∧ z.1 ≤ 2 ^ n - 1 ∧ fwG (2 ^ n - 1) (cnF n nL w c) (kN n nL w c) z.1 ∧ (∀ s, s ≤ 2 ^ n - 1 → 2 ^ n - 1 < s + i → fwG (2 ^ n - 1) (cnF n nL w c) (kN n nL w c) s → fwB z.1 s) ∧ hf mt z.2) (2 ^ n - 1, s0) (Nat.zero_le (2 ^ n - 1 + 1)) ⟨Or.inr rfl, Nat.le_refl _, Or.inl rfl, fun s hs h1 => by omega, hs0⟩ (fun z hI m => ?_) (fun m i z _ hi hI hk2 => ?_)
  · obtain ⟨i1, i2, i3, i4, i5⟩ := hI
    rw [w_X9_fewest_L55, w_X9_fewest_L55q]
    refine y1 (by unfold dnF; rw [if_neg (by omega)]; decide) (hk z.1 z.2 ⟨i2, i3, fun s hs hg => i4 s hs (by omega) hg⟩ i5)
  · obtain ⟨i1, i2, i3, i4, i5⟩ := hI
    have ed : dnF (2 ^ n - 1) i = nI (2 ^ n - 1 - i) := if_pos (by omega)
    have es := dn_s (2 ^ n - 1) hA i (by omega) (by omega)
    rw [ed] at es
    have pi := pc_lt (2 ^ n - 1 - i) (by omega)
    have pz := pc_lt z.1 (by omega)
    rw [w_X9_fewest_L55, w_X9_fewest_L55q, ed]
    refine n1 (n_lt0 (by omega)) (t_bits (by omega) (t_bits (by omega) ?_))
    have keep : ∀ s', hf mt s' → (fwG (2 ^ n - 1) (cnF n nL w c) (kN n nL w c) (2 ^ n - 1 - i) → fwB z.1 (2 ^ n - 1 - i)) → w_X9_fewest_b89 (nI w) x (fun v4 v5 v6 st => w_X9_fewest_L55 (nI w) x K m v4 v5 v6 st) K (nI (cnF n nL w c)) (nI z.1) (nI (2 ^ n - 1 - i)) s' := fun s' hs' hb => by
      rw [w_X9_fewest_b89, es]
      have a : 2 ^ n - 1 < z.1 + (i + 1) ∨ z.1 = 2 ^ n - 1 := by omega
      refine hk2 (z.1, s') ⟨a, i2, i3, fun s hs h1 hg => ?_, hs'⟩
      by_cases e : s = 2 ^ n - 1 - i
      · subst e; exact hb hg
      · exact i4 s hs (by omega) hg
    by_cases e1 : pc z.1 < pc (2 ^ n - 1 - i)
    · exact y1 ((nJ_lt (by omega) (by omega)).mpr e1) (keep z.2 i5 fun _ => Or.inl e1)
    · refine n1 (fun y => e1 ((nJ_lt (by omega) (by omega)).mp y)) (t_manyBy hw (RM_hf hm i5) ((i5.2.2.1 11 (by decide) (by decide) (by decide) (by decide) (by decide) (by decide) (by decide)).trans h0) (by omega) fun s' hs' => ?_)
      have hs2 := i5.tr hs'
      have kl := kN_lt (w := w) (b := 2 ^ n - 1 - i) hv
      by_cases e2 : kN n nL w c (2 ^ n - 1 - i) < cnF n nL w c
      · refine y1 ((nJ_lt (by omega) (by omega)).mpr e2) (keep s' hs2 fun hg => ?_)
        rcases hg with hg | hg
        · have : i = 0 ∨ 2 ^ n - 1 = 0 := by omega
          have ez : z.1 = 2 ^ n - 1 := by omega
          rw [ez, hg]
          exact Or.inr ⟨rfl, Nat.le_refl _⟩
        · omega
      · refine n1 (fun y => e2 ((nJ_lt (by omega) (by omega)).mp y)) ?_
        rw [w_X9_fewest_b89, es]
        have a : 2 ^ n - 1 < 2 ^ n - 1 - i + (i + 1) ∨ 2 ^ n - 1 - i = 2 ^ n - 1 := by omega
        refine hk2 (2 ^ n - 1 - i, s') ⟨a, by show 2 ^ n - 1 - i ≤ _; omega, Or.inr (by show _ ≤ kN n nL w c (2 ^ n - 1 - i); omega), fun s hs h1 hg => ?_, hs2⟩
        by_cases e : s = 2 ^ n - 1 - i
        · subst e; exact Or.inr ⟨rfl, Nat.le_refl _⟩
        · have := i4 s hs (by omega) hg
          have h1' : 2 ^ n - 1 < s + (i + 1) := h1
          unfold fwB at this ⊢
          show pc (2 ^ n - 1 - i) < pc s ∨ (pc (2 ^ n - 1 - i) = pc s ∧ 2 ^ n - 1 - i ≤ s)
          omega
theorem sim_fewest {st mt : St} (h : R st mt) (x1 x2 : Int32) : w_X8_fewest x1 x2 st (fun r st' => w_X9_fewest x1 x2 mt (fun r' mt' => r = r' ∧ R st' mt')) := by
  obtain ⟨n, nL, hm, g, hn, hL, h7, h8, k8, k9⟩ := h.ctx
  have hA := A64 n (by omega)
  unfold w_X8_fewest
  refine s_range (s_choice (s_firstOf ?_))
  by_cases e1 : rangeF x1 0 60 = 0
  · rw [e1]
    obtain ⟨w, -, hw, rfl⟩ := rg_nI (a := 0) (b := 60) (by decide) (by decide) e1
    by_cases e2 : inF x2 0 1 = 0
    · rw [ch_out e2, f0, if_neg (by decide)]
      refine n1 (by decide) (s_refused rO2 ?_)
      unfold w_X9_fewest
      refine t_notWeeks ?_
      rw [e1]
      refine y2 rfl (t_isIn' (y2 e2 ?_))
      rw [w_X9_fewest_b21]
      exact n1 (by decide) (t_no rO2 ⟨rfl, R_ref h rO2⟩)
    · rw [ch_in e2, f0, if_pos rfl]
      have key : ∀ K : Int32 → St → Prop, (∀ b s, ChW (2 ^ n - 1) (cnF n nL w (cv st 11)) (kN n nL w (cv st 11)) b → hf mt s → (x2 = 0 → K (nI b) s) ∧ (¬ x2 = 0 → K (wgF n (cv st 11) b) s)) → w_X9_fewest (nI w) x2 mt K := fun K hK => by
        unfold w_X9_fewest
        refine t_notWeeks ?_
        rw [e1]
        refine y2 rfl (t_isIn' (n2 e2 ?_))
        rw [w_X9_fewest_b21]
        refine y1 rfl (t_many (by omega) hm fun s hs => ?_)
        show ∃ m, w_X9_fewest_L55 (nI w) x2 K m (nI (cnF n nL w (cv st 11))) (((1 : Int32) <<< ((s 0 8) &&& 31)) - 1) (((1 : Int32) <<< ((s 0 8) &&& 31)) - 1) s
        rw [(RM_hf hm hs).2.2.1, shA n (by omega)]
        refine t_fewestL (by omega) hm (out0 h) (fun b s' hb hs' => ?_) s hs
        rw [w_X9_fewest_b95]
        exact ⟨fun y => t_payOfAll (RM_hf hm hs') (by have := hb.1; omega) ((hK b s' hb hs').2 y), fun y => (hK b s' hb hs').1 y⟩
      refine y1 rfl (mind0 (fun s => w_X4_fewestKept (nI w) s _) (fun c0 z0 => x_fewestKept h.z11 z0 hm.1 h7 (by omega) fun b c' hb zc => ⟨fun y => ?_, fun y => key _ fun b' s hb' hs => ⟨fun _ => ?_, fun y' => absurd y y'⟩⟩) h.z99)
      · refine x_wages hn (by rw [o11]; exact h7) (by have := hb.1; omega) (key _ fun b' s hb' hs => ⟨fun y' => absurd y' y, fun _ => ?_⟩)
        rw [c11, ChW_1 hb hb']
        exact ⟨rfl, R_mind h zc hs.tf⟩
      · rw [ChW_1 hb hb']
        exact ⟨rfl, R_mind h zc hs.tf⟩
  · rw [f1 e1]
    refine n1 e1 (s_refused (rg_ok e1) ?_)
    unfold w_X9_fewest
    refine t_notWeeks (n2 e1 ?_)
    rw [w_X9_fewest_b21]
    exact n1 e1 (t_no (rg_ok e1) ⟨rfl, R_ref h (rg_ok e1)⟩)
end
section
/-! pure part: whoHates, whatKind -/
def tdF (P : Nat → Bool) (r : Nat) : Int32 := if fstG P r 0 = -9 then 1 else 0
theorem ne9 {i : Nat} (h : i < 2147483648) : ¬ nI i = -9 := fun z => by
  have : nI i < 0 := by rw [z]; decide
  exact n_lt0 h this
def osP (n nL : Nat) (row : Nat → Int32) (c : Ct) (i : Nat) : Bool := decide (¬ nI (cnF n nL i c) = row i)
def hsP (n nL p q : Nat) (row : Nat → Int32) (c : Ct) (i : Nat) : Bool := decide (¬ wkF n nL i c 4 (hI p q) = row i)
theorem td_01 (P : Nat → Bool) (r : Nat) : tdF P r = 0 ∨ tdF P r = 1 := by
  unfold tdF
  split
  · exact Or.inr rfl
  · exact Or.inl rfl
theorem x_opensAsTold {st : St} {n nL r : Nat} {c : Ct} {K : Int32 → St → Prop} (hv : vC n nL c) (hz : zn c) (hr : r ≤ 12) (h6 : st 6 1 = nI r) (h : ∀ c', zn c' → K (tdF (osP n nL (st 7) c) r) (sv st 99 c')) : w_X4_opensAsTold (sv st 99 (bec c)) K := by
  have zz : ∀ i, zn (wkF n nL i c) := fun i => zn_wkF hv.1 hv.2.1 hz
  unfold w_X4_opensAsTold
  refine lo_fst (W := fun m i => w_X4_opensAsTold_L8 K m (nI i) (sv st 99 (wkF n nL i c))) (P := osP n nL (st 7) c) (Q := fun v => ∀ c', zn c' → K (if v = -9 then 1 else 0) (sv st 99 c')) (Nat.zero_le r) (fun hQ => ⟨1, ?_⟩) (fun i _ hi hP hQ => ⟨1, ?_⟩) (fun m i _ hi hP hk => ?_) h
  · rw [w_X4_opensAsTold_L8, w_X4_opensAsTold_L8q]
    unfold w_X6_size
    rw [sv_off (by decide), h6]
    exact y1 (nI_le (Nat.le_refl r) (by omega)) (hQ _ (zz r))
  · rw [w_X4_opensAsTold_L8, w_X4_opensAsTold_L8q]
    unfold w_X6_size w_X6_number
    rw [sv_off (by decide), h6]
    refine n1 (nI_ge hi (by omega)) (s_openCount (vC_wkF hv) (s_at (by omega) (by decide) (n1 ?_ ?_)))
    · rw [sv_off (by decide)]; exact of_decide_eq_true hP
    · have := hQ _ (zz i)
      rwa [if_neg (ne9 (by omega))] at this
  · rw [w_X4_opensAsTold_L8, w_X4_opensAsTold_L8q]
    unfold w_X6_size w_X6_number
    rw [sv_off (by decide), h6]
    refine n1 (nI_ge hi (by omega)) (s_openCount (vC_wkF hv) (s_at (by omega) (by decide) (y1 ?_ (s_week1 (vC_wkF hv) ?_))))
    · rw [sv_off (by decide)]; exact Classical.not_not.mp (of_decide_eq_false hP)
    · rw [weeks_s, nI_inc]
      exact hk
theorem x_hatesAsTold {st : St} {n nL r p q : Nat} {c : Ct} {K : Int32 → St → Prop} (hv : vC n nL c) (hz : zn c) (hr : r ≤ 12) (h6 : st 6 1 = nI r) (hp : p < 6) (hq : q < 6) (h : ∀ c', zn c' → K (tdF (hsP n nL p q (st 7) c) r) (sv st 99 c')) : w_X4_hatesAsTold (nI p) (nI q) (sv st 99 (bec c)) K := by
  have zz : ∀ i, zn (wkF n nL i c) := fun i => zn_wkF hv.1 hv.2.1 hz
  unfold w_X4_hatesAsTold
  refine lo_fst (W := fun m i => w_X4_hatesAsTold_L9 (nI p) (nI q) K m (nI i) (sv st 99 (wkF n nL i c))) (P := hsP n nL p q (st 7) c) (Q := fun v => ∀ c', zn c' → K (if v = -9 then 1 else 0) (sv st 99 c')) (Nat.zero_le r) (fun hQ => ⟨1, ?_⟩) (fun i _ hi hP hQ => ⟨1, ?_⟩) (fun m i _ hi hP hk => ?_) h
  · rw [w_X4_hatesAsTold_L9, w_X4_hatesAsTold_L9q]
    unfold w_X6_size
    rw [sv_off (by decide), h6]
    exact y1 (nI_le (Nat.le_refl r) (by omega)) (hQ _ (zz r))
  · rw [w_X4_hatesAsTold_L9, w_X4_hatesAsTold_L9q]
    unfold w_X6_size w_X6_number
    rw [sv_off (by decide), h6]
    refine n1 (nI_ge hi (by omega)) (s_hateOf hp hq (s_at (by omega) (by decide) (n1 ?_ ?_)))
    · rw [sv_off (by decide)]; exact of_decide_eq_true hP
    · have := hQ _ (zz i)
      rwa [if_neg (ne9 (by omega))] at this
  · rw [w_X4_hatesAsTold_L9, w_X4_hatesAsTold_L9q]
    unfold w_X6_size w_X6_number
    rw [sv_off (by decide), h6]
    refine n1 (nI_ge hi (by omega)) (s_hateOf hp hq (s_at (by omega) (by decide) (y1 ?_ (s_week1 (vC_wkF hv) ?_))))
    · rw [sv_off (by decide)]; exact Classical.not_not.mp (of_decide_eq_false hP)
    · rw [weeks_s, nI_inc]
      exact hk
theorem t_opensSo {n nL r : Nat} {mt : St} {c : Ct} {row : Nat → Int32} {K : Int32 → St → Prop} (hm : RM n nL mt c) (hr : r ≤ 12) (h29 : mt 0 29 = nI r) (hrow : ∀ i, i < r → mt 16 i = row i) (hk : ∀ s, hf mt s → K (tdF (osP n nL row c) r) s) : w_X9_opensSo mt K := by
  unfold w_X9_opensSo
  refine t_think hm fun s e3 e4 => ?_
  have f29 : ∀ s, th mt s → s 0 29 = nI r := fun s hs => (hs.2.2.1 29 (by decide) (by decide) (by decide) (by decide) (by decide) (by decide) (by decide)).trans h29
  have f16 : ∀ s, th mt s → ∀ i, i < r → s 16 i = row i := fun s hs i hi => by rw [hs.2.1 16 (by decide) (by decide) (by decide) (by decide)]; exact hrow i hi
  have fin : ∀ v s, th mt s → (v = 0 ∨ v = 1) → (tdF (osP n nL row c) r = v) → w_X9_opensSo_b52 K v s := fun v s hs hv e => by
    rw [w_X9_opensSo_b52]
    refine t_forget hs fun s' hh _ _ => ⟨hv, ?_⟩
    rw [← e]
    exact hk s' hh
  refine lo_fstJ (W := fun m i s => w_X9_opensSo_L8 K m 1 (nI i) s) (P := osP n nL row c) (Q := fun v => tdF (osP n nL row c) r = if v = -9 then 1 else 0) (J := fun i s => RM n nL s (wkF n nL i c) ∧ th mt s) (Nat.zero_le r) ⟨e3, e4⟩ (fun m s hJ hQ => ?_) (fun m i s _ hi hJ hP hQ => ?_) (fun m i s _ hi hJ hP hw => ?_) rfl
  · rw [w_X9_opensSo_L8, w_X9_opensSo_L8q, f29 s hJ.2]
    exact y1 (nI_le (Nat.le_refl r) (by omega)) (fin 1 s hJ.2 (Or.inr rfl) hQ)
  · rw [w_X9_opensSo_L8, w_X9_opensSo_L8q, f29 s hJ.2]
    have hc := hJ.1.1
    refine n1 (nI_ge hi (by omega)) (n1 (by decide) (t_openOnes hJ.1 (t_bits (by have := p64 hc.2.1 hc.2.2.2.2.2.2; omega) ⟨vp_in_nI (by omega) (by decide), ?_⟩)))
    rw [clI (show i < 12 by omega) (by decide), f16 s hJ.2 i hi]
    refine n2 (of_decide_eq_true hP) ?_
    rw [w_X9_opensSo_b41]
    refine t_goesWeek hJ.1 fun s1 e5 e6 _ => ?_
    have f0 : w_X9_opensSo_b52 K 0 s1 := fin 0 s1 (hJ.2.wf e6) (Or.inl rfl) (by rw [hQ, if_neg (ne9 (by omega))])
    rw [w_X9_opensSo_L8, w_X9_opensSo_L8q]
    exact ⟨fun _ => f0, fun _ => y1 rfl f0⟩
  · rw [w_X9_opensSo_L8, w_X9_opensSo_L8q, f29 s hJ.2]
    have hc := hJ.1.1
    refine n1 (nI_ge hi (by omega)) (n1 (by decide) (t_openOnes hJ.1 (t_bits (by have := p64 hc.2.1 hc.2.2.2.2.2.2; omega) ⟨vp_in_nI (by omega) (by decide), ?_⟩)))
    rw [clI (show i < 12 by omega) (by decide), f16 s hJ.2 i hi]
    refine y2 (Classical.not_not.mp (of_decide_eq_false hP)) ?_
    rw [w_X9_opensSo_b41]
    refine t_goesWeek hJ.1 fun s1 e5 e6 _ => ?_
    rw [nI_inc]
    exact hw s1 ⟨by rw [← weeks_s]; exact e5, hJ.2.wf e6⟩
theorem t_hatesSo {n nL r p q : Nat} {mt : St} {c : Ct} {row : Nat → Int32} {K : Int32 → St → Prop} (hm : RM n nL mt c) (hp : p < n) (hq : q < n) (hpq : p ≠ q) (hr : r ≤ 12) (h29 : mt 0 29 = nI r) (hrow : ∀ i, i < r → mt 16 i = row i) (hk : ∀ s, hf mt s → K (tdF (hsP n nL p q row c) r) s) : w_X9_hatesSo (nI p) (nI q) mt K := by
  have hn := hm.1.1
  unfold w_X9_hatesSo
  refine t_think hm fun s e3 e4 => ?_
  have f29 : ∀ s, th mt s → s 0 29 = nI r := fun s hs => (hs.2.2.1 29 (by decide) (by decide) (by decide) (by decide) (by decide) (by decide) (by decide)).trans h29
  have f16 : ∀ s, th mt s → ∀ i, i < r → s 16 i = row i := fun s hs i hi => by rw [hs.2.1 16 (by decide) (by decide) (by decide) (by decide)]; exact hrow i hi
  have fin : ∀ v s, th mt s → (v = 0 ∨ v = 1) → (tdF (hsP n nL p q row c) r = v) → w_X9_hatesSo_b54 (nI p) (nI q) K v s := fun v s hs hv e => by
    rw [w_X9_hatesSo_b54]
    refine t_forget hs fun s' hh _ _ => ⟨hv, ?_⟩
    rw [← e]
    exact hk s' hh
  refine lo_fstJ (W := fun m i s => w_X9_hatesSo_L9 (nI p) (nI q) K m 1 (nI i) s) (P := hsP n nL p q row c) (Q := fun v => tdF (hsP n nL p q row c) r = if v = -9 then 1 else 0) (J := fun i s => RM n nL s (wkF n nL i c) ∧ th mt s) (Nat.zero_le r) ⟨e3, e4⟩ (fun m s hJ hQ => ?_) (fun m i s _ hi hJ hP hQ => ?_) (fun m i s _ hi hJ hP hw => ?_) rfl
  · rw [w_X9_hatesSo_L9, w_X9_hatesSo_L9q, f29 s hJ.2]
    exact y1 (nI_le (Nat.le_refl r) (by omega)) (fin 1 s hJ.2 (Or.inr rfl) hQ)
  · rw [w_X9_hatesSo_L9, w_X9_hatesSo_L9q, f29 s hJ.2]
    refine n1 (nI_ge hi (by omega)) (n1 (by decide) (t_hateOf (by omega) (by omega) ⟨vp_in_nI (by omega) (by decide), ?_⟩))
    rw [clI (show i < 12 by omega) (by decide), f16 s hJ.2 i hi, hJ.1.hate hp hq hpq]
    refine n2 (of_decide_eq_true hP) ?_
    rw [w_X9_hatesSo_b43]
    refine t_goesWeek hJ.1 fun s1 e5 e6 _ => ?_
    have f0 : w_X9_hatesSo_b54 (nI p) (nI q) K 0 s1 := fin 0 s1 (hJ.2.wf e6) (Or.inl rfl) (by rw [hQ, if_neg (ne9 (by omega))])
    rw [w_X9_hatesSo_L9, w_X9_hatesSo_L9q]
    exact ⟨fun _ => f0, fun _ => y1 rfl f0⟩
  · rw [w_X9_hatesSo_L9, w_X9_hatesSo_L9q, f29 s hJ.2]
    refine n1 (nI_ge hi (by omega)) (n1 (by decide) (t_hateOf (by omega) (by omega) ⟨vp_in_nI (by omega) (by decide), ?_⟩))
    rw [clI (show i < 12 by omega) (by decide), f16 s hJ.2 i hi, hJ.1.hate hp hq hpq]
    refine y2 (Classical.not_not.mp (of_decide_eq_false hP)) ?_
    rw [w_X9_hatesSo_b43]
    refine t_goesWeek hJ.1 fun s1 e5 e6 _ => ?_
    rw [nI_inc]
    exact hw s1 ⟨by rw [← weeks_s]; exact e5, hJ.2.wf e6⟩
def fhC (c : Ct) (p q v : Nat) : Ct := u2 c 4 (hI p q) (nI v)
abbrev T3 : Type := Int32 × Int32 × Int32
def fhS (M : Nat → Int32) (v : Nat) (s : T3) : T3 := if M v = 0 then s else (s.1 + 1, (if s.2.1 = -9 then nI v else s.2.1), nI v)
def fhI (s : T3) : Prop := s.2.1 = -9 ∨ ∃ j, j < 100 ∧ s.2.1 = nI j
theorem fhI_s {M : Nat → Int32} {v : Nat} {s : T3} (hv : v < 100) (h : fhI s) : fhI (fhS M v s) := by
  unfold fhS
  split
  · exact h
  · refine Or.inr ?_
    show ∃ j, j < 100 ∧ (if s.2.1 = -9 then nI v else s.2.1) = nI j
    split
    · exact ⟨v, hv, rfl⟩
    next e => exact h.resolve_left e
def fhM (n nL p q r : Nat) (row : Nat → Int32) (c : Ct) (v : Nat) : Int32 := tdF (osP n nL row (fhC c p q v)) r
def fhF (n nL p q r : Nat) (row : Nat → Int32) (c : Ct) : T3 := fr 0 100 (fhS (fhM n nL p q r row c)) (0, -9, -9)
theorem held99 : ∀ v, v < 100 → heldF (nI v) = nI v ∧ 0 ≤ nI v ∧ nI v ≤ 99 := by decide +kernel
def pick (x : Int32) (s : T3) : Int32 := if x = 0 then s.1 else if x = 1 then s.2.1 else s.2.2
theorem sim_whoHates {st mt : St} (h : R st mt) (x1 x2 x3 : Int32) : w_X8_whoHates x1 x2 x3 st (fun r st' => w_X9_whoHates x1 x2 x3 mt (fun r' mt' => r = r' ∧ R st' mt')) := by
  obtain ⟨n, nL, hm, g, hn, hL, h7, h8, k8, k9⟩ := h.ctx
  obtain ⟨r, r1, r2, r3, r4⟩ := h.2.2.2.2.2.1
  unfold w_X8_whoHates
  refine s_twoRef h7 (s_choice (s_firstOf ?_))
  by_cases e1 : twF n x1 x2 = 0
  · rw [nb0 e1, f1 (by decide)]
    refine n1 (by decide) (s_refused rO1 ?_)
    unfold w_X9_whoHates
    refine t_areTwo k8 (y2 e1 ?_)
    rw [w_X9_whoHates_b28]
    exact n1 (by decide) (t_no rO1 ⟨rfl, R_ref h rO1⟩)
  · rw [nb1 e1, f0]
    by_cases e2 : inF x3 0 2 = 0
    · rw [ch_out e2, if_neg (by decide)]
      refine n1 (by decide) (s_refused rO2 ?_)
      unfold w_X9_whoHates
      refine t_areTwo k8 (n2 e1 (t_isIn' (y2 e2 ?_)))
      rw [w_X9_whoHates_b28]
      exact n1 (by decide) (t_no rO2 ⟨rfl, R_ref h rO2⟩)
    · rw [ch_in e2, if_pos rfl]
      obtain ⟨p, q, hp, hq, hpq, rfl, rfl⟩ := twF_1 (by omega) e1
      have vfh : ∀ v, vC n nL (fhC (cv st 11) p q v) := fun v => vC_u4 hm.1 (by decide) (by decide)
      have zfh : ∀ v, zn (fhC (cv st 11) p q v) := fun v => zn_hate ⟨h.z11, nC_cv⟩ (by omega) (by omega)
      refine y1 rfl (mind0 (fun s => w_X4_fittingHate (nI p) (nI q) x3 s _) (fun c0 z0 => ?_) h.z99)
      unfold w_X4_fittingHate
      refine lo_frD (fun m v (s : T3) c' => w_X4_fittingHate_L14 (nI p) (nI q) x3 _ m s.1 s.2.1 s.2.2 (nI v) (sv st 99 c')) (fhS (fhM n nL p q r (st 7) (cv st 11))) (fun _ s => fhI s) (fun _ c' => zn c') ((0 : Int32), -9, -9) c0 (Nat.zero_le 100) (Or.inl rfl) (fun v s _ hv hs => fhI_s hv hs) z0 (fun _ m d hd => ?_) (fun m v s d _ hv hs hd hk => ?_)
      · rw [w_X4_fittingHate_L14, w_X4_fittingHate_L14q]
        refine y1 (by decide) ?_
        rw [w_X4_fittingHate_b80]
        have key : w_X9_whoHates (nI p) (nI q) x3 mt (fun r' mt' => pick x3 (fhF n nL p q r (st 7) (cv st 11)) = r' ∧ R (sv st 99 d) mt') := by
          unfold w_X9_whoHates
          refine t_areTwo k8 (n2 e1 (t_isIn' (n2 e2 ?_)))
          rw [w_X9_whoHates_b28]
          refine y1 rfl (t_hateOf (by omega) (by omega) ?_)
          have ho := hm.hate hp hq hpq
          have ho2 := hm.hate hq hp (Ne.symm hpq)
          rw [hI_comm] at ho2
          rw [ho]
          refine lo_frD (fun m v (s : T3) t => w_X9_whoHates_L64 (nI p) (nI q) x3 _ m (cv st 11 4 (hI p q)) s.1 s.2.1 s.2.2 (nI v) t) (fhS (fhM n nL p q r (st 7) (cv st 11))) (fun _ s => fhI s) (fun _ t => ∃ w, hf (setsF mt p q w) t) ((0 : Int32), -9, -9) mt (Nat.zero_le 100) (Or.inl rfl) (fun v s _ hv hs => fhI_s hv hs) ⟨cv st 11 4 (hI p q), by rw [sets_id ho ho2]; exact hf_rf⟩ (fun _ m t ht => ?_) (fun m v s t _ hv hs ht hk => ?_)
          · obtain ⟨w, ht⟩ := ht
            rw [w_X9_whoHates_L64, w_X9_whoHates_L64q]
            refine y1 (by decide) ?_
            rw [w_X9_whoHates_b116]
            refine t_sets (by omega) (by omega) ?_
            have fin : ∀ v : Int32, pick x3 (fhF n nL p q r (st 7) (cv st 11)) = v → pick x3 (fhF n nL p q r (st 7) (cv st 11)) = v ∧ R (sv st 99 d) (setsF t p q (cv st 11 4 (hI p q))) := fun v e => ⟨e, R_mind h hd (hf_unset ht (by omega) (by omega) hpq ho ho2).tf⟩
            refine ⟨fun y0 => ⟨fun y1' => fin _ ?_, fun y1' => fin _ ?_⟩, fun y0 => fin _ ?_⟩
            · unfold pick; rw [if_neg y0, if_neg y1']; rfl
            · unfold pick; rw [if_neg y0, if_pos y1']; rfl
            · unfold pick; rw [if_pos y0]; rfl
          · obtain ⟨w, ht⟩ := ht
            rw [w_X9_whoHates_L64, w_X9_whoHates_L64q]
            refine n1 (gt99 hv) (t_sets (by omega) (by omega) ?_)
            have h1 : hf (setsF mt p q (nI v)) (setsF t p q (nI v)) := hf_sets ht (by omega) (by omega) hpq
            have rm : RM n nL (setsF t p q (nI v)) (fhC (cv st 11) p q v) := RM_hf (RM_sets hm hp hq hpq (held99 v hv).2.1 (held99 v hv).2.2) h1
            have o29 : setsF t p q (nI v) 0 29 = nI r := by
              rw [h1.2.2.1 29 (by decide) (by decide) (by decide) (by decide) (by decide) (by decide) (by decide), ef_sets 0 (by decide)]
              exact r3
            have o16 : ∀ i, i < r → setsF t p q (nI v) 16 i = st 7 i := fun i hi => by
              rw [h1.2.1 16 (by decide) (by decide) (by decide) (by decide), ef_sets 16 (by decide)]
              exact (r4 i hi).symm
            refine t_opensSo rm r1 o29 o16 fun s1 hs1 => ?_
            have D1 : ∃ w, hf (setsF mt p q w) s1 := ⟨_, h1.tr hs1⟩
            show (¬ fhM n nL p q r (st 7) (cv st 11) v = 0 → _) ∧ (fhM n nL p q r (st 7) (cv st 11) v = 0 → _)
            unfold fhS at hk
            by_cases em : fhM n nL p q r (st 7) (cv st 11) v = 0
            · rw [if_pos em] at hk
              refine y2 em ?_
              rw [w_X9_whoHates_b110, nI_inc]
              exact hk s1 D1
            · rw [if_neg em] at hk
              refine n2 em ?_
              rcases hs with e9 | ⟨j, hj, ej⟩
              · rw [if_pos e9] at hk
                refine n1 (by rw [e9]; decide) ?_
                rw [w_X9_whoHates_b104, w_X9_whoHates_b110, nI_inc]
                exact hk s1 D1
              · rw [if_neg (by rw [ej]; exact ne9 (by omega))] at hk
                refine y1 (by rw [ej]; exact n_le0 (by omega)) ?_
                rw [w_X9_whoHates_b104, w_X9_whoHates_b110, nI_inc]
                exact hk s1 D1
        have ep : ∀ v : Int32, pick x3 (fhF n nL p q r (st 7) (cv st 11)) = v → w_X9_whoHates (nI p) (nI q) x3 mt (fun r' mt' => v = r' ∧ R (sv st 99 d) mt') := fun v e => e ▸ key
        refine ⟨fun y0 => ⟨fun y1' => ep _ ?_, fun y1' => ep _ ?_⟩, fun y0 => ep _ ?_⟩
        · unfold pick; rw [if_neg y0, if_neg y1']; rfl
        · unfold pick; rw [if_neg y0, if_pos y1']; rfl
        · unfold pick; rw [if_pos y0]; rfl
      · rw [w_X4_fittingHate_L14, w_X4_fittingHate_L14q]
        refine n1 (gt99 hv) (m_become h.z11 hd (s_setHate (by omega) (by omega) ?_))
        have eb : u2 (bec (cv st 11)) 4 (hI p q) (heldF (nI v)) = bec (fhC (cv st 11) p q v) := by
          rw [(held99 v hv).1]
          exact (bec_u2 (by decide)).symm
        rw [eb]
        refine x_opensAsTold (vfh v) (zfh v) r1 r2 fun c' zc => ?_
        show (fhM n nL p q r (st 7) (cv st 11) v = 0 → _) ∧ _
        unfold fhS at hk
        by_cases em : fhM n nL p q r (st 7) (cv st 11) v = 0
        · rw [if_pos em] at hk
          refine y1 em ?_
          rw [w_X4_fittingHate_b74, nI_inc]
          exact hk c' zc
        · rw [if_neg em] at hk
          refine n1 em ?_
          by_cases e9 : s.2.1 = -9
          · rw [if_pos e9] at hk
            refine y2 e9 ?_
            rw [w_X4_fittingHate_b68, w_X4_fittingHate_b74, nI_inc]
            exact hk c' zc
          · rw [if_neg e9] at hk
            refine n2 e9 ?_
            rw [w_X4_fittingHate_b68, w_X4_fittingHate_b74, nI_inc]
            exact hk c' zc
/-! what kind -/
def kfS (M : Nat → Int32) (v : Nat) (s : Int32) : Int32 := if M v = 0 then s else s ||| ((1 : Int32) <<< (nI v &&& 31))
def kfF (M : Nat → Int32) (e : Nat) : Int32 := fr 0 e (kfS M) 0
def kiM (n nL p q r : Nat) (row : Nat → Int32) (c : Ct) (v : Nat) : Int32 := tdF (hsP n nL p q row (u2 c 1 p (nI v))) r
def fiM (n nL p q r : Nat) (row : Nat → Int32) (c : Ct) (v : Nat) : Int32 := tdF (hsP n nL p q row (u2 c 2 p (nI v))) r
theorem t_bitsFor {n nL p q r e k : Nat} {row : Nat → Int32} {M : Nat → Int32} {mt : St} {c : Ct} {K : Int32 → St → Prop} (hm : RM n nL mt c) (hp : p < n) (hq : q < n) (hpq : p ≠ q) (hr : r ≤ 12) (h29 : mt 0 29 = nI r) (hrow : ∀ i, i < r → mt 16 i = row i) (hk : k = 2 ∨ k = 3) (he : e < 100)
    (hM : ∀ v s, v < e → hf (u2 mt k p (nI v)) s → ∃ c', RM n nL s c' ∧ M v = tdF (hsP n nL p q row c') r) (hK : ∀ s, hf mt s → K (kfF M e) s) : w_X9_bitsFor k 6 (nI p) (nI q) (nI e) mt K := by
  have hn := hm.1.1
  have cl : (nI p).toNatClampNeg = p := clI (show p < 6 by omega) (by decide)
  have vp : vp_in (nI p) 6 := vp_in_nI (by omega) (by decide)
  unfold w_X9_bitsFor
  rw [cl]
  refine ⟨vp, ?_⟩
  refine lo_frD (fun m v (s : Int32) t => w_X9_bitsFor_L11 k 6 (nI p) (nI q) (nI e) K m (mt k p) s (nI v) t) (kfS M) (fun _ _ => True) (fun _ t => ∃ w, hf (u2 mt k p w) t) (0 : Int32) mt (Nat.zero_le e) trivial (fun _ _ _ _ _ => trivial) ⟨mt k p, by rw [u2_id rfl]; exact hf_rf⟩ (fun _ m t ht => ?_) (fun m v s t _ hv _ ht hk2 => ?_)
  · obtain ⟨w, ht⟩ := ht
    rw [w_X9_bitsFor_L11, w_X9_bitsFor_L11q]
    refine y1 (nI_le (Nat.le_refl e) (by omega)) ?_
    rw [w_X9_bitsFor_b51, cl]
    exact ⟨vp, hK _ (hf_back ht (by omega))⟩
  · obtain ⟨w, ht⟩ := ht
    rw [w_X9_bitsFor_L11, w_X9_bitsFor_L11q, cl]
    refine n1 (nI_ge hv (by omega)) ⟨vp, ?_⟩
    have h1 : hf (u2 mt k p (nI v)) (u2 t k p (nI v)) := hf_over2 _ ht (by omega)
    obtain ⟨c', rm, eM⟩ := hM v _ hv h1
    have o29 : u2 t k p (nI v) 0 29 = nI r := by
      rw [h1.2.2.1 29 (by decide) (by decide) (by decide) (by decide) (by decide) (by decide) (by decide), u2_off (by omega)]
      exact h29
    have o16 : ∀ i, i < r → u2 t k p (nI v) 16 i = row i := fun i hi => by
      rw [h1.2.1 16 (by decide) (by decide) (by decide) (by decide), u2_off (by omega)]
      exact hrow i hi
    refine t_hatesSo rm hp hq hpq hr o29 o16 fun s1 hs1 => ?_
    have D1 : ∃ w, hf (u2 mt k p w) s1 := ⟨_, h1.tr hs1⟩
    rw [← eM]
    unfold kfS at hk2
    by_cases em : M v = 0
    · rw [if_pos em] at hk2
      refine y1 em ?_
      rw [w_X9_bitsFor_b42, nI_inc, Int32.or_zero]
      exact hk2 s1 D1
    · rw [if_neg em] at hk2
      refine n1 em ?_
      rw [w_X9_bitsFor_b42, nI_inc]
      exact hk2 s1 D1
theorem sim_whatKind {st mt : St} (h : R st mt) (x1 x2 x3 : Int32) : w_X8_whatKind x1 x2 x3 st (fun r st' => w_X9_whatKind x1 x2 x3 mt (fun r' mt' => r = r' ∧ R st' mt')) := by
  obtain ⟨n, nL, hm, g, hn, hL, h7, h8, k8, k9⟩ := h.ctx
  obtain ⟨r, r1, r2, r3, r4⟩ := h.2.2.2.2.2.1
  unfold w_X8_whatKind
  refine s_twoRef h7 (s_choice (s_firstOf ?_))
  by_cases e1 : twF n x1 x2 = 0
  · rw [nb0 e1, f1 (by decide)]
    refine n1 (by decide) (s_refused rO1 ?_)
    unfold w_X9_whatKind
    refine t_areTwo k8 (y2 e1 ?_)
    rw [w_X9_whatKind_b28]
    exact n1 (by decide) (t_no rO1 ⟨rfl, R_ref h rO1⟩)
  · rw [nb1 e1, f0]
    by_cases e2 : inF x3 0 1 = 0
    · rw [ch_out e2, if_neg (by decide)]
      refine n1 (by decide) (s_refused rO2 ?_)
      unfold w_X9_whatKind
      refine t_areTwo k8 (n2 e1 (t_isIn' (y2 e2 ?_)))
      rw [w_X9_whatKind_b28]
      exact n1 (by decide) (t_no rO2 ⟨rfl, R_ref h rO2⟩)
    · rw [ch_in e2, if_pos rfl]
      obtain ⟨p, q, hp, hq, hpq, rfl, rfl⟩ := twF_1 (by omega) e1
      have row : ∀ i, i < r → mt 16 i = st 7 i := fun i hi => (r4 i hi).symm
      refine y1 rfl ⟨fun y => mind0 (fun s => w_X4_fittingFigures (nI p) (nI q) s _) (fun c0 z0 => ?_) h.z99, fun y => mind0 (fun s => w_X4_fittingKinds (nI p) (nI q) s _) (fun c0 z0 => ?_) h.z99⟩
      · unfold w_X4_fittingFigures
        refine lo_frD (fun m v (s : Int32) c' => w_X4_fittingFigures_L6 (nI p) (nI q) _ m s (nI v) (sv st 99 c')) (kfS (fiM n nL p q r (st 7) (cv st 11))) (fun _ _ => True) (fun _ c' => zn c') (0 : Int32) c0 (Nat.zero_le 10) trivial (fun _ _ _ _ _ => trivial) z0 (fun _ m d hd => ?_) (fun m v s d _ hv _ hd hk => ?_)
        · rw [w_X4_fittingFigures_L6, w_X4_fittingFigures_L6q]
          refine y1 (by decide) ?_
          unfold w_X9_whatKind
          refine t_areTwo k8 (n2 e1 (t_isIn' (n2 e2 ?_)))
          rw [w_X9_whatKind_b28]
          refine y1 rfl (n2 y (t_bitsFor (e := 10) hm hp hq hpq r1 r3 row (Or.inr rfl) (by decide) (fun v s hv hs => ⟨u2 (cv st 11) 2 p (nI v), RM_hf (RM_figure hm) hs, rfl⟩) fun s hs => ⟨rfl, R_mind h hd hs.tf⟩))
        · rw [w_X4_fittingFigures_L6, w_X4_fittingFigures_L6q]
          refine n1 (i_nlt.mpr (nI_le (show v ≤ 9 by omega) (by decide))) (m_become h.z11 hd (m_setFigure (by omega) ?_))
          have eb : u2 (bec (cv st 11)) 2 p (nI v) = bec (u2 (cv st 11) 2 p (nI v)) := (bec_u2 (by decide)).symm
          rw [eb]
          refine x_hatesAsTold (vC_u4 hm.1 (by decide) (by decide)) (zn_u2 ⟨h.z11, nC_cv⟩ (by decide) (show p < lenC 2 from (show p < 6 by omega)) (fun z => absurd z (by decide))) r1 r2 (by omega) (by omega) fun c' zc => ?_
          show (fiM n nL p q r (st 7) (cv st 11) v = 0 → _) ∧ _
          unfold kfS at hk
          by_cases em : fiM n nL p q r (st 7) (cv st 11) v = 0
          · rw [if_pos em] at hk
            refine y1 em ?_
            rw [w_X4_fittingFigures_b53, nI_inc]
            exact hk c' zc
          · rw [if_neg em] at hk
            refine n1 em ?_
            rw [w_X4_fittingFigures_b53, nI_inc]
            exact hk c' zc
      · unfold w_X4_fittingKinds
        refine lo_frD (fun m v (s : Int32) c' => w_X4_fittingKinds_L6 (nI p) (nI q) _ m s (nI v) (sv st 99 c')) (kfS (kiM n nL p q r (st 7) (cv st 11))) (fun _ _ => True) (fun _ c' => zn c') (0 : Int32) c0 (Nat.zero_le 6) trivial (fun _ _ _ _ _ => trivial) z0 (fun _ m d hd => ?_) (fun m v s d _ hv _ hd hk => ?_)
        · rw [w_X4_fittingKinds_L6, w_X4_fittingKinds_L6q]
          refine y1 (by decide) ?_
          unfold w_X9_whatKind
          refine t_areTwo k8 (n2 e1 (t_isIn' (n2 e2 ?_)))
          rw [w_X9_whatKind_b28]
          refine y1 rfl (y2 y (t_bitsFor (e := 6) hm hp hq hpq r1 r3 row (Or.inl rfl) (by decide) (fun v s hv hs => ⟨u2 (cv st 11) 1 p (nI v), RM_hf (RM_kind hm) hs, rfl⟩) fun s hs => ⟨rfl, R_mind h hd hs.tf⟩))
        · rw [w_X4_fittingKinds_L6, w_X4_fittingKinds_L6q]
          refine n1 (nI_ge hv (by decide)) (m_become h.z11 hd (m_setKind (by omega) ?_))
          have eb : u2 (bec (cv st 11)) 1 p (nI v) = bec (u2 (cv st 11) 1 p (nI v)) := (bec_u2 (by decide)).symm
          rw [eb]
          refine x_hatesAsTold (vC_u4 hm.1 (by decide) (by decide)) (zn_u2 ⟨h.z11, nC_cv⟩ (by decide) (show p < lenC 1 from (show p < 6 by omega)) (fun z => absurd z (by decide))) r1 r2 (by omega) (by omega) fun c' zc => ?_
          show (kiM n nL p q r (st 7) (cv st 11) v = 0 → _) ∧ _
          unfold kfS at hk
          by_cases em : kiM n nL p q r (st 7) (cv st 11) v = 0
          · rw [if_pos em] at hk
            refine y1 em ?_
            rw [w_X4_fittingKinds_b53, nI_inc]
            exact hk c' zc
          · rw [if_neg em] at hk
            refine n1 em ?_
            rw [w_X4_fittingKinds_b53, nI_inc]
            exact hk c' zc
end
section
/-! pure part: countries by lot -/
theorem nI_mul (a b : Nat) : nI a * nI b = nI (a * b) := (Int32.ofNat_mul a b).symm
theorem nI_sub' {a b : Nat} (h : b ≤ a) : nI a - nI b = nI (a - b) := by
  have e : nI a = nI (a - b) + nI b := by rw [nI_add]; congr 1; omega
  rw [e, Int32.add_sub_cancel]
theorem nI_div {k m : Nat} (hk : k < 2147483648) (hm : m < 2147483648) (h0 : 0 < m) : nI k / nI m = nI (k / m) := by
  have hq : k / m < 2147483648 := Nat.lt_of_le_of_lt (Nat.div_le_self k m) hk
  refine Int32.toInt_inj.mp ?_
  rw [Int32.toInt_div_of_ne_left _ _ (fun z => ?_), nI_toInt (show k < 2 ^ 31 from hk), nI_toInt (show m < 2 ^ 31 from hm), nI_toInt (show k / m < 2 ^ 31 from hq)]
  · rfl
  · have := nI_pos (show k < 2 ^ 31 from hk)
    rw [z] at this
    exact this (by decide)
theorem nI_mod {k m : Nat} (hk : k < 2147483648) (hm : m < 2147483648) (h0 : 0 < m) : nI k - nI k / nI m * nI m = nI (k % m) := by
  rw [nI_div hk hm h0, nI_mul, nI_sub' (Nat.div_mul_le_self k m)]
  congr 1
  have := Nat.div_add_mod k m
  rw [Nat.mul_comm] at this
  omega
theorem and_pos (z : Int32) : ¬ (z &&& 2147483647) < 0 := by
  intro h
  have h1 := Int32.lt_iff_toInt_lt.mp h
  have h2 : (z &&& 2147483647).toBitVec.msb = true := by
    rw [BitVec.msb_eq_toInt]
    exact decide_eq_true h1
  rw [Int32.toBitVec_and, BitVec.msb_and] at h2
  have : (2147483647 : Int32).toBitVec.msb = false := by decide
  rw [this, Bool.and_false] at h2
  cases h2
def drF (z : Int32) : Int32 := ((z &&& 2147483647) / 65536) - ((z &&& 2147483647) / 65536) / 60 * 60
theorem dr_in (z : Int32) : ∃ j, j < 60 ∧ drF z = nI j := by
  obtain ⟨k, hk, e⟩ := nI_of (and_pos z)
  unfold drF
  rw [e]
  have e1 : nI k / 65536 = nI (k / 65536) := nI_div (m := 65536) hk (by decide) (by decide)
  rw [e1]
  refine ⟨k / 65536 % 60, Nat.mod_lt _ (by decide), nI_mod (m := 60) (by omega) (by decide) (by decide)⟩
theorem dr_ok (z : Int32) : heldF (drF z) = drF z ∧ 0 ≤ drF z ∧ drF z ≤ 99 := by
  obtain ⟨j, hj, e⟩ := dr_in z
  rw [e]
  exact held99 j (by omega)
def nxF (z : Int32) : Int32 := z * 1103515245 + 12345
def loS (p q : Nat) (s : Int32 × Ct) : Int32 × Ct := (nxF s.1, u2 s.2 4 (hI p q) (drF (nxF s.1)))
def loF (n : Nat) (z : Int32) (c : Ct) : Int32 × Ct := fr 0 n (fun p s => fr (p + 1) n (fun q s => loS p q s) s) (z, c)
theorem lo_bec_row {n p : Nat} {z : Int32} {c : Ct} {i : Nat} (hi : p + 1 ≤ i) : fr (p + 1) i (fun q s => loS p q s) (z, bec c) = ((fr (p + 1) i (fun q s => loS p q s) (z, c)).1, bec (fr (p + 1) i (fun q s => loS p q s) (z, c)).2) := by
  obtain ⟨d, rfl⟩ := Nat.exists_eq_add_of_le hi
  clear hi
  induction d with
  | zero => rw [Nat.add_zero, fr_self, fr_self]
  | succ d ih =>
    rw [show p + 1 + (d + 1) = (p + 1 + d) + 1 by omega, fr_succ (by omega), fr_succ (by omega), ih]
    unfold loS
    rw [bec_u2 (by decide)]
theorem lo_bec {n : Nat} {z : Int32} {c : Ct} {i : Nat} (hi : i ≤ n) : fr 0 i (fun p s => fr (p + 1) n (fun q s => loS p q s) s) (z, bec c) = ((fr 0 i (fun p s => fr (p + 1) n (fun q s => loS p q s) s) (z, c)).1, bec (fr 0 i (fun p s => fr (p + 1) n (fun q s => loS p q s) s) (z, c)).2) := by
  induction i with
  | zero => rfl
  | succ i ih =>
    rw [fr_succ (Nat.zero_le i), fr_succ (Nat.zero_le i), ih (by omega), lo_bec_row (n := n) (by omega)]
theorem lo_inv {n nL : Nat} {z : Int32} {c : Ct} (hn : n ≤ 6) (hv : vC n nL c) (hz : zn c) : vC n nL (loF n z c).2 ∧ zn (loF n z c).2 := by
  refine fr_inv (fun _ (s : Int32 × Ct) => vC n nL s.2 ∧ zn s.2) _ (Nat.zero_le n) ⟨hv, hz⟩ (fun p s _ hp hs => ?_)
  refine fr_inv (fun _ (s : Int32 × Ct) => vC n nL s.2 ∧ zn s.2) _ (show p + 1 ≤ n by omega) hs (fun q s _ hq hs => ?_)
  exact ⟨vC_u4 hs.1 (by decide) (by decide), zn_hate hs.2 (by omega) (by omega)⟩
/-- one country more: the lot, how many are opened, how much is hated -/
def ltS (n nL : Nat) (c : Ct) (s : Int32 × Int32 × Int32) : Int32 × Int32 × Int32 :=
  ((loF n s.1 c).1, s.2.1 + (nI (cnF n nL 10 (loF n s.1 c).2) - nI (pc (ob c))), s.2.2 + allF n (wkF n nL 10 (loF n s.1 c).2))
def ltF (n nL a : Nat) (z : Int32) (c : Ct) : Int32 × Int32 × Int32 := fr 0 a (fun _ s => ltS n nL c s) (z, 0, 0)
theorem x_byLot {st : St} {c0 : Ct} {n nL a : Nat} {z x : Int32} {K : Int32 → St → Prop} (hz : zC (cv st 11)) (h0 : zn c0) (hv : vC n nL (cv st 11)) (h7 : st 11 7 = nI n) (ha : a < 2147483648) (h : ∀ c', zn c' → K (if x = 0 then (ltF n nL a z (cv st 11)).2.1 else (ltF n nL a z (cv st 11)).2.2) (sv st 99 c')) : w_X4_byLot (nI a) z x (sv st 99 c0) K := by
  have hn := hv.1
  have hL := hv.2.1
  have zz : zn (cv st 11) := ⟨hz, nC_cv⟩
  unfold w_X4_byLot
  refine lo_frD (fun m i (s : Int32 × Int32 × Int32) c' => w_X4_byLot_L12 (nI a) z x K m s.1 s.2.1 s.2.2 (nI i) (sv st 99 c')) (fun _ s => ltS n nL (cv st 11) s) (fun _ _ => True) (fun _ c' => zn c') (z, (0 : Int32), (0 : Int32)) c0 (Nat.zero_le a) trivial (fun _ _ _ _ _ => trivial) h0 (fun _ m d hd => ?_) (fun m i s d _ hi _ hd hk => ?_)
  · rw [w_X4_byLot_L12, w_X4_byLot_L12q]
    refine y1 (nI_le (Nat.le_refl a) ha) ?_
    rw [w_X4_byLot_b147]
    have := h d hd
    by_cases e : x = 0
    · rw [if_pos e] at this; exact y2 e this
    · rw [if_neg e] at this; exact n2 e this
  · rw [w_X4_byLot_L12, w_X4_byLot_L12q]
    refine n1 (nI_ge hi ha) (m_become hz hd ?_)
    refine lo_fr (fun k p (y : Int32 × Ct) => w_X4_byLot_L32 (nI a) z x (fun v4 v5 v6 v7 st => w_X4_byLot_L12 (nI a) z x K m v4 v5 v6 v7 st) K k y.1 s.2.1 s.2.2 (nI i) (nI p) (sv st 99 y.2)) (fun p y => fr (p + 1) n (fun q y => loS p q y) y) (fun _ _ => True) (s.1, bec (cv st 11)) (Nat.zero_le n) trivial (fun _ _ _ _ _ => trivial) (fun _ k => ?_) (fun k p y _ hp _ hk2 => ?_)
    · rw [w_X4_byLot_L32, w_X4_byLot_L32q]
      unfold w_X1_keeperCount
      rw [o11, h7]
      refine y1 (nI_le (Nat.le_refl n) (by omega)) ?_
      rw [w_X4_byLot_b107, lo_bec (Nat.le_refl n)]
      have li := lo_inv (z := s.1) hn hv zz
      show w_X1_passWeeks 99 10 (sv st 99 (bec (loF n s.1 (cv st 11)).2)) _
      refine m_passWeeks (w := 10) (by decide) li.1 ?_
      have zw : zn (wkF n nL 10 (loF n s.1 (cv st 11)).2) := zn_wkF hn hL li.2
      refine x_openCount (n := n) (nL := nL) (by rw [c11]; exact hv) ?_
      rw [c11]
      refine m_allHate (vC_wkF li.1) zw.2 ?_
      rw [nI_inc]
      exact hk _ zw
    · rw [w_X4_byLot_L32, w_X4_byLot_L32q]
      unfold w_X1_keeperCount
      rw [o11, h7]
      refine n1 (nI_ge hp (by omega)) ?_
      rw [nI_inc]
      refine lo_fr (fun j q (y : Int32 × Ct) => w_X4_byLot_L50 (nI a) z x (fun v4 v5 v6 v7 st => w_X4_byLot_L12 (nI a) z x K m v4 v5 v6 v7 st) (fun v4 v5 v6 v7 v8 st => w_X4_byLot_L32 (nI a) z x (fun v4 v5 v6 v7 st => w_X4_byLot_L12 (nI a) z x K m v4 v5 v6 v7 st) K k v4 v5 v6 v7 v8 st) K j y.1 s.2.1 s.2.2 (nI i) (nI p) (nI q) (sv st 99 y.2)) (fun q y => loS p q y) (fun _ _ => True) y (show p + 1 ≤ n by omega) trivial (fun _ _ _ _ _ => trivial) (fun _ j => ?_) (fun j q y h1 hq _ hk3 => ?_)
      · rw [w_X4_byLot_L50, w_X4_byLot_L50q]
        unfold w_X1_keeperCount
        rw [o11, h7]
        refine y1 (nI_le (Nat.le_refl n) (by omega)) ?_
        rw [w_X4_byLot_b101, nI_inc]
        exact hk2
      · rw [w_X4_byLot_L50, w_X4_byLot_L50q]
        unfold w_X1_keeperCount
        rw [o11, h7]
        refine n1 (nI_ge hq (by omega)) (s_setHate (by omega) (by omega) ?_)
        have e := (dr_ok (nxF y.1)).1
        unfold drF nxF at e
        rw [e, nI_inc]
        exact hk3
theorem th_u30 {mt s : St} {v : Int32} (h : th mt s) : th (u2 mt 0 30 v) (u2 s 0 30 v) :=
  ⟨fun i hi => by rw [u2_off (by decide), lv_u2 (Or.inr ⟨rfl, by decide, by decide, by decide⟩) i hi]; exact h.1 i hi, fun j p q r t => by rw [u2_off p, u2_off p]; exact h.2.1 j p q r t, fun a p q r t u w x => by
    by_cases e : a = 30
    · subst e; rw [u2_same, u2_same]
    · rw [u2_0 e, u2_0 e]; exact h.2.2.1 a p q r t u w x, fun a p => by rw [u2_off (by decide), u2_off (by decide)]; exact h.2.2.2 a p⟩
theorem th_sets {mt s : St} {p q : Nat} {v : Int32} (h : th mt s) : th mt (setsF s p q v) := h.wf wf_sets
theorem tf_u30 {mt : St} {v : Int32} : tf mt (u2 mt 0 30 v) :=
  ⟨lv_u2 (Or.inr ⟨rfl, by decide, by decide, by decide⟩), u2_0 (by decide), u2_off (by decide), u2_off (by decide), u2_off (by decide), u2_0 (by decide), u2_0 (by decide), u2_0 (by decide), u2_0 (by decide), fun a _ => by rw [u2_off (by decide)]⟩
theorem RM_30 {n nL : Nat} {mt : St} {c : Ct} {v : Int32} (h : RM n nL mt c) : RM n nL (u2 mt 0 30 v) c := RM_off h (fun j a b => u2_off (by omega)) (fun i a b => u2_0 (by omega))
theorem hf_30 {mt s : St} {v : Int32} (h : hf (u2 mt 0 30 v) s) : s 0 30 = v := (h.2.2.1 30 (by decide) (by decide) (by decide) (by decide) (by decide) (by decide) (by decide)).trans u2_same
theorem t_lotsL {n nL a : Nat} {z x : Int32} {mt : St} {c : Ct} {K : Int32 → St → Prop} (hm : RM n nL mt c) (ha : a < 2147483648) (hk : ∀ s, tf mt s → K (if x = 0 then (ltF n nL a z c).2.1 else (ltF n nL a z c).2.2) s) : ∃ m, w_X9_lots_L59 (nI a) z x K m 0 (nI (pc (ob c))) 0 (u2 mt 0 30 z) := by
  have hv := hm.1
  have hn := hv.1
  suffices hh : ∃ m, w_X9_lots_L59 (nI a) z x K m (if x = 0 then (0 : Int32) else 0) (nI (pc (ob c))) (nI 0) (u2 mt 0 30 z) by
    have e0 : (if x = 0 then (0 : Int32) else 0) = 0 := by split <;> rfl
    rw [e0] at hh
    exact hh
  refine lo_rel (fun m i (y : (Int32 × Int32 × Int32) × St) => w_X9_lots_L59 (nI a) z x K m (if x = 0 then y.1.2.1 else y.1.2.2) (nI (pc (ob c))) (nI i) y.2) (fun i y => y.1 = ltF n nL i z c ∧ hf (u2 mt 0 30 y.1.1) y.2) ((z, (0 : Int32), (0 : Int32)), u2 mt 0 30 z) (Nat.zero_le a) ⟨rfl, hf_rf⟩ (fun y hI m => ?_) (fun m i y _ hi hI hk2 => ?_)
  · obtain ⟨i1, i2⟩ := hI
    rw [w_X9_lots_L59, w_X9_lots_L59q]
    refine y1 (nI_le (Nat.le_refl a) ha) ?_
    rw [i1]
    exact hk _ (tf_u30.tr i2.tf)
  · obtain ⟨i1, i2⟩ := hI
    rw [w_X9_lots_L59, w_X9_lots_L59q]
    have es : ltF n nL (i + 1) z c = ltS n nL c y.1 := by
      unfold ltF
      rw [fr_succ (Nat.zero_le i)]
      rw [i1]
      rfl
    refine n1 (nI_ge hi ha) (t_think (RM_hf (RM_30 hm) i2) fun s1 e1 e2 => ?_)
    have t0 : th (u2 mt 0 30 y.1.1) s1 := ⟨fun j hj => (e2.1 j hj).trans (i2.1 j hj), fun j p q r t => (e2.2.1 j p q r t).trans (i2.2.1 j p q r t), fun j p q r t u v w => (e2.2.2.1 j p q r t u v w).trans (i2.2.2.1 j p q r t u v w), fun j p => (e2.2.2.2 j p).trans (i2.2.2.2 j p)⟩
    have li := fun (zn0 : zn c) => lo_inv (z := y.1.1) hn hv zn0
    -- the lot's hates, set
    refine lo_rel (fun k p (w : (Int32 × Ct) × St) => w_X9_lots_L72 (nI a) z x (fun v5 v6 v7 st => w_X9_lots_L59 (nI a) z x K m v5 v6 v7 st) K k (if x = 0 then y.1.2.1 else y.1.2.2) (nI (pc (ob c))) (nI i) (nI p) w.2) (fun p w => w.1 = fr 0 p (fun p y => fr (p + 1) n (fun q y => loS p q y) y) (y.1.1, bec c) ∧ RM n nL w.2 w.1.2 ∧ th (u2 mt 0 30 w.1.1) w.2) ((y.1.1, bec c), s1) (Nat.zero_le n) ⟨rfl, e1, t0⟩ (fun w hJ k => ?_) (fun k p w _ hp hJ hk3 => ?_)
    · obtain ⟨j1, j2, j3⟩ := hJ
      rw [w_X9_lots_L72, w_X9_lots_L72q, j2.2.2.1]
      refine y1 (nI_le (Nat.le_refl n) (by omega)) ?_
      rw [w_X9_lots_b122]
      have ew : w.1 = ((loF n y.1.1 c).1, bec (loF n y.1.1 c).2) := j1.trans (lo_bec (Nat.le_refl n))
      have w1 : w.1.1 = (loF n y.1.1 c).1 := by rw [ew]
      have w2 : w.1.2 = bec (loF n y.1.1 c).2 := by rw [ew]
      rw [w2] at j2
      refine t_goesOn (w := 10) (by decide) j2 fun s2 e3 e4 => ?_
      have e3' : RM n nL s2 (wkF n nL 10 (loF n y.1.1 c).2) := e3
      have fin : ∀ v s3, (if x = 0 then y.1.2.1 else y.1.2.2) + v = (if x = 0 then (ltS n nL c y.1).2.1 else (ltS n nL c y.1).2.2) → th (u2 mt 0 30 w.1.1) s3 → w_X9_lots_b151 (nI a) z x (fun v5 v6 v7 st => w_X9_lots_L59 (nI a) z x K m v5 v6 v7 st) K (nI (pc (ob c))) (nI i) v (if x = 0 then y.1.2.1 else y.1.2.2) s3 := fun v s3 ev ht => by
        rw [w_X9_lots_b151]
        refine t_forget ht fun s4 hh _ _ => ?_
        rw [ev, nI_inc]
        refine hk2 (ltS n nL c y.1, s4) ⟨es.symm, ?_⟩
        show hf (u2 mt 0 30 (loF n y.1.1 c).1) s4
        rw [← w1]
        exact hh
      by_cases ex : x = 0
      · refine y2 ex (t_openOnes e3' (t_bits (by have := p64 e3'.1.2.1 e3'.1.2.2.2.2.2.2; omega) (fin _ _ ?_ (j3.wf e4))))
        rw [if_pos ex, if_pos ex]
        rfl
      · refine n2 ex (t_allHate e3' (fin _ _ ?_ (j3.wf e4)))
        rw [if_neg ex, if_neg ex]
        rfl
    · obtain ⟨j1, j2, j3⟩ := hJ
      rw [w_X9_lots_L72, w_X9_lots_L72q, j2.2.2.1]
      refine n1 (nI_ge hp (by omega)) ?_
      rw [nI_inc]
      refine lo_rel (fun j q (u : (Int32 × Ct) × St) => w_X9_lots_L87 (nI a) z x (fun v5 v6 v7 st => w_X9_lots_L59 (nI a) z x K m v5 v6 v7 st) (fun v5 v6 v7 v8 st => w_X9_lots_L72 (nI a) z x (fun v5 v6 v7 st => w_X9_lots_L59 (nI a) z x K m v5 v6 v7 st) K k v5 v6 v7 v8 st) K j (if x = 0 then y.1.2.1 else y.1.2.2) (nI (pc (ob c))) (nI i) (nI p) (nI q) u.2) (fun q u => u.1 = fr (p + 1) q (fun q y => loS p q y) w.1 ∧ RM n nL u.2 u.1.2 ∧ th (u2 mt 0 30 u.1.1) u.2) w (show p + 1 ≤ n by omega) ⟨(fr_self _ _ _).symm, j2, j3⟩ (fun u hU j => ?_) (fun j q u h1 hq hU hk4 => ?_)
      · obtain ⟨u1, u2', u3⟩ := hU
        rw [w_X9_lots_L87, w_X9_lots_L87q, u2'.2.2.1]
        refine y1 (nI_le (Nat.le_refl n) (by omega)) ?_
        rw [w_X9_lots_b116, nI_inc]
        refine hk3 u ⟨?_, u2', u3⟩
        rw [fr_succ (Nat.zero_le p), ← j1, u1]
      · obtain ⟨u1, u2', u3⟩ := hU
        rw [w_X9_lots_L87, w_X9_lots_L87q, u2'.2.2.1]
        refine n1 (nI_ge hq (by omega)) ?_
        unfold w_X9_draw
        refine ⟨by decide, ?_⟩
        have z30 : u.2 0 30 = u.1.1 := (u3.2.2.1 30 (by decide) (by decide) (by decide) (by decide) (by decide) (by decide) (by decide)).trans u2_same
        rw [z30, u2_same]
        have dk := dr_ok (nxF u.1.1)
        refine t_sets (by omega) (by omega) ?_
        rw [nI_inc]
        refine hk4 (loS p q u.1, setsF (u2 u.2 0 30 (nxF u.1.1)) p q (drF (nxF u.1.1))) ⟨by rw [fr_succ (by omega), u1], ?_, ?_⟩
        · show RM n nL _ (u2 u.1.2 4 (hI p q) (drF (nxF u.1.1)))
          exact RM_sets (RM_30 u2') (by omega) hq (by omega) dk.2.1 dk.2.2
        · show th (u2 mt 0 30 (nxF u.1.1)) _
          have := th_u30 (v := nxF u.1.1) u3
          rw [u2_u2] at this
          exact th_sets this
theorem sim_lots {st mt : St} (h : R st mt) (x1 x2 x3 : Int32) : w_X8_lots x1 x2 x3 st (fun r st' => w_X9_lots x1 x2 x3 mt (fun r' mt' => r = r' ∧ R st' mt')) := by
  obtain ⟨n, nL, hm, g, hn, hL, h7, h8, k8, k9⟩ := h.ctx
  unfold w_X8_lots
  refine s_range (s_choice (s_firstOf ?_))
  by_cases e1 : rangeF x1 1 20 = 0
  · rw [e1]
    obtain ⟨a, -, ha, rfl⟩ := rg_nI (a := 1) (b := 20) (by decide) (by decide) e1
    by_cases e2 : inF x3 0 1 = 0
    · rw [ch_out e2, f0, if_neg (by decide)]
      refine n1 (by decide) (s_refused rO2 ?_)
      unfold w_X9_lots
      refine t_bound ?_
      rw [e1]
      refine y2 rfl (t_isIn' (y2 e2 ?_))
      rw [w_X9_lots_b27]
      exact n1 (by decide) (t_no rO2 ⟨rfl, R_ref h rO2⟩)
    · rw [ch_in e2, f0, if_pos rfl]
      refine y1 rfl (mind0 (fun s => w_X4_byLot (nI a) x2 x3 s _) (fun c0 z0 => x_byLot h.z11 z0 hm.1 h7 (by omega) fun c' zc => ?_) h.z99)
      unfold w_X9_lots
      refine t_bound ?_
      rw [e1]
      refine y2 rfl (t_isIn' (n2 e2 ?_))
      rw [w_X9_lots_b27]
      refine y1 rfl (t_openOnes (RM_30 hm) (t_bits (by have := p64 hL hm.1.2.2.2.2.2.2; omega) (t_lotsL hm (by omega) fun s hs => ⟨rfl, R_mind h zc hs⟩)))
  · rw [f1 e1]
    refine n1 e1 (s_refused (rg_ok e1) ?_)
    unfold w_X9_lots
    refine t_bound (n2 e1 ?_)
    rw [w_X9_lots_b27]
    exact n1 e1 (t_no (rg_ok e1) ⟨rfl, R_ref h (rg_ok e1)⟩)
end
section
/-! pure part: fractions: mean, jug -/
theorem LN_toInt {k : Nat} (h : k < 9223372036854775808) : (lN k).toInt = (k : Int) := lg_ofNat_toInt h
theorem LN_eq {a b : Nat} (ha : a < 9223372036854775808) (hb : b < 9223372036854775808) : lN a = lN b ↔ a = b := by
  constructor
  · intro h
    have := congrArg Int64.toInt h
    rw [LN_toInt ha, LN_toInt hb] at this
    omega
  · intro h; rw [h]
theorem LN_div {k m : Nat} (hk : k < 9223372036854775808) (hm : m < 9223372036854775808) : lN k / lN m = lN (k / m) := by
  have hq : k / m < 9223372036854775808 := Nat.lt_of_le_of_lt (Nat.div_le_self k m) hk
  refine Int64.toInt_inj.mp ?_
  rw [Int64.toInt_div_of_ne_left _ _ (fun z => ?_), LN_toInt hk, LN_toInt hm, LN_toInt hq]
  · rfl
  · have := LN_toInt hk
    rw [z] at this
    have e : (Int64.minValue).toInt = -9223372036854775808 := by decide
    omega
theorem LN_mod {k m : Nat} (hk : k < 9223372036854775808) (hm : m < 9223372036854775808) : lN k - lN k / lN m * lN m = lN (k % m) := by
  rw [LN_div hk hm, lN_mul, lN_sub (Nat.div_mul_le_self k m)]
  congr 1
  have := Nat.div_add_mod k m
  rw [Nat.mul_comm] at this
  omega
theorem LN_cmp0 {k : Nat} (hk : k < 9223372036854775808) : lg_cmp (lN k) 0 = 0 ↔ k = 0 := by
  have z0 : (0 : Int64).toInt = 0 := by decide
  unfold lg_cmp
  by_cases h : k = 0
  · subst h
    exact ⟨fun _ => rfl, fun _ => by decide⟩
  · have : lN k > 0 := Int64.lt_iff_toInt_lt.mpr (by rw [LN_toInt hk, z0]; omega)
    rw [if_pos this]
    exact ⟨fun z => absurd z (by decide), fun z => absurd z h⟩
theorem LN_cmp1 {k : Nat} (hk : k < 9223372036854775808) (h : 0 < k) : ¬ lg_cmp (lN k) 0 ≤ 0 := by
  have z0 : (0 : Int64).toInt = 0 := by decide
  unfold lg_cmp
  have : lN k > 0 := Int64.lt_iff_toInt_lt.mpr (by rw [LN_toInt hk, z0]; omega)
  rw [if_pos this]
  decide
theorem LN_ne0 {k : Nat} (hk : k < 9223372036854775808) (h : 0 < k) : ¬ lN k = 0 := fun z => by
  have := (LN_eq (b := 0) hk (by decide)).mp z
  omega
def eu : Nat → Nat → Nat → Nat
  | 0, x, _ => x
  | d + 1, x, y => if y = 0 then x else eu d y (x % y)
theorem eu_0 (d x : Nat) : eu d x 0 = x := by
  cases d with
  | zero => rfl
  | succ d => exact if_pos rfl
theorem gcd_mod (x y : Nat) : Nat.gcd x y = Nat.gcd y (x % y) := by
  rw [Nat.gcd_comm x y, Nat.gcd_rec y x, Nat.gcd_comm]
theorem eu_gcd : ∀ k d x y, y < 2 ^ k → 2 * k ≤ d → eu d x y = Nat.gcd x y
  | 0, d, x, y, h, _ => by
    have : y = 0 := by rw [Nat.pow_zero] at h; omega
    subst this
    rw [eu_0, Nat.gcd_zero_right]
  | k + 1, d, x, y, h, hd => by
    obtain ⟨d', rfl⟩ : ∃ d', d = d' + 2 := ⟨d - 2, by omega⟩
    by_cases hy : y = 0
    · subst hy
      rw [eu_0, Nat.gcd_zero_right]
    · rw [show d' + 2 = (d' + 1) + 1 by omega, eu, if_neg hy]
      by_cases hr : x % y = 0
      · rw [hr, eu_0, gcd_mod x y, hr, Nat.gcd_zero_right]
      · rw [eu, if_neg hr]
        have r1 : x % y < y := Nat.mod_lt _ (by omega)
        have r2 : y % (x % y) < x % y := Nat.mod_lt _ (by omega)
        have r3 := Nat.div_add_mod y (x % y)
        have r4 : 1 ≤ y / (x % y) := (Nat.one_le_div_iff (by omega)).mpr (by omega)
        have r5 : x % y ≤ (x % y) * (y / (x % y)) := Nat.le_mul_of_pos_right _ r4
        have r6 : y % (x % y) < 2 ^ k := by
          rw [Nat.pow_succ] at h
          omega
        rw [eu_gcd k d' (x % y) (y % (x % y)) r6 (by omega), gcd_mod x y, gcd_mod y (x % y)]
theorem x_divisor {st : St} {a b : Nat} {K : Int64 → St → Prop} (ha : a < 9223372036854775808) (hb : b < 2 ^ 50) (h : K (lN (Nat.gcd a b)) st) : w_X0_commonDivisor (lN a) (lN b) st K := by
  unfold w_X0_commonDivisor
  refine lo_rel (fun m i (s : Nat × Nat) => w_X0_commonDivisor_L9 (lN a) (lN b) K m (lN s.1) (lN s.2) (nI i) st) (fun i s => s.1 < 9223372036854775808 ∧ s.2 < 9223372036854775808 ∧ eu (100 - i) s.1 s.2 = Nat.gcd a b) (a, b) (Nat.zero_le 100) ⟨ha, Nat.lt_trans hb (by decide), eu_gcd 50 100 a b hb (by decide)⟩ (fun s hI m => ?_) (fun m i s _ hi hI hk => ?_)
  · obtain ⟨i1, i2, i3⟩ := hI
    rw [w_X0_commonDivisor_L9, w_X0_commonDivisor_L9q]
    refine y1 (nI_le (Nat.le_refl 100) (by decide)) ?_
    rw [Nat.sub_self] at i3
    have : s.1 = Nat.gcd a b := i3
    rw [this]
    exact h
  · obtain ⟨i1, i2, i3⟩ := hI
    rw [w_X0_commonDivisor_L9, w_X0_commonDivisor_L9q]
    refine n1 (nI_ge hi (by decide)) ?_
    by_cases e : s.2 = 0
    · refine y1 ((LN_cmp0 i2).mpr e) ?_
      rw [e, eu_0] at i3
      rw [i3]
      exact h
    · refine n1 (fun z => e ((LN_cmp0 i2).mp z)) ⟨LN_ne0 i2 (by omega), ?_⟩
      rw [LN_mod i1 i2, nI_inc]
      have e2 : 100 - i = (100 - (i + 1)) + 1 := by omega
      rw [e2, eu, if_neg e] at i3
      exact hk (s.2, s.1 % s.2) ⟨i2, Nat.lt_trans (Nat.mod_lt _ (by omega)) i2, i3⟩
theorem t_divisor {st : St} {a b : Nat} {K : Int64 → St → Prop} (ha : a < 9223372036854775808) (hb : b < 9223372036854775808) (h : K (lN (Nat.gcd a b)) st) : w_X9_divisor (lN a) (lN b) st K := by
  unfold w_X9_divisor
  have key : ∀ y x, x < 9223372036854775808 → y < 9223372036854775808 → Nat.gcd x y = Nat.gcd a b → ∃ n, w_X9_divisor_L6 (lN a) (lN b) K n (lN x) (lN y) st := by
    intro y
    induction y using Nat.strongRecOn with
    | _ y ih =>
      intro x hx hy hg
      by_cases e : y = 0
      · subst e
        refine ⟨1, ?_⟩
        rw [w_X9_divisor_L6, w_X9_divisor_L6q]
        refine y1 ((LN_cmp0 hy).mpr rfl) ?_
        rw [Nat.gcd_zero_right] at hg
        rw [hg]
        exact h
      · obtain ⟨n, hn⟩ := ih (x % y) (Nat.mod_lt _ (by omega)) y hy (Nat.lt_trans (Nat.mod_lt _ (by omega)) hy) (by rw [← gcd_mod]; exact hg)
        refine ⟨n + 1, ?_⟩
        rw [w_X9_divisor_L6, w_X9_divisor_L6q]
        refine n1 (fun z => e ((LN_cmp0 hy).mp z)) ⟨LN_ne0 hy (by omega), ?_⟩
        rw [LN_mod hx hy]
        exact hn
  exact key b a ha hb rfl
theorem x_part {st : St} {a b : Nat} {x : Int32} {K : Int64 → St → Prop} (ha : a < 9223372036854775808) (hb : b < 2 ^ 50) (hb0 : 0 < b) (h : K ((if x = 0 then lN a else lN b) / lN (Nat.gcd a b)) st) : w_X0_part (lN a) (lN b) x st K := by
  have g0 : 0 < Nat.gcd a b := Nat.gcd_pos_of_pos_right a hb0
  have gb : Nat.gcd a b < 9223372036854775808 := Nat.lt_of_le_of_lt (Nat.le_of_dvd hb0 (Nat.gcd_dvd_right a b)) (Nat.lt_trans hb (by decide))
  unfold w_X0_part
  refine x_divisor ha hb ⟨fun z => ?_, fun z => ?_⟩
  · rw [if_neg z] at h
    rw [w_X0_part_b17]
    exact n1 (LN_cmp1 gb g0) ⟨LN_ne0 gb g0, h⟩
  · rw [if_pos z] at h
    rw [w_X0_part_b17]
    exact n1 (LN_cmp1 gb g0) ⟨LN_ne0 gb g0, h⟩
theorem t_partOf {st : St} {a b : Nat} {x : Int32} {K : Int64 → St → Prop} (ha : a < 9223372036854775808) (hb : b < 9223372036854775808) (hb0 : 0 < b) (h : K ((if x = 0 then lN a else lN b) / lN (Nat.gcd a b)) st) : w_X9_partOf (lN a) (lN b) x st K := by
  have g0 : 0 < Nat.gcd a b := Nat.gcd_pos_of_pos_right a hb0
  have gb : Nat.gcd a b < 9223372036854775808 := Nat.lt_of_le_of_lt (Nat.le_of_dvd hb0 (Nat.gcd_dvd_right a b)) hb
  unfold w_X9_partOf
  refine ⟨fun z => ?_, fun z => ?_⟩
  · rw [if_neg z] at h
    rw [w_X9_partOf_b10]
    exact t_divisor ha hb ⟨LN_ne0 gb g0, h⟩
  · rw [if_pos z] at h
    rw [w_X9_partOf_b10]
    exact t_divisor ha hb ⟨LN_ne0 gb g0, h⟩
theorem all_nI {n : Nat} {c : Ct} (hn : n ≤ 6) (ho : hOk n c) : ∃ A, A ≤ 3564 ∧ allF n c = nI A := by
  have := fr_inv (fun i (s : Int32) => ∃ A, A ≤ 594 * i ∧ s = nI A) (fun p s => fr (p + 1) n (fun q (s : Int32) => s + c 4 (hI p q)) s) (Nat.zero_le n) (s0 := (0 : Int32)) ⟨0, Nat.le_refl 0, rfl⟩ (fun p s _ hp hs => ?_)
  · obtain ⟨A, h1, h2⟩ := this
    exact ⟨A, by omega, h2⟩
  · have k := fr_inv (fun q (s : Int32) => ∃ A, A ≤ 594 * p + 99 * q ∧ s = nI A) (fun q (s : Int32) => s + c 4 (hI p q)) (show p + 1 ≤ n by omega) (s0 := s) (by
      obtain ⟨A, h1, h2⟩ := hs
      exact ⟨A, by omega, h2⟩) (fun q s h1 hq hs => by
      obtain ⟨A, a1, rfl⟩ := hs
      obtain ⟨d, hd, e⟩ := hOk_nI ho hp hq (by omega)
      exact ⟨A + d, by omega, by rw [e, nI_add]⟩)
    obtain ⟨A, h1, h2⟩ := k
    exact ⟨A, by omega, h2⟩
theorem twos : ∀ n, n < 7 → (if 1 < ((nI n * (nI n - 1)) / 2) then ((nI n * (nI n - 1)) / 2) else 1) = nI (if n < 2 then 1 else n * (n - 1) / 2) := by decide +kernel
theorem twos2 : ∀ n, n < 7 → 2 ≤ n → (nI n * (nI n - 1)) / 2 = nI (n * (n - 1) / 2) ∧ 0 < n * (n - 1) / 2 ∧ n * (n - 1) / 2 < 16 := by decide +kernel
theorem all_small {n : Nat} {c : Ct} (hn : n < 2) : allF n c = 0 := by
  have : n = 0 ∨ n = 1 := by omega
  rcases this with rfl | rfl <;> rfl
theorem sim_mean {st mt : St} (h : R st mt) (x1 : Int32) : w_X8_mean x1 st (fun r st' => w_X9_mean x1 mt (fun r' mt' => r = r' ∧ R st' mt')) := by
  obtain ⟨n, nL, hm, g, hn, hL, h7, h8, k8, k9⟩ := h.ctx
  unfold w_X8_mean
  refine s_choice ?_
  by_cases e : inF x1 0 1 = 0
  · rw [ch_out e]
    refine n1 (by decide) (s_refused rO2 ?_)
    unfold w_X9_mean
    exact t_isIn' (y2 e (t_lowestOf rO2 ⟨rfl, R_ref h rO2⟩))
  · rw [ch_in e]
    refine y1 rfl ?_
    unfold w_X1_keeperCount
    rw [h7]
    refine x_allHate hn h7 ?_
    rw [twos n (by omega)]
    obtain ⟨A, hA, eA⟩ := all_nI hn hm.2.1
    by_cases hs : n < 2
    · have eA0 : nI A = nI 0 := eA.symm.trans (all_small hs)
      rw [eA, eA0, if_pos hs, nI_l (show 0 < 2 ^ 31 by decide), nI_l (show 1 < 2 ^ 31 by decide)]
      refine x_part (by decide) (by decide) (by decide) ?_
      unfold w_X9_mean
      refine t_isIn' (n2 e ?_)
      rw [k8]
      refine n1 (fun z => absurd ((nJ_le (a := 2) (by decide) (by omega)).mp z) (by omega)) ⟨?_, h⟩
      obtain ⟨i, hi, rfl⟩ := in_nI (g := 1) (by decide) e
      have : i = 0 ∨ i = 1 := by omega
      rcases this with rfl | rfl <;> decide
    · obtain ⟨t1, t2, t3⟩ := twos2 n (by omega) (by omega)
      rw [eA, if_neg hs, nI_l (show A < 2 ^ 31 by omega), nI_l (show n * (n - 1) / 2 < 2 ^ 31 by omega)]
      refine x_part (by omega) (Nat.lt_trans t3 (by decide)) t2 ?_
      unfold w_X9_mean
      refine t_isIn' (n2 e ?_)
      rw [k8]
      refine y1 (nI_le (show 2 ≤ n by omega) (by omega)) (t_allHate hm ?_)
      rw [k8, t1, eA, nI_l (show A < 2 ^ 31 by omega), nI_l (show n * (n - 1) / 2 < 2 ^ 31 by omega)]
      exact t_partOf (by omega) (by omega) t2 ⟨rfl, h⟩
/-! powers, ways -/
theorem x_power {st : St} {t e : Nat} {K : Int64 → St → Prop} (ht : t < 2147483648) (he : e < 2147483648) (h : K (lN (t ^ e)) st) : w_X0_power (nI t) (nI e) st K := by
  unfold w_X0_power
  refine lo_rel (fun m i (v : Int64) => w_X0_power_L5 (nI t) (nI e) K m v (nI i) st) (fun i v => v = lN (t ^ i)) (1 : Int64) (Nat.zero_le e) rfl (fun v ev m => ?_) (fun m i v _ hi ev hk => ?_)
  · rw [w_X0_power_L5, w_X0_power_L5q, ev]
    exact y1 (nI_le (Nat.le_refl e) he) h
  · rw [w_X0_power_L5, w_X0_power_L5q, ev]
    refine n1 (nI_ge hi he) ?_
    rw [nI_l (show t < 2 ^ 31 from ht), lN_mul, nI_inc]
    exact hk _ (by rw [Nat.pow_succ])
theorem t_power {st : St} {t e : Nat} {K : Int64 → St → Prop} (ht : t < 2147483648) (he : e < 2147483648) (h : K (lN (t ^ e)) st) : w_X9_power (nI t) (nI e) st K := by
  unfold w_X9_power
  refine lo_rel (fun m i (v : Int64) => w_X9_power_L5 (nI t) (nI e) K m v (nI i) st) (fun i v => v = lN (t ^ i)) (1 : Int64) (Nat.zero_le e) rfl (fun v ev m => ?_) (fun m i v _ hi ev hk => ?_)
  · rw [w_X9_power_L5, w_X9_power_L5q, ev]
    exact y1 (nI_le (Nat.le_refl e) he) h
  · rw [w_X9_power_L5, w_X9_power_L5q, ev]
    refine n1 (nI_ge hi he) ?_
    rw [nI_l (show t < 2 ^ 31 from ht), lN_mul, nI_inc]
    exact hk _ (by rw [Nat.pow_succ])
def zrF (n b : Nat) : Nat := fr 0 n (fun k z => if b.testBit k then z else z + 1) 0
theorem zr_pc : ∀ n, n < 9 → ∀ b, b < 256 → b < 2 ^ n → zrF n b = n - pc b ∧ pc b ≤ n := by decide +kernel
theorem t_partsOf {st : St} {n b t : Nat} {K : Int64 → St → Prop} (hn : n ≤ 8) (hb : b < 2 ^ n) (ht : t < 2147483648) (h1 : 1 ≤ t) (h : K (lN ((t - 1) ^ (n - pc b))) st) : w_X9_partsOf (nI b) (nI n) (nI t) st K := by
  have hb8 : b < 256 := Nat.lt_of_lt_of_le hb (Nat.pow_le_pow_right (by decide) hn : 2 ^ n ≤ 2 ^ 8)
  unfold w_X9_partsOf
  have et : nI t - 1 = nI (t - 1) := nI_sub' (b := 1) h1
  refine lo_rel (fun m i (v : Int64) => w_X9_partsOf_L5 (nI b) (nI n) (nI t) K m v (nI i) st) (fun i v => v = lN ((t - 1) ^ zrF i b)) (1 : Int64) (Nat.zero_le n) rfl (fun v ev m => ?_) (fun m i v _ hi ev hk => ?_)
  · rw [w_X9_partsOf_L5, w_X9_partsOf_L5q, ev, (zr_pc n (by omega) b hb8 hb).1]
    exact y1 (nI_le (Nat.le_refl n) (by omega)) h
  · rw [w_X9_partsOf_L5, w_X9_partsOf_L5q, ev, et]
    have es : zrF (i + 1) b = if b.testBit i then zrF i b else zrF i b + 1 := fr_succ (Nat.zero_le i) _ _
    refine n1 (nI_ge hi (by omega)) (t_hasN hb8 (by omega) ?_)
    cases e : b.testBit i with
    | true =>
      rw [if_pos rfl]
      refine n1 (by decide) ?_
      rw [w_X9_partsOf_b29, nI_inc]
      refine hk _ ?_
      rw [es, e, if_pos rfl]
      exact Int64.mul_one _
    | false =>
      rw [if_neg (by decide)]
      refine y1 rfl ?_
      rw [w_X9_partsOf_b29, nI_inc]
      refine hk _ ?_
      rw [es, e, if_neg (by decide), nI_l (show t - 1 < 2 ^ 31 by omega), lN_mul, Nat.pow_succ]
theorem sh8 : ∀ n, n < 9 → (1 : Int32) <<< (nI n &&& 31) = nI (2 ^ n) := by decide +kernel
theorem pw8 {n : Nat} (hn : n ≤ 8) : 2 ^ n ≤ 256 := (Nat.pow_le_pow_right (by decide) hn : 2 ^ n ≤ 2 ^ 8)
theorem pc8 : ∀ b, b < 256 → pc b < 9 := by decide +kernel
/-- the sum of ways over sets -/
def upF (n t e : Nat) (P : Nat → Bool) : Nat := fr 0 e (fun b s => if P b then s + (t - 1) ^ (n - pc b) else s) 0
theorem c198 : (19 : Nat) ^ 8 = 16983563041 := by decide
theorem up_le {n t e M : Nat} {P : Nat → Bool} (hn : n ≤ 8) (ht : t ≤ 20) (hM : 19 ^ 8 ≤ M) : upF n t e P ≤ e * M :=
  fr_inv (fun i (s : Nat) => s ≤ i * M) (fun b s => if P b then s + (t - 1) ^ (n - pc b) else s) (Nat.zero_le e) (s0 := 0) (Nat.zero_le _) (fun i s _ _ hs => by
    have p1 : (t - 1) ^ (n - pc i) ≤ M := Nat.le_trans (Nat.le_trans (Nat.pow_le_pow_left (show t - 1 ≤ 19 by omega) _) (Nat.pow_le_pow_right (by decide) (Nat.le_trans (Nat.sub_le _ _) hn))) hM
    show (if P i then s + (t - 1) ^ (n - pc i) else s) ≤ (i + 1) * M
    rw [Nat.succ_mul]
    split
    · exact Nat.add_le_add hs p1
    · exact Nat.le_trans hs (Nat.le_add_right _ _))
theorem up_lt {n t e : Nat} {P : Nat → Bool} (hn : n ≤ 8) (ht : t ≤ 20) (he : e ≤ 256) : upF n t e P < 9223372036854775808 :=
  Nat.lt_of_le_of_lt (Nat.le_trans (up_le (M := 16983563041) hn ht (Nat.le_of_eq c198)) (Nat.mul_le_mul_right 16983563041 he)) (by decide)
theorem x_ways {st : St} {n t : Nat} {x2 : Int32} {K : Int64 → St → Prop} (hn : n ≤ 8) (ht : t ≤ 20) (h1 : 1 ≤ t) (h : K (lN (upF n t (2 ^ n) (fun b => decide (¬ nI (pc b) < x2)))) st) : w_X0_ways (nI n) x2 (nI t) st K := by
  have p8 := pw8 hn
  have et : nI t - 1 = nI (t - 1) := nI_sub' (b := 1) h1
  unfold w_X0_ways
  refine lo_rel (fun m b (v : Int64) => w_X0_ways_L5 (nI n) x2 (nI t) K m v (nI b) st) (fun b v => v = lN (upF n t b (fun b => decide (¬ nI (pc b) < x2)))) (0 : Int64) (Nat.zero_le (2 ^ n)) rfl (fun v ev m => ?_) (fun m b v _ hb ev hk => ?_)
  · rw [w_X0_ways_L5, w_X0_ways_L5q, sh8 n (by omega), ev]
    exact y1 (nI_le (Nat.le_refl _) (by omega)) h
  · rw [w_X0_ways_L5, w_X0_ways_L5q, sh8 n (by omega), ev]
    have hpc := (zr_pc n (by omega) b (by omega) hb).2
    have es : upF n t (b + 1) (fun b => decide (¬ nI (pc b) < x2)) = if decide (¬ nI (pc b) < x2) then upF n t b (fun b => decide (¬ nI (pc b) < x2)) + (t - 1) ^ (n - pc b) else upF n t b (fun b => decide (¬ nI (pc b) < x2)) := fr_succ (Nat.zero_le b) _ _
    refine n1 (nI_ge hb (by omega)) (s_bitCount (by omega) ?_)
    by_cases e : nI (pc b) < x2
    · refine y1 e ?_
      rw [w_X0_ways_b38, nI_inc]
      refine hk _ ?_
      rw [es, if_neg (by simpa using e)]
    · refine n1 e (s_bitCount (by omega) ?_)
      rw [et, nI_sub' hpc]
      refine x_power (by omega) (by omega) ?_
      rw [w_X0_ways_b38, nI_inc]
      refine hk _ ?_
      rw [es, if_pos (by simpa using e), lN_add]
theorem t_jugL {st : St} {n t : Nat} {x2 x4 : Int32} {K : Int64 → St → Prop} (hn : n ≤ 8) (ht : t ≤ 20) (h1 : 1 ≤ t) (h : w_X9_jug_b116 (nI n) x2 (nI t) x4 K (lN (upF n t (2 ^ n) (fun b => decide (¬ nI (pc b) < x2)))) st) : ∃ m, w_X9_jug_L77 (nI n) x2 (nI t) x4 K m 0 0 st := by
  have p8 := pw8 hn
  refine lo_rel (fun m b (v : Int64) => w_X9_jug_L77 (nI n) x2 (nI t) x4 K m v (nI b) st) (fun b v => v = lN (upF n t b (fun b => decide (¬ nI (pc b) < x2)))) (0 : Int64) (Nat.zero_le (2 ^ n)) rfl (fun v ev m => ?_) (fun m b v _ hb ev hk => ?_)
  · rw [w_X9_jug_L77, w_X9_jug_L77q, sh8 n (by omega), ev]
    exact y1 (nI_le (Nat.le_refl _) (by omega)) h
  · rw [w_X9_jug_L77, w_X9_jug_L77q, sh8 n (by omega), ev]
    have es : upF n t (b + 1) (fun b => decide (¬ nI (pc b) < x2)) = if decide (¬ nI (pc b) < x2) then upF n t b (fun b => decide (¬ nI (pc b) < x2)) + (t - 1) ^ (n - pc b) else upF n t b (fun b => decide (¬ nI (pc b) < x2)) := fr_succ (Nat.zero_le b) _ _
    refine n1 (nI_ge hb (by omega)) (t_bits (by omega) ?_)
    by_cases e : nI (pc b) < x2
    · refine y1 e ?_
      rw [w_X9_jug_b107, nI_inc]
      refine hk _ ?_
      rw [es, if_neg (by simpa using e)]
      exact Int64.add_zero _
    · refine n1 e (t_partsOf hn hb (by omega) h1 ?_)
      rw [w_X9_jug_b107, nI_inc]
      refine hk _ ?_
      rw [es, if_pos (by simpa using e), lN_add]
theorem pow50 {n t : Nat} (hn : n ≤ 8) (ht : t ≤ 20) : t ^ n < 2 ^ 50 := Nat.lt_of_le_of_lt (Nat.le_trans (Nat.pow_le_pow_left ht n) (Nat.pow_le_pow_right (by decide) hn)) (by decide)
theorem i2le {x : Int32} {a b : Nat} (ha : a < 2147483648) (hb : b < 2147483648) (h1 : nI a ≤ x) (h2 : x ≤ nI b) : ∃ i, a ≤ i ∧ i ≤ b ∧ x = nI i := rg_nI ha hb (by unfold rangeF; rw [if_neg (i_nlt.mpr h1), if_neg (i_nlt.mpr h2)])
theorem sim_jug {st mt : St} (h : R st mt) (x1 x2 x3 x4 : Int32) : w_X8_jug x1 x2 x3 x4 st (fun r st' => w_X9_jug x1 x2 x3 x4 mt (fun r' mt' => r = r' ∧ R st' mt')) := by
  -- the class's last test, and what it refuses
  have fin : ∀ (v s r : Int32), (∀ c : Int32, firstF v s c = r) → ¬ r = 0 → rOk r → (∀ K : Int64 → St → Prop, K (4000000000000000000 - r.toInt64) (refS mt r) → w_X9_jug x1 x2 x3 x4 mt K) → w_X8_jug_b45 x1 x2 x3 x4 (fun r st' => w_X9_jug x1 x2 x3 x4 mt (fun r' mt' => r = r' ∧ R st' mt')) v s st := fun v s r e1 e2 e3 hc => by
    rw [w_X8_jug_b45]
    refine s_choice (s_firstOf ?_)
    rw [e1]
    exact n1 e2 (s_refused e3 (hc _ ⟨rfl, R_ref h e3⟩))
  by_cases A : x1 < 0 ∨ x2 < 0 ∨ ¬ 2 ≤ x3
  · have chk : ∀ K : Int64 → St → Prop, K (4000000000000000000 - (-4 : Int32).toInt64) (refS mt (-4)) → w_X9_jug x1 x2 x3 x4 mt K := fun K hK => by
      have b13 : w_X9_jug_b13 x1 x2 x3 x4 K mt := by
        rw [w_X9_jug_b13, w_X9_jug_b57]
        exact n1 (by decide) (t_lowestOf rO4 hK)
      unfold w_X9_jug
      refine ⟨fun _ => b13, fun z1 => ⟨fun _ => b13, fun z2 => ⟨fun z3 => ?_, fun _ => b13⟩⟩⟩
      exact absurd z3 ((A.resolve_left z1).resolve_left z2)
    have b13 : w_X8_jug_b13 x1 x2 x3 x4 (fun r st' => w_X9_jug x1 x2 x3 x4 mt (fun r' mt' => r = r' ∧ R st' mt')) st := by
      have f : ∀ s, w_X8_jug_b45 x1 x2 x3 x4 (fun r st' => w_X9_jug x1 x2 x3 x4 mt (fun r' mt' => r = r' ∧ R st' mt')) (-4) s st := fun s => fin (-4) s (-4) (fun c => rfl) (by decide) rO4 chk
      rw [w_X8_jug_b13, w_X8_jug_b19]
      exact ⟨fun _ => by rw [w_X8_jug_b39]; exact f _, fun _ => ⟨fun _ => by rw [w_X8_jug_b39]; exact f _, fun _ => ⟨fun _ => f _, fun _ => by rw [w_X8_jug_b39]; exact f _⟩⟩⟩
    unfold w_X8_jug
    refine ⟨fun _ => b13, fun z1 => ⟨fun _ => b13, fun z2 => ⟨fun z3 => ?_, fun _ => b13⟩⟩⟩
    exact absurd z3 ((A.resolve_left z1).resolve_left z2)
  · have a1 : ¬ x1 < 0 := fun z => A (Or.inl z)
    have a2 : ¬ x2 < 0 := fun z => A (Or.inr (Or.inl z))
    have a3 : 2 ≤ x3 := Classical.not_not.mp fun z => A (Or.inr (Or.inr z))
    unfold w_X8_jug
    refine n1 a1 (n1 a2 (y1 a3 ?_))
    rw [w_X8_jug_b19]
    by_cases B : 8 < x1 ∨ 8 < x2 ∨ ¬ x3 ≤ 20
    · have chk : ∀ K : Int64 → St → Prop, K (4000000000000000000 - (-6 : Int32).toInt64) (refS mt (-6)) → w_X9_jug x1 x2 x3 x4 mt K := fun K hK => by
        have b36 : w_X9_jug_b36 x1 x2 x3 x4 K mt := by
          rw [w_X9_jug_b36, w_X9_jug_b57]
          exact n1 (by decide) (t_lowestOf rO6 hK)
        unfold w_X9_jug
        refine n1 a1 (n1 a2 (y1 a3 ⟨fun _ => b36, fun z1 => ⟨fun _ => b36, fun z2 => ⟨fun z3 => ?_, fun _ => b36⟩⟩⟩))
        exact absurd z3 ((B.resolve_left z1).resolve_left z2)
      have b39 : w_X8_jug_b39 x1 x2 x3 x4 (fun r st' => w_X9_jug x1 x2 x3 x4 mt (fun r' mt' => r = r' ∧ R st' mt')) 0 st := by
        rw [w_X8_jug_b39]
        exact fin 0 (-6) (-6) (fun c => rfl) (by decide) rO6 chk
      refine ⟨fun _ => b39, fun z1 => ⟨fun _ => b39, fun z2 => ⟨fun z3 => ?_, fun _ => b39⟩⟩⟩
      exact absurd z3 ((B.resolve_left z1).resolve_left z2)
    · have b1 : ¬ 8 < x1 := fun z => B (Or.inl z)
      have b2 : ¬ 8 < x2 := fun z => B (Or.inr (Or.inl z))
      have b3 : x3 ≤ 20 := Classical.not_not.mp fun z => B (Or.inr (Or.inr z))
      refine n1 b1 (n1 b2 (y1 b3 ?_))
      by_cases e : inF x4 0 1 = 0
      · rw [w_X8_jug_b45]
        refine s_choice (s_firstOf ?_)
        rw [ch_out e, f00]
        refine n1 (by decide) (s_refused rO2 ?_)
        unfold w_X9_jug
        refine n1 a1 (n1 a2 (y1 a3 (n1 b1 (n1 b2 (y1 b3 (t_isIn' (y2 e ?_)))))))
        rw [w_X9_jug_b57]
        exact n1 (by decide) (t_lowestOf rO2 ⟨rfl, R_ref h rO2⟩)
      · rw [w_X8_jug_b45]
        refine s_choice (s_firstOf ?_)
        rw [ch_in e, f00]
        obtain ⟨n, -, hn, rfl⟩ := i2le (a := 0) (b := 8) (by decide) (by decide) (i_nlt.mp a1) (i_nlt.mp b1)
        obtain ⟨t, ht1, ht, rfl⟩ := i2le (a := 2) (b := 20) (by decide) (by decide) a3 b3
        have p0 : 0 < t ^ n := Nat.pow_pos (by omega)
        have ul := up_lt (n := n) (t := t) (e := 2 ^ n) (P := fun b => decide (¬ nI (pc b) < x2)) hn ht (pw8 hn)
        refine y1 rfl (x_ways hn ht (by omega) (x_power (by omega) (by omega) (x_part ul (pow50 hn ht) p0 ?_)))
        unfold w_X9_jug
        refine n1 a1 (n1 a2 (y1 a3 (n1 b1 (n1 b2 (y1 b3 (t_isIn' (n2 e ?_)))))))
        rw [w_X9_jug_b57]
        refine y1 rfl (t_jugL hn ht (by omega) ?_)
        rw [w_X9_jug_b116]
        exact t_power (by omega) (by omega) (t_partOf ul (Nat.lt_trans (pow50 hn ht) (by decide)) p0 ⟨rfl, h⟩)
end
section
/-! pure part: meetings by chance -/
def mtC (b i p q : Nat) (c : Ct) : Ct := if b.testBit i then u2 c 4 (hI p q) (heldF (c 4 (hI p q) - 10)) else c
def mtF (n nL p q b w : Nat) (c : Ct) : Ct := fr 0 w (fun i c => (weekF n nL (mtC b i p q c)).2) (bec c)
theorem vC_mtC {n nL b i p q : Nat} {c : Ct} (h : vC n nL c) : vC n nL (mtC b i p q c) := by
  unfold mtC
  split
  · exact vC_u4 h (by decide) (by decide)
  · exact h
theorem zn_mtC {b i p q : Nat} {c : Ct} (hp : p < 6) (hq : q < 6) (h : zn c) : zn (mtC b i p q c) := by
  unfold mtC
  split
  · exact zn_hate h hp hq
  · exact h
theorem mtF_ok {n nL p q b w : Nat} {c : Ct} (hp : p < 6) (hq : q < 6) (hv : vC n nL c) (hz : zn c) : vC n nL (mtF n nL p q b w c) ∧ zn (mtF n nL p q b w c) :=
  fr_inv (fun _ c => vC n nL c ∧ zn c) _ (Nat.zero_le w) ⟨vC_bec hv, zn_bec hz⟩ fun i c _ _ h => ⟨vC_week (vC_mtC h.1), zn_week hv.1 hv.2.1 (zn_mtC hp hq h.2)⟩
theorem mtF_s {n nL p q b i : Nat} {c : Ct} : mtF n nL p q b (i + 1) c = (weekF n nL (mtC b i p q (mtF n nL p q b i c))).2 := fr_succ (Nat.zero_le i) _ _
def mtP (n nL p q l w : Nat) (c : Ct) (b : Nat) : Bool := (ob (mtF n nL p q b w c)).testBit l
theorem x_meetingWays {st : St} {c0 : Ct} {n nL p q l w t : Nat} {K : Int64 → St → Prop} (hz : zC (cv st 11)) (h0 : zn c0) (hv : vC n nL (cv st 11)) (hp : p < 6) (hq : q < 6) (hl : l < 6) (hw : w ≤ 7) (ht : t ≤ 20) (h1 : 1 ≤ t) (h : ∀ c', zn c' → K (lN (upF w t (2 ^ w) (mtP n nL p q l w (cv st 11)))) (sv st 99 c')) : w_X4_meetingWays (nI p) (nI q) (nI l) (nI w) (nI t) (sv st 99 c0) K := by
  have p8 := pw8 (n := w) (by omega)
  have et : nI t - 1 = nI (t - 1) := nI_sub' (b := 1) h1
  have zz : zn (cv st 11) := ⟨hz, nC_cv⟩
  unfold w_X4_meetingWays
  refine lo_rel (fun m b (y : Int64 × Ct) => w_X4_meetingWays_L6 (nI p) (nI q) (nI l) (nI w) (nI t) K m y.1 (nI b) (sv st 99 y.2)) (fun b y => y.1 = lN (upF w t b (mtP n nL p q l w (cv st 11))) ∧ zn y.2) ((0 : Int64), c0) (Nat.zero_le (2 ^ w)) ⟨rfl, h0⟩ (fun y hI m => ?_) (fun m b y _ hb hI hk => ?_)
  · rw [w_X4_meetingWays_L6, w_X4_meetingWays_L6q, sh8 w (by omega), hI.1]
    exact y1 (nI_le (Nat.le_refl _) (by omega)) (h _ hI.2)
  · rw [w_X4_meetingWays_L6, w_X4_meetingWays_L6q, sh8 w (by omega), hI.1]
    refine n1 (nI_ge hb (by omega)) (m_become hz hI.2 ?_)
    have hpc := (zr_pc w (by omega) b (by omega) hb).2
    have es : upF w t (b + 1) (mtP n nL p q l w (cv st 11)) = if mtP n nL p q l w (cv st 11) b then upF w t b (mtP n nL p q l w (cv st 11)) + (t - 1) ^ (w - pc b) else upF w t b (mtP n nL p q l w (cv st 11)) := fr_succ (Nat.zero_le b) _ _
    refine lo_fr (fun k i (c : Ct) => w_X4_meetingWays_L29 (nI p) (nI q) (nI l) (nI w) (nI t) (fun v6 v8 st => w_X4_meetingWays_L6 (nI p) (nI q) (nI l) (nI w) (nI t) K m v6 v8 st) K k (lN (upF w t b (mtP n nL p q l w (cv st 11)))) (nI b) (nI i) (sv st 99 c)) (fun i c => (weekF n nL (mtC b i p q c)).2) (fun _ c => vC n nL c ∧ zn c) (bec (cv st 11)) (Nat.zero_le w) ⟨vC_bec hv, zn_bec zz⟩ (fun i c _ _ hc => ⟨vC_week (vC_mtC hc.1), zn_week hv.1 hv.2.1 (zn_mtC hp hq hc.2)⟩) (fun hc k => ?_) (fun k i c _ hi hc hk2 => ?_)
    · rw [w_X4_meetingWays_L29, w_X4_meetingWays_L29q]
      refine y1 (nI_le (Nat.le_refl w) (by omega)) ?_
      rw [w_X4_meetingWays_b82]
      show w_X1_isOpen 99 (nI l) (sv st 99 (mtF n nL p q b w (cv st 11))) _
      refine m_isOpen hc.1 hl ?_
      by_cases e : (ob (mtF n nL p q b w (cv st 11))).testBit l = true
      · rw [if_pos e]
        refine n1 (by decide) (s_bitCount (by omega) ?_)
        rw [et, nI_sub' hpc]
        refine x_power (by omega) (by omega) ?_
        rw [w_X4_meetingWays_b113, nI_inc]
        refine hk (_, _) ⟨?_, hc.2⟩
        show lN _ + lN _ = _
        rw [es, if_pos (show mtP n nL p q l w (cv st 11) b = true from e), lN_add]
      · rw [if_neg e]
        refine y1 rfl ?_
        rw [w_X4_meetingWays_b113, nI_inc]
        refine hk (_, _) ⟨?_, hc.2⟩
        rw [es, if_neg (show ¬ mtP n nL p q l w (cv st 11) b = true from e)]
        rfl
    · rw [w_X4_meetingWays_L29, w_X4_meetingWays_L29q]
      refine n1 (nI_ge hi (by omega)) (s_bitN (by omega) (by omega) ?_)
      have nx : w_X4_meetingWays_b68 (nI p) (nI q) (nI l) (nI w) (nI t) (fun v6 v8 st => w_X4_meetingWays_L6 (nI p) (nI q) (nI l) (nI w) (nI t) K m v6 v8 st) (fun v6 v8 v9 st => w_X4_meetingWays_L29 (nI p) (nI q) (nI l) (nI w) (nI t) (fun v6 v8 st => w_X4_meetingWays_L6 (nI p) (nI q) (nI l) (nI w) (nI t) K m v6 v8 st) K k v6 v8 v9 st) K (lN (upF w t b (mtP n nL p q l w (cv st 11)))) (nI b) (nI i) (sv st 99 (mtC b i p q c)) := by
        rw [w_X4_meetingWays_b68]
        refine s_week1 (vC_mtC hc.1) ?_
        rw [nI_inc]
        exact hk2
      unfold mtC at nx
      by_cases e : b.testBit i = true
      · rw [if_pos e] at nx ⊢
        exact y2 rfl (s_hateOf hp hq (s_setHate hp hq nx))
      · rw [if_neg e] at nx ⊢
        exact n2 (by decide) nx
theorem t_isOpenMeeting {n nL p q l w b : Nat} {mt : St} {c : Ct} {K : Int32 → St → Prop} (hm : RM n nL mt c) (hp : p < n) (hq : q < n) (hpq : p ≠ q) (hl : l < nL) (hw : w ≤ 7) (hb : b < 256) (hk : ∀ s, hf mt s → K (if mtP n nL p q l w c b then 1 else 0) s) : w_X9_isOpenMeeting (nI p) (nI q) (nI l) (nI w) (nI b) mt K := by
  have hn := hm.1.1
  have hL := hm.1.2.1
  have cl : (nI l).toNatClampNeg = l := clI (show l < 6 by omega) (by decide)
  unfold w_X9_isOpenMeeting
  refine t_think hm fun s0 e3 e4 => ?_
  refine lo_rel (fun m i (s : St) => w_X9_isOpenMeeting_L7 (nI p) (nI q) (nI l) (nI w) (nI b) K m (nI i) s) (fun i s => RM n nL s (mtF n nL p q b i c) ∧ th mt s) s0 (Nat.zero_le w) ⟨e3, e4⟩ (fun s hI m => ?_) (fun m i s _ hi hI hk2 => ?_)
  · rw [w_X9_isOpenMeeting_L7, w_X9_isOpenMeeting_L7q]
    refine y1 (nI_le (Nat.le_refl w) (by omega)) ?_
    rw [w_X9_isOpenMeeting_b55, cl, (hI.1.2.2.2.2.2.2.2 l hl).2.2.2]
    refine ⟨vp_in_nI (by omega) (by decide), ?_⟩
    by_cases e : (ob (mtF n nL p q b w c)).testBit l = true
    · rw [if_pos e]
      refine y2 rfl ?_
      rw [w_X9_isOpenMeeting_b70]
      refine t_forget hI.2 fun s' hh _ _ => ⟨Or.inr rfl, ?_⟩
      have := hk s' hh
      rwa [if_pos (show mtP n nL p q l w c b = true from e)] at this
    · rw [if_neg e]
      refine n2 (by decide) ?_
      rw [w_X9_isOpenMeeting_b70]
      refine t_forget hI.2 fun s' hh _ _ => ⟨Or.inl rfl, ?_⟩
      have := hk s' hh
      rwa [if_neg (show ¬ mtP n nL p q l w c b = true from e)] at this
  · rw [w_X9_isOpenMeeting_L7, w_X9_isOpenMeeting_L7q]
    refine n1 (nI_ge hi (by omega)) (t_hasN hb (by omega) ?_)
    have nx : ∀ s1, RM n nL s1 (mtC b i p q (mtF n nL p q b i c)) → th mt s1 → w_X9_isOpenMeeting_b45 (nI p) (nI q) (nI l) (nI w) (nI b) (fun v6 st => w_X9_isOpenMeeting_L7 (nI p) (nI q) (nI l) (nI w) (nI b) K m v6 st) K (nI i) s1 := fun s1 q1 q2 => by
      rw [w_X9_isOpenMeeting_b45]
      refine t_goesWeek q1 fun s2 q3 q4 _ => ?_
      rw [nI_inc]
      exact hk2 s2 ⟨by rw [mtF_s]; exact q3, q2.wf q4⟩
    by_cases e : b.testBit i = true
    · rw [if_pos e]
      refine n1 (by decide) (t_hateOf (by omega) (by omega) (t_held (t_sets (by omega) (by omega) ?_)))
      rw [hlF_held, hI.1.hate hp hq hpq]
      refine nx _ ?_ (th_sets hI.2)
      unfold mtC
      rw [if_pos e]
      exact RM_sets hI.1 hp hq hpq (heldF_in _).1 (heldF_in _).2
    · rw [if_neg e]
      refine y1 rfl (nx s ?_ hI.2)
      unfold mtC
      rw [if_neg e]
      exact hI.1
theorem t_meetingsL {n nL p q l w t : Nat} {x6 : Int32} {mt : St} {c : Ct} {K : Int64 → St → Prop} (hm : RM n nL mt c) (hp : p < n) (hq : q < n) (hpq : p ≠ q) (hl : l < nL) (hw : w ≤ 7) (ht : t ≤ 20) (h1 : 1 ≤ t) (h : ∀ s, hf mt s → w_X9_meetings_b139 (nI p) (nI q) (nI l) (nI w) (nI t) x6 K (lN (upF w t (2 ^ w) (mtP n nL p q l w c))) s) : ∃ m, w_X9_meetings_L92 (nI p) (nI q) (nI l) (nI w) (nI t) x6 K m 0 0 mt := by
  have p8 := pw8 (n := w) (by omega)
  refine lo_rel (fun m b (y : Int64 × St) => w_X9_meetings_L92 (nI p) (nI q) (nI l) (nI w) (nI t) x6 K m y.1 (nI b) y.2) (fun b y => y.1 = lN (upF w t b (mtP n nL p q l w c)) ∧ hf mt y.2) ((0 : Int64), mt) (Nat.zero_le (2 ^ w)) ⟨rfl, hf_rf⟩ (fun y hI m => ?_) (fun m b y _ hb hI hk => ?_)
  · rw [w_X9_meetings_L92, w_X9_meetings_L92q, sh8 w (by omega), hI.1]
    exact y1 (nI_le (Nat.le_refl _) (by omega)) (h _ hI.2)
  · rw [w_X9_meetings_L92, w_X9_meetings_L92q, sh8 w (by omega), hI.1]
    have es : upF w t (b + 1) (mtP n nL p q l w c) = if mtP n nL p q l w c b then upF w t b (mtP n nL p q l w c) + (t - 1) ^ (w - pc b) else upF w t b (mtP n nL p q l w c) := fr_succ (Nat.zero_le b) _ _
    refine n1 (nI_ge hb (by omega)) (t_isOpenMeeting (RM_hf hm hI.2) hp hq hpq hl hw (by omega) fun s hs => ?_)
    by_cases e : mtP n nL p q l w c b = true
    · rw [if_pos e]
      refine n1 (by decide) (t_partsOf (by omega) hb (by omega) h1 ?_)
      rw [w_X9_meetings_b130, nI_inc]
      refine hk (_, _) ⟨?_, hI.2.tr hs⟩
      show lN _ + lN _ = _
      rw [es, if_pos e, lN_add]
    · rw [if_neg e]
      refine y1 rfl ?_
      rw [w_X9_meetings_b130, nI_inc]
      refine hk (_, _) ⟨?_, hI.2.tr hs⟩
      show lN _ + 0 = _
      rw [es, if_neg e]
      exact Int64.add_zero _
theorem sim_meetings {st mt : St} (h : R st mt) (x1 x2 x3 x4 x5 x6 : Int32) : w_X8_meetings x1 x2 x3 x4 x5 x6 st (fun r st' => w_X9_meetings x1 x2 x3 x4 x5 x6 mt (fun r' mt' => r = r' ∧ R st' mt')) := by
  obtain ⟨n, nL, hm, g, hn, hL, h7, h8, k8, k9⟩ := h.ctx
  have fin : ∀ (u v s r : Int32), (∀ c : Int32, firstF (firstF u v s) c 0 = r) → ¬ r = 0 → rOk r → (∀ K : Int64 → St → Prop, K (4000000000000000000 - r.toInt64) (refS mt r) → w_X9_meetings x1 x2 x3 x4 x5 x6 mt K) → w_X8_meetings_b56 x1 x2 x3 x4 x5 x6 (fun r st' => w_X9_meetings x1 x2 x3 x4 x5 x6 mt (fun r' mt' => r = r' ∧ R st' mt')) u v s st := fun u v s r e1 e2 e3 hc => by
    rw [w_X8_meetings_b56]
    refine s_firstOf (s_choice (s_firstOf ?_))
    rw [e1]
    exact n1 e2 (s_refused e3 (hc _ ⟨rfl, R_ref h e3⟩))
  unfold w_X8_meetings
  refine s_twoRef h7 (s_letterRef h8 (s_firstOf ?_))
  by_cases N : twF n x1 x2 = 0 ∨ isF nL x3 = 0
  · have chk : ∀ K : Int64 → St → Prop, K (4000000000000000000 - (-1 : Int32).toInt64) (refS mt (-1)) → w_X9_meetings x1 x2 x3 x4 x5 x6 mt K := fun K hK => by
      have b17 : w_X9_meetings_b17 x1 x2 x3 x4 x5 x6 K mt := by
        rw [w_X9_meetings_b17, w_X9_meetings_b72]
        exact n1 (by decide) (t_lowestOf rO1 hK)
      unfold w_X9_meetings
      refine t_areTwo k8 ⟨fun _ => b17, fun z1 => t_isLetter k9 ⟨fun z2 => ?_, fun _ => b17⟩⟩
      exact absurd (N.resolve_left z1) z2
    have ef : firstF (nbF (twF n x1 x2)) (nbF (isF nL x3)) 0 = -1 := by
      by_cases z1 : twF n x1 x2 = 0
      · rw [nb0 z1, f1 (by decide)]
      · rw [nb1 z1, nb0 (N.resolve_left z1), f01 (by decide)]
    rw [ef]
    have f : ∀ v s, w_X8_meetings_b56 x1 x2 x3 x4 x5 x6 (fun r st' => w_X9_meetings x1 x2 x3 x4 x5 x6 mt (fun r' mt' => r = r' ∧ R st' mt')) (-1) v s st := fun v s => fin (-1) v s (-1) (fun c => by rw [f1 (show ¬ (-1 : Int32) = 0 by decide), f1 (show ¬ (-1 : Int32) = 0 by decide)]) (by decide) rO1 chk
    have b34 : ∀ v, w_X8_meetings_b34 x1 x2 x3 x4 x5 x6 (fun r st' => w_X9_meetings x1 x2 x3 x4 x5 x6 mt (fun r' mt' => r = r' ∧ R st' mt')) (-1) v st := fun v => by
      rw [w_X8_meetings_b34]
      exact ⟨fun _ => by rw [w_X8_meetings_b50]; exact f _ _, fun _ => ⟨fun _ => f _ _, fun _ => by rw [w_X8_meetings_b50]; exact f _ _⟩⟩
    exact ⟨fun _ => by rw [w_X8_meetings_b28]; exact b34 _, fun _ => ⟨fun _ => b34 _, fun _ => by rw [w_X8_meetings_b28]; exact b34 _⟩⟩
  · have z1 : ¬ twF n x1 x2 = 0 := fun z => N (Or.inl z)
    have z2 : ¬ isF nL x3 = 0 := fun z => N (Or.inr z)
    rw [nb1 z1, nb1 z2, f00]
    by_cases A : x4 < 0 ∨ ¬ 2 ≤ x5
    · have chk : ∀ K : Int64 → St → Prop, K (4000000000000000000 - (-4 : Int32).toInt64) (refS mt (-4)) → w_X9_meetings x1 x2 x3 x4 x5 x6 mt K := fun K hK => by
        have b32 : w_X9_meetings_b32 x1 x2 x3 x4 x5 x6 K mt := by
          rw [w_X9_meetings_b32, w_X9_meetings_b72]
          exact n1 (by decide) (t_lowestOf rO4 hK)
        unfold w_X9_meetings
        refine t_areTwo k8 (n1 z1 (t_isLetter k9 (n2 z2 ⟨fun _ => b32, fun y => ⟨fun y2' => ?_, fun _ => b32⟩⟩)))
        exact absurd y2' (A.resolve_left y)
      have b28 : w_X8_meetings_b28 x1 x2 x3 x4 x5 x6 (fun r st' => w_X9_meetings x1 x2 x3 x4 x5 x6 mt (fun r' mt' => r = r' ∧ R st' mt')) 0 st := by
        have f : ∀ s, w_X8_meetings_b56 x1 x2 x3 x4 x5 x6 (fun r st' => w_X9_meetings x1 x2 x3 x4 x5 x6 mt (fun r' mt' => r = r' ∧ R st' mt')) 0 (-4) s st := fun s => fin 0 (-4) s (-4) (fun c => by rw [f01 (show ¬ (-4 : Int32) = 0 by decide), f1 (show ¬ (-4 : Int32) = 0 by decide)]) (by decide) rO4 chk
        rw [w_X8_meetings_b28, w_X8_meetings_b34]
        exact ⟨fun _ => by rw [w_X8_meetings_b50]; exact f _, fun _ => ⟨fun _ => f _, fun _ => by rw [w_X8_meetings_b50]; exact f _⟩⟩
      refine ⟨fun _ => b28, fun y => ⟨fun y2' => ?_, fun _ => b28⟩⟩
      exact absurd y2' (A.resolve_left y)
    · have a1 : ¬ x4 < 0 := fun z => A (Or.inl z)
      have a2 : 2 ≤ x5 := Classical.not_not.mp fun z => A (Or.inr z)
      refine n1 a1 (y1 a2 ?_)
      rw [w_X8_meetings_b34]
      by_cases B : 7 < x4 ∨ ¬ x5 ≤ 20
      · have chk : ∀ K : Int64 → St → Prop, K (4000000000000000000 - (-6 : Int32).toInt64) (refS mt (-6)) → w_X9_meetings x1 x2 x3 x4 x5 x6 mt K := fun K hK => by
          have b51 : w_X9_meetings_b51 x1 x2 x3 x4 x5 x6 K mt := by
            rw [w_X9_meetings_b51, w_X9_meetings_b72]
            exact n1 (by decide) (t_lowestOf rO6 hK)
          unfold w_X9_meetings
          refine t_areTwo k8 (n1 z1 (t_isLetter k9 (n2 z2 (n1 a1 (y1 a2 ⟨fun _ => b51, fun y => ⟨fun y2' => ?_, fun _ => b51⟩⟩)))))
          exact absurd y2' (B.resolve_left y)
        have b50 : w_X8_meetings_b50 x1 x2 x3 x4 x5 x6 (fun r st' => w_X9_meetings x1 x2 x3 x4 x5 x6 mt (fun r' mt' => r = r' ∧ R st' mt')) 0 0 st := by
          rw [w_X8_meetings_b50]
          exact fin 0 0 (-6) (-6) (fun c => by rw [f00, f1 (show ¬ (-6 : Int32) = 0 by decide)]) (by decide) rO6 chk
        refine ⟨fun _ => b50, fun y => ⟨fun y2' => ?_, fun _ => b50⟩⟩
        exact absurd y2' (B.resolve_left y)
      · have b1 : ¬ 7 < x4 := fun z => B (Or.inl z)
        have b2 : x5 ≤ 20 := Classical.not_not.mp fun z => B (Or.inr z)
        refine n1 b1 (y1 b2 ?_)
        rw [w_X8_meetings_b56]
        refine s_firstOf (s_choice (s_firstOf ?_))
        rw [f00]
        by_cases e : inF x6 0 1 = 0
        · rw [ch_out e, f01 (by decide)]
          refine n1 (by decide) (s_refused rO2 ?_)
          unfold w_X9_meetings
          refine t_areTwo k8 (n1 z1 (t_isLetter k9 (n2 z2 (n1 a1 (y1 a2 (n1 b1 (y1 b2 (t_isIn' (y2 e ?_)))))))))
          rw [w_X9_meetings_b72]
          exact n1 (by decide) (t_lowestOf rO2 ⟨rfl, R_ref h rO2⟩)
        · rw [ch_in e, f00]
          obtain ⟨p, q, hp, hq, hpq, rfl, rfl⟩ := twF_1 (by omega) z1
          obtain ⟨l, hl, rfl⟩ := isF_1 (by omega) z2
          obtain ⟨w, -, hw, rfl⟩ := i2le (a := 0) (b := 7) (by decide) (by decide) (i_nlt.mp a1) (i_nlt.mp b1)
          obtain ⟨t, ht1, ht, rfl⟩ := i2le (a := 2) (b := 20) (by decide) (by decide) a2 b2
          have p0 : 0 < t ^ w := Nat.pow_pos (by omega)
          have ul := up_lt (n := w) (t := t) (e := 2 ^ w) (P := mtP n nL p q l w (cv st 11)) (by omega) ht (pw8 (by omega))
          refine y1 rfl (mind0 (fun s => w_X4_meetingWays (nI p) (nI q) (nI l) (nI w) (nI t) s _) (fun c0 z0 => x_meetingWays h.z11 z0 hm.1 (by omega) (by omega) (by omega) hw ht (by omega) fun c' zc => x_power (by omega) (by omega) (x_part ul (pow50 (by omega) ht) p0 ?_)) h.z99)
          unfold w_X9_meetings
          refine t_areTwo k8 (n1 z1 (t_isLetter k9 (n2 z2 (n1 a1 (y1 a2 (n1 b1 (y1 b2 (t_isIn' (n2 e ?_)))))))))
          rw [w_X9_meetings_b72]
          refine y1 rfl (t_meetingsL hm hp hq hpq hl hw ht (by omega) fun s hs => ?_)
          rw [w_X9_meetings_b139]
          exact t_power (by omega) (by omega) (t_partOf ul (Nat.lt_trans (pow50 (by omega) ht) (by decide)) p0 ⟨rfl, R_mind h zc hs.tf⟩)
end
section
/-! pure part: pairs: the greatest matching, by the highest keeper or by the lowest -/
def Mt (E : Nat → Nat → Prop) : Nat → (Nat → Prop) → Prop
  | 0, _ => True
  | k + 1, S => ∃ p q, S p ∧ S q ∧ p ≠ q ∧ E p q ∧ Mt E k (fun a => S a ∧ a ≠ p ∧ a ≠ q)
theorem Mt.mono {E : Nat → Nat → Prop} : ∀ {k : Nat} {S T : Nat → Prop}, (∀ a, S a → T a) → Mt E k S → Mt E k T
  | 0, _, _, _, _ => trivial
  | k + 1, S, T, h, ⟨p, q, h1, h2, h3, h4, h5⟩ => ⟨p, q, h p h1, h q h2, h3, h4, Mt.mono (fun a z => ⟨h a z.1, z.2⟩) h5⟩
theorem Mt.pivot {E : Nat → Nat → Prop} (sy : ∀ a b, E a b → E b a) {x : Nat} : ∀ {k : Nat} {S : Nat → Prop}, S x → Mt E (k + 1) S → Mt E (k + 1) (fun a => S a ∧ a ≠ x) ∨ ∃ y, S y ∧ y ≠ x ∧ E x y ∧ Mt E k (fun a => (S a ∧ a ≠ x) ∧ a ≠ y)
  | k, S, hx, ⟨p, q, h1, h2, h3, h4, h5⟩ => by
    by_cases ep : p = x
    · subst ep
      exact Or.inr ⟨q, h2, Ne.symm h3, h4, h5.mono fun a z => ⟨⟨z.1, z.2.1⟩, z.2.2⟩⟩
    · by_cases eq : q = x
      · subst eq
        exact Or.inr ⟨p, h1, h3, sy _ _ h4, h5.mono fun a z => ⟨⟨z.1, z.2.2⟩, z.2.1⟩⟩
      · cases k with
        | zero => exact Or.inl ⟨p, q, ⟨h1, ep⟩, ⟨h2, eq⟩, h3, h4, trivial⟩
        | succ k =>
          rcases Mt.pivot sy (x := x) (k := k) (S := fun a => S a ∧ a ≠ p ∧ a ≠ q) ⟨hx, Ne.symm ep, Ne.symm eq⟩ h5 with z | ⟨y, ⟨y1, y2, y3⟩, y4, y5, y6⟩
          · exact Or.inl ⟨p, q, ⟨h1, ep⟩, ⟨h2, eq⟩, h3, h4, z.mono fun a w => ⟨⟨w.1.1, w.2⟩, w.1.2⟩⟩
          · exact Or.inr ⟨y, y1, y4, y5, p, q, ⟨⟨h1, ep⟩, Ne.symm y2⟩, ⟨⟨h2, eq⟩, Ne.symm y3⟩, h3, h4, y6.mono fun a w => ⟨⟨⟨w.1.1.1, w.1.2⟩, w.2⟩, w.1.1.2⟩⟩
def isM (E : Nat → Nat → Prop) (S : Nat → Prop) (m : Nat) : Prop := ∀ k, Mt E k S ↔ k ≤ m
theorem isM_1 {E : Nat → Nat → Prop} {S : Nat → Prop} {m m' : Nat} (h : isM E S m) (h' : isM E S m') : m = m' := by
  have h1 := (h' m).mp ((h m).mpr (Nat.le_refl m))
  have h2 := (h m').mp ((h' m').mpr (Nat.le_refl m'))
  omega
/-- what is known after the partners below i are tried -/
def acM (E : Nat → Nat → Prop) (O : Nat → Prop) (x i m : Nat) : Prop := ∀ k, (Mt E k O ∨ ∃ y, y < i ∧ O y ∧ E x y ∧ ∃ k', k = k' + 1 ∧ Mt E k' (fun a => O a ∧ a ≠ y)) ↔ k ≤ m
theorem acM_0 {E : Nat → Nat → Prop} {O : Nat → Prop} {x i m : Nat} (h : isM E O m) (hi : ∀ y, O y → i ≤ y) : acM E O x i m := fun k => by
  rw [← h k]
  exact ⟨fun z => z.elim id fun ⟨y, y1, y2, _⟩ => absurd (hi y y2) (by omega), Or.inl⟩
theorem acM_skip {E : Nat → Nat → Prop} {O : Nat → Prop} {x i m : Nat} (h : acM E O x i m) (hn : ¬ (O i ∧ E x i)) : acM E O x (i + 1) m := fun k => by
  rw [← h k]
  constructor
  · rintro (z | ⟨y, y1, y2, y3, y4⟩)
    · exact Or.inl z
    · by_cases e : y = i
      · subst e; exact absurd ⟨y2, y3⟩ hn
      · exact Or.inr ⟨y, by omega, y2, y3, y4⟩
  · rintro (z | ⟨y, y1, y2, y3, y4⟩)
    · exact Or.inl z
    · exact Or.inr ⟨y, by omega, y2, y3, y4⟩
theorem acM_take {E : Nat → Nat → Prop} {O : Nat → Prop} {x i m m' : Nat} (h : acM E O x i m) (ho : O i) (he : E x i) (h' : isM E (fun a => O a ∧ a ≠ i) m') : acM E O x (i + 1) (if m < 1 + m' then 1 + m' else m) := fun k => by
  have hk := h k
  constructor
  · rintro (z | ⟨y, y1, y2, y3, k', rfl, y5⟩)
    · have := hk.mp (Or.inl z)
      split <;> omega
    · by_cases e : y = i
      · subst e
        have := (h' k').mp y5
        split <;> omega
      · have := hk.mp (Or.inr ⟨y, by omega, y2, y3, k', rfl, y5⟩)
        split <;> omega
  · intro z
    by_cases e : k ≤ m
    · rcases hk.mpr e with w | ⟨y, y1, y2, y3, y4⟩
      · exact Or.inl w
      · exact Or.inr ⟨y, by omega, y2, y3, y4⟩
    · rw [if_pos (by split at z <;> omega)] at z
      obtain ⟨k', rfl⟩ : ∃ k', k = k' + 1 := ⟨k - 1, by omega⟩
      exact Or.inr ⟨i, by omega, ho, he, k', rfl, (h' k').mpr (by omega)⟩
theorem acM_end {E : Nat → Nat → Prop} (sy : ∀ a b, E a b → E b a) {S O : Nat → Prop} {x i m : Nat} (h : acM E O x i m) (hx : S x) (hO : ∀ a, O a ↔ S a ∧ a ≠ x) (hi : ∀ y, O y → y < i) : isM E S m := fun k => by
  rw [← h k]
  constructor
  · intro z
    cases k with
    | zero => exact Or.inl trivial
    | succ k =>
      rcases z.pivot sy hx with w | ⟨y, y1, y2, y3, y4⟩
      · exact Or.inl (w.mono fun a b => (hO a).mpr b)
      · exact Or.inr ⟨y, hi y ((hO y).mpr ⟨y1, y2⟩), (hO y).mpr ⟨y1, y2⟩, y3, k, rfl, y4.mono fun a b => ⟨(hO a).mpr b.1, b.2⟩⟩
  · rintro (w | ⟨y, y1, y2, y3, k', rfl, y5⟩)
    · exact w.mono fun a b => ((hO a).mp b).1
    · have oy := (hO y).mp y2
      exact ⟨x, y, hx, oy.1, Ne.symm oy.2, y3, y5.mono fun a b => ⟨((hO a).mp b.1).1, ((hO a).mp b.1).2, b.2⟩⟩
/-! sets as bits -/
def bS (s : Nat) : Nat → Prop := fun a => a < 6 ∧ s.testBit a = true
def clr (s y : Nat) : Nat := if s.testBit y then s - 2 ^ y else s
theorem clr_bit : ∀ s, s < 64 → ∀ y, y < 6 → ∀ a, a < 6 → (clr s y).testBit a = (s.testBit a && decide (a ≠ y)) := by decide +kernel
theorem clr_I : ∀ s, s < 64 → ∀ y, y < 6 → nI s &&& (((1 : Int32) <<< (nI y &&& 31)) ^^^ (-1)) = nI (clr s y) := by decide +kernel
theorem clr_lt {s y : Nat} (h : s.testBit y = true) : clr s y < s := by
  unfold clr
  rw [if_pos h]
  have := Nat.ge_two_pow_of_testBit h
  have := Nat.two_pow_pos y
  omega
theorem clr_le {s y : Nat} : clr s y ≤ s := by
  unfold clr
  split
  · exact Nat.sub_le _ _
  · exact Nat.le_refl _
theorem bS_clr {s y a : Nat} (hs : s < 64) (hy : y < 6) : bS (clr s y) a ↔ bS s a ∧ a ≠ y := by
  unfold bS
  constructor
  · rintro ⟨h1, h2⟩
    rw [clr_bit s hs y hy a h1, Bool.and_eq_true] at h2
    exact ⟨⟨h1, h2.1⟩, of_decide_eq_true h2.2⟩
  · rintro ⟨⟨h1, h2⟩, h3⟩
    refine ⟨h1, ?_⟩
    rw [clr_bit s hs y hy a h1, h2, decide_eq_true h3]
    rfl
def eE (c : Ct) (v : Int32) (p q : Nat) : Prop := c 3 p = c 3 q ∧ v ≤ c 4 (hI p q)
theorem eE_sy {c : Ct} {v : Int32} : ∀ a b, eE c v a b → eE c v b a := fun a b h => ⟨h.1.symm, by rw [hI_comm]; exact h.2⟩
/-- a table's entry holds the greatest matching -/
def tbM (c : Ct) (v : Int32) (f : Nat → Int32) (s : Nat) : Prop := ∃ m, m ≤ s ∧ f s = nI m ∧ isM (eE c v) (bS s) m
theorem isM_0 {c : Ct} {v : Int32} : isM (eE c v) (bS 0) 0 := fun k => by
  cases k with
  | zero => exact ⟨fun _ => Nat.le_refl 0, fun _ => trivial⟩
  | succ k =>
    refine ⟨fun ⟨p, q, h1, _⟩ => ?_, fun z => absurd z (by omega)⟩
    have := h1.2
    rw [Nat.zero_testBit] at this
    cases this
theorem bS_cg {E : Nat → Nat → Prop} {S T : Nat → Prop} {m : Nat} (h : ∀ a, S a ↔ T a) (hm : isM E S m) : isM E T m := by
  have : S = T := funext fun a => propext (h a)
  rw [← this]; exact hm
theorem or_add : ∀ l, l < 6 → ∀ o, o < 64 → o < 2 ^ l → o ||| 2 ^ l = 2 ^ l + o := by decide +kernel
theorem or_bits : ∀ l, l < 6 → ∀ o, o < 64 → o < 2 ^ l → (2 ^ l + o).testBit l = true ∧ clr (2 ^ l + o) l = o ∧ 2 ^ l + o < 64 := by decide +kernel
theorem lo_bits {o l a : Nat} (ho : o < 2 ^ l) (ha : o.testBit a = true) : a < l := by
  refine Nat.not_le.mp fun z => ?_
  have := Nat.testBit_lt_two_pow (Nat.lt_of_lt_of_le ho (Nat.pow_le_pow_right (by decide) z))
  rw [ha] at this; cases this
theorem sh6 : ∀ l, l < 7 → (1 : Int32) <<< (nI l &&& 31) = nI (2 ^ l) := by decide +kernel
theorem p2l {l n : Nat} (h : l ≤ n) : 2 ^ l ≤ 2 ^ n := Nat.pow_le_pow_right (by decide) h
theorem x_mostTwosWith {s : St} {c : Ct} {l o : Nat} {v : Int32} {K : Int32 → St → Prop} (cvs : cv s 11 = c) (hl : l < 6) (ho : o < 2 ^ l) (j3 : ∀ a, a < 2 ^ l + o → tbM c v (s 9) a) (h : ∀ m, m < 2 ^ l + o → isM (eE c v) (bS (2 ^ l + o)) m → K (nI m) s) : w_X3_mostTwosWith (nI l) (nI o) v s K := by
  have p := p2l (show l ≤ 5 by omega)
  have p0 := Nat.two_pow_pos l
  obtain ⟨b1, b2, b3⟩ := or_bits l (by omega) o (by omega) ho
  unfold w_X3_mostTwosWith
  obtain ⟨m0, q1, q2, q3⟩ := j3 o (by omega)
  refine s_at (by omega) (by decide) ?_
  rw [q2]
  have hO : ∀ a, bS o a ↔ bS (2 ^ l + o) a ∧ a ≠ l := fun a => by
    have := bS_clr (a := a) b3 (show l < 6 by omega)
    rw [b2] at this
    exact this
  refine lo_rel (fun i y (m : Nat) => w_X3_mostTwosWith_L13 (nI l) (nI o) v K i (nI m) (nI y) s) (fun y m => m < 2 ^ l + o ∧ acM (eE c v) (bS o) l y m) m0 (Nat.zero_le l) ⟨by omega, acM_0 q3 fun y _ => Nat.zero_le y⟩ (fun m hA i => ?_) (fun i y m _ hy hA hk2 => ?_)
  · rw [w_X3_mostTwosWith_L13, w_X3_mostTwosWith_L13q]
    exact y1 (nI_le (Nat.le_refl l) (by omega)) (h m hA.1 (acM_end eE_sy hA.2 (S := bS (2 ^ l + o)) ⟨by omega, b1⟩ hO fun y hy => lo_bits ho hy.2))
  · rw [w_X3_mostTwosWith_L13, w_X3_mostTwosWith_L13q]
    refine n1 (nI_ge hy (by omega)) (x_townOf (by omega) (x_townOf (by omega) ?_))
    rw [cvs]
    have skip : ¬ (bS o y ∧ eE c v l y) → w_X3_mostTwosWith_b99 (nI l) (nI o) v (fun v4 v5 st => w_X3_mostTwosWith_L13 (nI l) (nI o) v K i v4 v5 st) K (nI m) (nI y) s := fun z => by
      rw [w_X3_mostTwosWith_b99, nI_inc]
      exact hk2 m ⟨hA.1, acM_skip hA.2 z⟩
    have b44 : ∀ t : Int32, (t = 0 → ¬ c 3 y = c 3 l) → (¬ t = 0 → c 3 y = c 3 l) → w_X3_mostTwosWith_b44 (nI l) (nI o) v (fun v4 v5 st => w_X3_mostTwosWith_L13 (nI l) (nI o) v K i v4 v5 st) K (nI m) (nI y) t s := fun t t0 t1 => by
      rw [w_X3_mostTwosWith_b44]
      refine s_bitN (by omega) (by omega) ?_
      by_cases eb : o.testBit y = true
      · rw [if_pos eb]
        refine y2 rfl ⟨fun z => skip fun w => t0 z w.2.1.symm, fun z => x_hateOf (by omega) (by omega) ?_⟩
        rw [cvs]
        by_cases eh : c 4 (hI y l) < v
        · refine y1 eh (skip fun w => ?_)
          have := w.2.2
          rw [hI_comm] at this
          exact i_nlt.mpr this eh
        · refine n1 eh ?_
          rw [clr_I o (by omega) y (by omega)]
          have cl := clr_lt eb
          obtain ⟨m', r1, r2, r3⟩ := j3 (clr o y) (by omega)
          refine s_at (by omega) (by decide) ?_
          rw [r2]
          have ee : eE c v l y := ⟨(t1 z).symm, by rw [hI_comm]; exact i_nlt.mp eh⟩
          have nx := acM_take hA.2 (⟨by omega, eb⟩ : bS o y) ee (bS_cg (fun a => bS_clr (by omega) (by omega)) r3)
          rw [w_X3_mostTwosWith_b99, nI_inc]
          have e1 : (1 : Int32) + nI m' = nI (1 + m') := nI_add 1 m'
          rw [e1]
          have e2 : (if nI m < nI (1 + m') then nI (1 + m') else nI m) = nI (if m < 1 + m' then 1 + m' else m) := by
            by_cases lt : m < 1 + m'
            · rw [if_pos ((nJ_lt (by omega) (by omega)).mpr lt), if_pos lt]
            · rw [if_neg (fun q => lt ((nJ_lt (by omega) (by omega)).mp q)), if_neg lt]
          rw [e2]
          refine hk2 _ ⟨?_, nx⟩
          have hm := hA.1
          split <;> omega
      · rw [if_neg eb]
        exact n2 (by decide) (skip fun w => eb w.1.2)
    exact ⟨fun z => b44 0 (fun _ => z) (fun w => absurd rfl w), fun z => b44 1 (fun w => absurd w (by decide)) (fun _ => z)⟩
theorem x_mostTwos {st : St} {n : Nat} {v : Int32} {K : Int32 → St → Prop} (hn : n ≤ 6) (h7 : st 11 7 = nI n) (h9 : st 9 0 = 0) (h : ∀ m s, isM (eE (cv st 11) v) (bS (2 ^ n - 1)) m → (∀ j, j ≠ 9 → s j = st j) → s 9 0 = 0 → K (nI m) s) : w_X3_mostTwos v st K := by
  unfold w_X3_mostTwos
  refine lo_rel (fun k l (s : St) => w_X3_mostTwos_L2 v K k (nI l) s) (fun l s => (∀ j, j ≠ 9 → s j = st j) ∧ s 9 0 = 0 ∧ ∀ a, a < 2 ^ l → tbM (cv st 11) v (s 9) a) st (Nat.zero_le n) ⟨fun _ _ => rfl, h9, fun a ha => by
    rw [Nat.pow_zero] at ha
    have : a = 0 := by omega
    subst this
    exact ⟨0, Nat.le_refl 0, h9, isM_0⟩⟩ (fun s hI k => ?_) (fun k l s _ hl hI hw => ?_)
  · obtain ⟨i1, i2, i3⟩ := hI
    rw [w_X3_mostTwos_L2, w_X3_mostTwos_L2q]
    unfold w_X1_keeperCount
    rw [i1 11 (by decide), h7]
    refine y1 (nI_le (Nat.le_refl n) (by omega)) ?_
    rw [w_X3_mostTwos_b53]
    unfold w_X1_keeperCount
    rw [i1 11 (by decide), h7]
    show w_X8_at 9 64 (((1 : Int32) <<< (nI n &&& 31)) - 1) s (fun r68 st68 => K r68 st68)
    have p := p2l hn
    have p0 := Nat.two_pow_pos n
    rw [sh6 n (by omega), show nI (2 ^ n) - 1 = nI (2 ^ n - 1) from nI_sub' (b := 1) p0]
    obtain ⟨m, m1, m2, m3⟩ := i3 (2 ^ n - 1) (by omega)
    refine s_at (by omega) (by decide) ?_
    rw [m2]
    exact h m s m3 i1 i2
  · obtain ⟨i1, i2, i3⟩ := hI
    rw [w_X3_mostTwos_L2, w_X3_mostTwos_L2q]
    unfold w_X1_keeperCount
    rw [i1 11 (by decide), h7]
    refine n1 (nI_ge hl (by omega)) ?_
    have p := p2l (show l ≤ 5 by omega)
    have p0 := Nat.two_pow_pos l
    refine lo_rel (fun j o (s : St) => w_X3_mostTwos_L15 v (fun v2 st => w_X3_mostTwos_L2 v K k v2 st) K j (nI l) (nI o) s) (fun o s => (∀ j, j ≠ 9 → s j = st j) ∧ s 9 0 = 0 ∧ ∀ a, a < 2 ^ l + o → tbM (cv st 11) v (s 9) a) s (Nat.zero_le (2 ^ l)) ⟨i1, i2, i3⟩ (fun s hJ j => ?_) (fun j o s _ ho hJ hk => ?_)
    · rw [w_X3_mostTwos_L15, w_X3_mostTwos_L15q, sh6 l (by omega)]
      refine y1 (nI_le (Nat.le_refl _) (by omega)) ?_
      rw [w_X3_mostTwos_b47, nI_inc]
      exact hw s ⟨hJ.1, hJ.2.1, fun a ha => hJ.2.2 a (by rw [Nat.pow_succ] at ha; omega)⟩
    · obtain ⟨j1, j2, j3⟩ := hJ
      obtain ⟨b1, b2, b3⟩ := or_bits l (by omega) o (by omega) ho
      rw [w_X3_mostTwos_L15, w_X3_mostTwos_L15q, sh6 l (by omega)]
      refine n1 (nI_ge ho (by omega)) ?_
      refine x_mostTwosWith (c := cv st 11) (cv_eq fun a h1 h2 => j1 a (by omega)) (by omega) ho j3 fun m m1 mM => ?_
      have eor : nI o ||| nI (2 ^ l) = nI (2 ^ l + o) := by
        have e := or_bit o (by omega) l (by omega)
        rw [show lbit l = nI (2 ^ l) from sh6 l (by omega)] at e
        rw [e, or_add l (by omega) o (by omega) ho]
      rw [eor]
      refine s_put b3 (by decide) ?_
      rw [nI_inc]
      refine hk _ ⟨fun j hj => by rw [u2_off hj]; exact j1 j hj, by rw [u2_ne (Or.inr (by omega))]; exact j2, fun a ha => ?_⟩
      by_cases e : a = 2 ^ l + o
      · subst e
        exact ⟨m, by omega, u2_same, mM⟩
      · obtain ⟨m', r1, r2, r3⟩ := j3 a (by omega)
        exact ⟨m', r1, by rw [u2_ne (Or.inr e)]; exact r2, r3⟩
/-! the check's -/
theorem low_bit : ∀ s, s < 64 → 0 < s → ∃ p, p < 6 ∧ s.testBit p = true ∧ ∀ a, a < p → s.testBit a = false := by decide +kernel
theorem t_findTwos {n nL S : Nat} {v : Int32} {mt : St} {c : Ct} {K : St → Prop} (hm : RM n nL mt c) (g : gC n nL c) (hS : S < 2 ^ n) (hS0 : 0 < S) (j3 : ∀ a, a < S → tbM c v (mt 15) a) (hk : ∀ m, m ≤ S → isM (eE c v) (bS S) m → K (u2 mt 15 S (nI m))) : w_X9_findTwos (nI S) v mt K := by
  have hn := hm.1.1
  have h8 := hm.2.2.1
  have p := p2l hn
  obtain ⟨x, x1, x2, x3⟩ := low_bit S (by omega) hS0
  have xn : x < n := lo_bits hS x2
  unfold w_X9_findTwos
  refine lo_rel (fun m i (_ : Unit) => w_X9_findTwos_L2 (nI S) v K m (nI i) mt) (fun i _ => True) () (Nat.zero_le x) trivial (fun _ _ m => ?_) (fun m i _ _ hi _ hw => ?_)
  · rw [w_X9_findTwos_L2, w_X9_findTwos_L2q]
    refine t_hasN (by omega) (by omega) ?_
    rw [if_pos x2]
    refine n2 (by decide) ?_
    rw [w_X9_findTwos_b16, clr_I S (by omega) x x1]
    have cl := clr_lt x2
    obtain ⟨m0, q1, q2, q3⟩ := j3 (clr S x) cl
    refine ⟨vp_in_nI (by omega) (by decide), ?_⟩
    rw [clI (show clr S x < 64 by omega) (by decide), q2, nI_inc]
    have hO : ∀ a, bS (clr S x) a ↔ bS S a ∧ a ≠ x := fun a => bS_clr (by omega) x1
    have up : ∀ y, bS (clr S x) y → x + 1 ≤ y := fun y hy => by
      have := (hO y).mp hy
      refine Nat.not_lt.mp fun z => ?_
      have := x3 y (by have := this.2; omega)
      rw [((hO y).mp hy).1.2] at this
      cases this
    refine lo_rel (fun k y (m : Nat) => w_X9_findTwos_L39 (nI S) v K k (nI x) (nI (clr S x)) (nI m) (nI y) mt) (fun y m => m ≤ S ∧ acM (eE c v) (bS (clr S x)) x y m) m0 (show x + 1 ≤ n by omega) ⟨by omega, acM_0 q3 up⟩ (fun m hA k => ?_) (fun k y m hy1 hy hA hk2 => ?_)
    · rw [w_X9_findTwos_L39, w_X9_findTwos_L39q, h8]
      refine y1 (nI_le (Nat.le_refl n) (by omega)) ?_
      rw [w_X9_findTwos_b127, clI (show S < 64 by omega) (by decide)]
      exact ⟨vp_in_nI (by omega) (by decide), hk m hA.1 (acM_end eE_sy hA.2 (S := bS S) ⟨x1, x2⟩ hO fun y hy => lo_bits hS ((hO y).mp hy).1.2)⟩
    · rw [w_X9_findTwos_L39, w_X9_findTwos_L39q, h8]
      refine n1 (nI_ge hy (by omega)) (t_hasN (by omega) (by omega) ?_)
      have skip : ¬ (bS (clr S x) y ∧ eE c v x y) → w_X9_findTwos_b121 (nI S) v (fun v3 v4 v5 v6 st => w_X9_findTwos_L39 (nI S) v K k v3 v4 v5 v6 st) K (nI x) (nI (clr S x)) (nI m) (nI y) mt := fun z => by
        rw [w_X9_findTwos_b121, nI_inc]
        exact hk2 m ⟨hA.1, acM_skip hA.2 z⟩
      by_cases eb : S.testBit y = true
      · rw [if_pos eb]
        have vx : vp_in (nI x) 6 := vp_in_nI (by omega) (by decide)
        have vy : vp_in (nI y) 6 := vp_in_nI (by omega) (by decide)
        have oy : bS (clr S x) y := (hO y).mpr ⟨⟨by omega, eb⟩, by omega⟩
        refine n1 (by decide) ⟨vx, vy, ?_⟩
        rw [clI (show x < 6 by omega) (by decide), clI (show y < 6 by omega) (by decide), hm.town g xn, hm.town g hy]
        by_cases et : c 3 x = c 3 y
        · refine y2 et (t_hateOf (by omega) (by omega) ?_)
          rw [hm.hate xn hy (by omega)]
          by_cases eh : v ≤ c 4 (hI x y)
          · refine y1 eh ?_
            rw [clr_I (clr S x) (by omega) y (by omega)]
            have cl2 := clr_lt oy.2
            obtain ⟨m', r1, r2, r3⟩ := j3 (clr (clr S x) y) (by omega)
            refine ⟨vp_in_nI (by omega) (by decide), ?_⟩
            rw [clI (show clr (clr S x) y < 64 by omega) (by decide), r2]
            have e1 : (1 : Int32) + nI m' = nI (1 + m') := nI_add 1 m'
            rw [e1]
            have nx := acM_take hA.2 oy ⟨et, eh⟩ (bS_cg (fun a => bS_clr (by omega) (by omega)) r3)
            by_cases lt : m < 1 + m'
            · rw [if_pos lt] at nx
              refine n1 (fun q => absurd ((nJ_le (by omega) (by omega)).mp q) (by omega)) ?_
              rw [w_X9_findTwos_b119, w_X9_findTwos_b121, nI_inc]
              exact hk2 _ ⟨by omega, nx⟩
            · rw [if_neg lt] at nx
              refine y1 (nI_le (by omega) (by omega)) ?_
              rw [w_X9_findTwos_b119, w_X9_findTwos_b121, nI_inc]
              exact hk2 _ ⟨hA.1, nx⟩
          · exact n1 eh (skip fun w => eh w.2.2)
        · exact n2 et (skip fun w => et w.2.1)
      · rw [if_neg eb]
        exact y1 rfl (skip fun w => eb ((hO y).mp w.1).1.2)
  · rw [w_X9_findTwos_L2, w_X9_findTwos_L2q]
    refine t_hasN (by omega) (by omega) ?_
    rw [if_neg (by rw [x3 i hi]; decide)]
    refine y2 rfl ?_
    rw [nI_inc]
    exact hw () trivial
theorem sim_pairs {st mt : St} (h : R st mt) (x1 : Int32) : w_X8_pairs x1 st (fun r st' => w_X9_pairs x1 mt (fun r' mt' => r = r' ∧ R st' mt')) := by
  obtain ⟨n, nL, hm, g, hn, hL, h7, h8, k8, k9⟩ := h.ctx
  have p := p2l hn
  have p0 := Nat.two_pow_pos n
  unfold w_X8_pairs
  refine s_range ?_
  by_cases e : rangeF x1 0 99 = 0
  · rw [e]
    refine y1 rfl (x_mostTwos hn h7 h.2.2.1 fun m s mM i1 i2 => ?_)
    unfold w_X9_pairs
    refine t_bound ?_
    rw [e]
    refine y1 rfl ⟨vp_in_nI (n := 0) (N := 64) (by decide) (by decide), ?_⟩
    have hx : xf st s := ⟨fun j _ h2 => i1 j h2, by rw [i2, h.2.2.1], fun z => by
      have : cv s 99 = cv st 99 := cv_eq fun a h1 h2 => i1 a (by omega)
      rw [this]; exact z⟩
    show ∃ k, w_X9_pairs_L27 x1 _ k (nI 1) (u2 mt 15 0 0)
    refine lo_rel (fun k S (t : St) => w_X9_pairs_L27 x1 _ k (nI S) t) (fun S t => (∀ j, j ≠ 15 → t j = mt j) ∧ ∀ a, a < S → tbM (cv st 11) x1 (t 15) a) (u2 mt 15 0 0) (show 1 ≤ 2 ^ n by omega) ⟨fun j hj => u2_off hj, fun a ha => by
      have : a = 0 := by omega
      subst this
      exact ⟨0, Nat.le_refl 0, u2_same, isM_0⟩⟩ (fun t hI k => ?_) (fun k S t hS1 hS hI hk => ?_)
    · obtain ⟨q1, q2⟩ := hI
      rw [w_X9_pairs_L27, w_X9_pairs_L27q, q1 0 (by decide), k8, sh6 n (by omega)]
      refine y1 (nI_le (Nat.le_refl _) (by omega)) ?_
      rw [w_X9_pairs_b49, q1 0 (by decide), k8, sh6 n (by omega), show nI (2 ^ n) - 1 = nI (2 ^ n - 1) from nI_sub' (b := 1) p0, clI (show 2 ^ n - 1 < 64 by omega) (by decide)]
      obtain ⟨m', r1, r2, r3⟩ := q2 (2 ^ n - 1) (by omega)
      refine ⟨vp_in_nI (by omega) (by decide), ?_⟩
      rw [r2, isM_1 mM r3]
      refine ⟨rfl, R_fr h hx ⟨fun i hi => ?_, by rw [q1 0 (by decide)], q1 1 (by decide), q1 9 (by decide), q1 16 (by decide), by rw [q1 0 (by decide)], by rw [q1 0 (by decide)], by rw [q1 0 (by decide)], by rw [q1 0 (by decide)], fun a _ => by rw [q1 13 (by decide)]⟩⟩
      unfold lvM
      rw [q1 2 (by decide), q1 3 (by decide), q1 4 (by decide), q1 5 (by decide), q1 6 (by decide), q1 7 (by decide), q1 8 (by decide), q1 0 (by decide)]
    · obtain ⟨q1, q2⟩ := hI
      rw [w_X9_pairs_L27, w_X9_pairs_L27q, q1 0 (by decide), k8, sh6 n (by omega)]
      refine n1 (nI_ge hS (by omega)) ?_
      have rm : RM n nL t (cv st 11) := RM_off hm (fun j h1 h2 => q1 j (by omega)) (fun i _ _ => by rw [q1 0 (by decide)])
      refine t_findTwos rm g hS (by omega) q2 fun m' r1 r2 => ?_
      rw [nI_inc]
      refine hk _ ⟨fun j hj => by rw [u2_off hj]; exact q1 j hj, fun a ha => ?_⟩
      by_cases ea : a = S
      · subst ea
        exact ⟨m', r1, u2_same, r2⟩
      · obtain ⟨m2, s1, s2, s3⟩ := q2 a (by omega)
        exact ⟨m2, s1, by rw [u2_ne (Or.inr ea)]; exact s2, s3⟩
  · refine n1 e (s_refused (rg_ok e) ?_)
    unfold w_X9_pairs
    exact t_bound (n1 e (t_no (rg_ok e) ⟨rfl, R_ref h (rg_ok e)⟩))
end
section
/-! pure part: what changes the country -/
theorem Rref.tr {st mt st' mt' : St} (h : Rref st mt) (e1 : st' 1 = st 1) (e2 : mt' 1 = mt 1) : Rref st' mt' := fun i hi => by rw [e1, e2]; exact h i hi
theorem Rtell.tr {st mt st' mt' : St} (h : Rtell st mt) (e1 : st' 4 = st 4) (e2 : st' 5 = st 5) (e3 : mt' 0 16 = mt 0 16) (e4 : mt' 9 = mt 9) : Rtell st' mt' := by
  obtain ⟨s, h1, h2, h3, h4⟩ := h
  exact ⟨s, h1, by rw [e1]; exact h2, by rw [e3]; exact h3, fun i hi => by rw [e2, e4]; exact h4 i hi⟩
theorem Rrow.tr {st mt st' mt' : St} (h : Rrow st mt) (e1 : st' 6 = st 6) (e2 : st' 7 = st 7) (e3 : mt' 0 29 = mt 0 29) (e4 : mt' 16 = mt 16) : Rrow st' mt' := by
  obtain ⟨s, h1, h2, h3, h4⟩ := h
  exact ⟨s, h1, by rw [e1]; exact h2, by rw [e3]; exact h3, fun i hi => by rw [e2, e4]; exact h4 i hi⟩
theorem Rkept.tr {st mt st' mt' : St} (h : Rkept st mt) (e1 : st' 0 3 = st 0 3) (e2 : cv st' 27 = cv st 27) (e3 : mt' 0 20 = mt 0 20) (e4 : ∀ a, a < 75 → mt' 13 a = mt 13 a) : Rkept st' mt' := by
  rcases h with ⟨p, q⟩ | ⟨p, q, z⟩
  · exact Or.inl ⟨by rw [e1]; exact p, by rw [e3]; exact q⟩
  · exact Or.inr ⟨by rw [e1]; exact p, by rw [e3]; exact q, by rw [e2]; exact z.cg e4⟩
theorem Rpast.tr {st mt st' mt' : St} (h : Rpast st mt) (e1 : st' 2 = st 2) (e2 : ∀ a b i, cv st' (pI a b i) = cv st (pI a b i)) (e3 : mt' 0 23 = mt 0 23) (e4 : ∀ a, 225 ≤ a → mt' 13 a = mt 13 a) : Rpast st' mt' := by
  obtain ⟨a, b, m1, m2, m3, m4, m5, m6⟩ := h
  exact ⟨a, b, m1, m2, by rw [e1]; exact m3, by rw [e1]; exact m4, by rw [e3]; exact m5, fun i hi => by rw [e2]; exact (m6 i hi).cg fun j _ => e4 _ (by omega)⟩
/-- now's country changes, nothing else -/
theorem R_set {st mt st' mt' : St} {n nL : Nat} (h : R st mt) (hx : ∀ j, (j < 11 ∨ 19 ≤ j) → st' j = st j) (rm : RM n nL mt' (cv st' 11)) (g : gC n nL (cv st' 11)) (m0 : ∀ a, a ≠ 8 → a ≠ 9 → a ≠ 10 → a ≠ 21 → a ≠ 22 → a ≠ 25 → a ≠ 26 → mt' 0 a = mt 0 a) (mj : ∀ j, j ≠ 0 → (j < 2 ∨ 8 < j) → j ≠ 14 → mt' j = mt j) : R st' mt' := by
  obtain ⟨h1, h2, h3, h4, h5, h6, h7, h8⟩ := h
  have o0 : ∀ a, 11 ≤ a → a < 21 ∨ 26 < a ∨ a = 23 → mt' 0 a = mt 0 a := fun a p q => m0 a (by omega) (by omega) (by omega) (by omega) (by omega) (by omega) (by omega)
  have oc : ∀ k, 19 ≤ k → cv st' k = cv st k := fun k hk => cv_eq fun j _ _ => hx j (by omega)
  refine ⟨Rnow_of rm ((o0 11 (by decide) (by decide)).trans h1.2) g, fun k hk => ?_, by rw [hx 9 (by decide)]; exact h3, h4.tr (hx 1 (by decide)) (mj 1 (by decide) (by decide) (by decide)), h5.tr (hx 4 (by decide)) (hx 5 (by decide)) (o0 16 (by decide) (by decide)) (mj 9 (by decide) (by decide) (by decide)), h6.tr (hx 6 (by decide)) (hx 7 (by decide)) (o0 29 (by decide) (by decide)) (mj 16 (by decide) (by decide) (by decide)),
    h7.tr (by rw [hx 0 (by decide)]) (oc 27 (by decide)) (o0 20 (by decide) (by decide)) (fun a _ => by rw [mj 13 (by decide) (by decide) (by decide)]), h8.tr (hx 2 (by decide)) (fun a b i => oc _ (by have := @pI_lt a b i; omega)) (o0 23 (by decide) (by decide)) (fun a _ => by rw [mj 13 (by decide) (by decide) (by decide)])⟩
  obtain ⟨i, hi, rfl⟩ := hk
  by_cases e : i = 0
  · subst e; exact g.1
  · rw [oc _ (by omega)]; exact h2 _ ⟨i, hi, rfl⟩
theorem R_forget {st mt : St} (h : R st mt) : R (u2 st 2 2 0) (u2 mt 0 23 0) := by
  obtain ⟨h1, h2, h3, h4, h5, h6, h7, ⟨a, b, m1, m2, m3, m4, m5, m6⟩⟩ := h
  have oc : ∀ k, 10 ≤ k → cv (u2 st 2 2 0) k = cv st k := fun k hk => cv_u2 (by omega)
  refine ⟨⟨by rw [oc 11 (by decide)]; exact h1.1.cg (lv_u2 (Or.inr ⟨rfl, by decide, by decide, by decide⟩)), by rw [u2_0 (by decide)]; exact h1.2⟩, fun k hk => ?_, by rw [u2_off (by decide)]; exact h3, h4.tr (u2_off (by decide)) (u2_off (by decide)), h5.tr (u2_off (by decide)) (u2_off (by decide)) (u2_0 (by decide)) (u2_off (by decide)), h6.tr (u2_off (by decide)) (u2_off (by decide)) (u2_0 (by decide)) (u2_off (by decide)),
    h7.tr (by rw [u2_off (by decide)]) (oc 27 (by decide)) (u2_0 (by decide)) (fun a _ => by rw [u2_off (by decide)]), ⟨a, 0, m1, by decide, by rw [u2_ne (Or.inr (by decide))]; exact m3, u2_same, u2_same, fun i hi => absurd hi (Nat.not_lt_zero i)⟩⟩
  obtain ⟨i, hi, rfl⟩ := hk
  rw [oc _ (by omega)]; exact h2 _ ⟨i, hi, rfl⟩
theorem gC_cg {n nL : Nat} {c c' : Ct} (g : gC n nL c) (hz : zC c') (h3 : ∀ p, p < n → ∃ t, t < 4 ∧ c' 3 p = nI t) (h5 : c' 5 = c 5) (h6 : c' 6 = c 6) (hw : ∃ w, w ≤ 999 ∧ c' 0 10 = nI w) : gC n nL c' := ⟨hz, h3, by rw [h6]; exact g.2.2.1, by rw [h5]; exact g.2.2.2.1, hw⟩
theorem gC_hate {n nL p q : Nat} {c : Ct} {v : Int32} (g : gC n nL c) (hp : p < 6) (hq : q < 6) : gC n nL (u2 c 4 (hI p q) v) :=
  gC_cg g (zC_u2 g.1 (by have := hI_lt hp hq; rw [len4]; omega) (fun z => absurd z (by decide))) (by rw [u2_off (by decide)]; exact g.2.1) (u2_off (by decide)) (u2_off (by decide)) (by rw [u2_off (by decide)]; exact g.2.2.2.2)
theorem gC_town {n nL p t : Nat} {c : Ct} (g : gC n nL c) (hp : p < 6) (ht : t < 4) : gC n nL (u2 c 3 p (nI t)) :=
  gC_cg g (zC_u2 g.1 (show p < lenC 3 from hp) (fun z => absurd z (by decide))) (fun k hk => by
    by_cases e : k = p
    · subst e; exact ⟨t, ht, u2_same⟩
    · rw [u2_ne (Or.inr e)]; exact g.2.1 k hk) (u2_off (by decide)) (u2_off (by decide)) (by rw [u2_off (by decide)]; exact g.2.2.2.2)
theorem gC_bec {n nL : Nat} {c : Ct} (g : gC n nL c) : gC n nL (bec c) := gC_cg g (zC_bec g.1) g.2.1 rfl rfl g.2.2.2.2
theorem RB.bec {f : Nat → Int32} {c : Ct} (h : RB f c) : RB f (bec c) := by
  obtain ⟨n, nL, h1, h2⟩ := h
  exact ⟨n, nL, RM_bec h1, gC_bec h2⟩
/-! what is kept before a change, and taken back -/
def rmX (st : St) (a b : Nat) : St := u2 (u2 (sv st (35 + 8 * a) (bec (cv st 11))) 2 1 (nI ((a + 1) % 8))) 2 2 (nI (min 8 (b + 1)))
theorem m8 : ∀ a, a < 8 → (nI a + 1) - (nI a + 1) / 8 * 8 = nI ((a + 1) % 8) := by decide +kernel
theorem m8b : ∀ a, a < 8 → (nI a + 8 - 1) - (nI a + 8 - 1) / 8 * 8 = nI ((a + 7) % 8) := by decide +kernel
theorem n8 : ∀ b, b < 9 → (if nI b + 1 < 8 then nI b + 1 else 8) = nI (min 8 (b + 1)) := by decide +kernel
theorem s_country {a : Nat} {st : St} {K : Option Nat → St → Prop} (ha : a < 8) (h : K (some (35 + 8 * a)) st) : w_X5_country (nI a) st K := by
  unfold w_X5_country
  refine n1 (n_lt0 (by omega)) (n1 (nI_ge ha (by decide)) ⟨vp_in_nI ha (by decide), ?_⟩)
  rw [clI ha (by decide)]
  exact h
theorem s_remember {st : St} {a b : Nat} {K : St → Prop} (ha : a < 8) (hb : b ≤ 8) (e1 : st 2 1 = nI a) (e2 : st 2 2 = nI b) (hz : ∀ k, isC k → zC (cv st k)) (h : K (rmX st a b)) : w_X5_remember 11 st K := by
  unfold w_X5_remember
  rw [e1]
  refine s_country ha ⟨fun z => (by cases z), fun q hq => ?_⟩
  cases hq
  refine s_become (by omega) (hz _ (isC_past ha)) (hz 11 isC_11) ?_
  have o : ∀ c, sv st (35 + 8 * a) c 2 = st 2 := fun c => sv_off (by omega)
  have q1 : sv st (35 + 8 * a) (bec (cv st 11)) 2 1 = nI a := by rw [o]; exact e1
  rw [q1, m8 a ha]
  have q2 : u2 (sv st (35 + 8 * a) (bec (cv st 11))) 2 1 (nI ((a + 1) % 8)) 2 2 = nI b := by
    rw [u2_ne (Or.inr (by decide)), o]; exact e2
  rw [q2, n8 b (by omega)]
  exact h
theorem rm_11 {st : St} {a b : Nat} (ha : a < 8) : cv (rmX st a b) 11 = cv st 11 := by
  unfold rmX
  rw [cv_u2 (by decide), cv_u2 (by decide), cv_off (by omega)]
/-- the check's keeping: which blocks hold what -/
def KB (mt s : St) (b : Nat) : Prop := (∀ j, j ≠ 0 → j ≠ 13 → s j = mt j) ∧ (∀ a, a ≠ 21 → a ≠ 22 → a ≠ 23 → s 0 a = mt 0 a) ∧ s 0 23 = nI (min 8 (b + 1)) ∧ (∀ a, a < 225 → s 13 a = mt 13 a) ∧
  (∀ i j, i + (if b = 8 then 1 else 0) < b → j < 75 → s 13 (225 + 75 * i + j) = mt 13 (225 + 75 * (i + (if b = 8 then 1 else 0)) + j)) ∧ ∀ j, j < 75 → s 13 (225 + 75 * (min 8 (b + 1) - 1) + j) = lvM mt j
theorem n3b : ∀ b, b < 8 → 3 + nI b = nI (3 + b) := by decide +kernel
theorem n8m : nI 8 - 1 = nI 7 := by decide
theorem t_keepsBack {b : Nat} {mt : St} {K : St → Prop} (hb : b ≤ 8) (e : mt 0 23 = nI b) (hk : ∀ s, KB mt s b → K s) : w_X9_keepsBack mt K := by
  unfold w_X9_keepsBack
  rw [e]
  by_cases e8 : b = 8
  · subst e8
    refine y2 rfl ?_
    show ∃ m, w_X9_keepsBack_L13 K m (nI 225) mt
    refine lo_rel (fun m k (s : St) => w_X9_keepsBack_L13 K m (nI k) s) (fun k s => (∀ j, j ≠ 13 → s j = mt j) ∧ ∀ a, s 13 a = if 225 ≤ a ∧ a < k then mt 13 (a + 75) else mt 13 a) mt (show 225 ≤ 750 by decide) ⟨fun _ _ => rfl, fun a => (if_neg (by omega)).symm⟩ (fun s hI m => ?_) (fun m k s h1 h2 hI hw => ?_)
    · obtain ⟨i1, i2⟩ := hI
      rw [w_X9_keepsBack_L13, w_X9_keepsBack_L13q]
      refine y1 (nI_le (Nat.le_refl 750) (by decide)) ?_
      rw [w_X9_keepsBack_b41, w_X9_keepsBack_b51, i1 0 (by decide), e, u2_same]
      have e10 : (3 : Int32) + (nI 8 - 1) = nI 10 := by decide
      rw [e10]
      refine t_saves (w := 10) (by decide) fun s1 a1 a2 a3 => ?_
      have s23 : s1 0 23 = nI 7 := by rw [a2 23 (by decide) (by decide), u2_same]; exact n8m
      rw [s23]
      refine hk _ ⟨fun j p q => ?_, fun a p q r => ?_, ?_, fun a ha => ?_, fun i j hi hj => ?_, fun j hj => ?_⟩
      · rw [u2_off p, a1 j p q, u2_off p]; exact i1 j q
      · rw [u2_0 r, a2 a p q, u2_0 r, i1 0 (by decide)]
      · rw [u2_same]; rfl
      · rw [u2_off (by decide), a3, if_neg (by omega), u2_off (by decide), i2, if_neg (by omega)]
      · rw [if_pos rfl] at hi ⊢
        rw [u2_off (by decide), a3, if_neg (by omega), u2_off (by decide), i2, if_pos (by omega)]
        congr 1; omega
      · rw [u2_off (by decide), a3, if_pos (by omega)]
        have lv : ∀ x, x < 75 → lvM (u2 s 0 23 (nI 8 - 1)) x = lvM mt x := fun x hx => by
          rw [lv_u2 (Or.inr ⟨rfl, by decide, by decide, by decide⟩) x hx]
          unfold lvM
          rw [i1 2 (by decide), i1 3 (by decide), i1 4 (by decide), i1 5 (by decide), i1 6 (by decide), i1 7 (by decide), i1 8 (by decide), i1 0 (by decide)]
        have ej : 225 + 75 * (min 8 (8 + 1) - 1) + j - 75 * 10 = j := by
          rw [show min 8 (8 + 1) = 8 from rfl]
          omega
        rw [ej]
        exact lv _ hj
    · obtain ⟨i1, i2⟩ := hI
      rw [w_X9_keepsBack_L13, w_X9_keepsBack_L13q]
      have e75 : nI k + 75 = nI (k + 75) := nI_add k 75
      rw [e75, clI (show k < 825 by omega) (by decide), clI (show k + 75 < 825 by omega) (by decide), nI_inc]
      refine n1 (nI_ge h2 (by decide)) ⟨vp_in_nI (by omega) (by decide), vp_in_nI (by omega) (by decide), ?_⟩
      refine hw _ ⟨fun j hj => by rw [u2_off hj]; exact i1 j hj, fun a => ?_⟩
      by_cases ea : a = k
      · subst ea
        rw [u2_same, i2, if_neg (by omega), if_pos (by omega)]
      · rw [u2_ne (Or.inr ea), i2]
        by_cases z : 225 ≤ a ∧ a < k
        · rw [if_pos z, if_pos (by omega)]
        · rw [if_neg z, if_neg (by omega)]
  · refine n2 (fun z => e8 (nI_eqI (by omega) (by decide) z)) ?_
    rw [w_X9_keepsBack_b51, e, n3b b (by omega)]
    refine t_saves (w := 3 + b) (by omega) fun s1 a1 a2 a3 => ?_
    have s23 : s1 0 23 = nI b := (a2 23 (by decide) (by decide)).trans e
    rw [s23, nI_inc]
    refine hk _ ⟨fun j p q => ?_, fun a p q r => ?_, ?_, fun a ha => ?_, fun i j hi hj => ?_, fun j hj => ?_⟩
    · rw [u2_off p]; exact a1 j p q
    · rw [u2_0 r]; exact a2 a p q
    · rw [u2_same]; congr 1; omega
    · rw [u2_off (by decide), a3, if_neg (by omega)]
    · rw [if_neg e8] at hi ⊢
      rw [u2_off (by decide), a3, if_neg (by omega)]
      rfl
    · have hm : min 8 (b + 1) = b + 1 := by omega
      rw [u2_off (by decide), a3, hm, if_pos (by omega)]
      congr 1; omega
theorem R_rem {st mt s : St} {a b : Nat} (h : R st mt) (ha : a < 8) (hb : b ≤ 8) (m6 : ∀ i, i < b → RB (fun j => mt 13 (225 + 75 * i + j)) (cv st (pI a b i))) (k : KB mt s b) : R (rmX st a b) s := by
  obtain ⟨k1, k2, k3, k4, k5, k6⟩ := k
  obtain ⟨h1, h2, h3, h4, h5, h6, h7, -⟩ := h
  have oj : ∀ j, j ≠ 2 → j < 35 → rmX st a b j = st j := fun j p q => by
    unfold rmX
    rw [u2_off p, u2_off p, sv_off (by omega)]
  have oc : ∀ k, 10 ≤ k → (k + 8 ≤ 35 + 8 * a ∨ 35 + 8 * a + 8 ≤ k) → cv (rmX st a b) k = cv st k := fun k p q => by
    unfold rmX
    rw [cv_u2 (by omega), cv_u2 (by omega), cv_off (by omega)]
  have oa : cv (rmX st a b) (35 + 8 * a) = bec (cv st 11) := by
    unfold rmX
    rw [cv_u2 (by omega), cv_u2 (by omega), cv_sv (nC_bec nC_cv)]
  have lv : ∀ i, i < 75 → lvM s i = lvM mt i := fun i _ => by
    unfold lvM
    rw [k1 2 (by decide) (by decide), k1 3 (by decide) (by decide), k1 4 (by decide) (by decide), k1 5 (by decide) (by decide), k1 6 (by decide) (by decide), k1 7 (by decide) (by decide), k1 8 (by decide) (by decide), k2 8 (by decide) (by decide) (by decide), k2 9 (by decide) (by decide) (by decide), k2 10 (by decide) (by decide) (by decide)]
  refine ⟨⟨by rw [rm_11 ha]; exact h1.1.cg lv, by rw [k2 11 (by decide) (by decide) (by decide)]; exact h1.2⟩, fun k hk => ?_, by rw [oj 9 (by decide) (by decide)]; exact h3, h4.tr (oj 1 (by decide) (by decide)) (k1 1 (by decide) (by decide)), h5.tr (oj 4 (by decide) (by decide)) (oj 5 (by decide) (by decide)) (k2 16 (by decide) (by decide) (by decide)) (k1 9 (by decide) (by decide)),
    h6.tr (oj 6 (by decide) (by decide)) (oj 7 (by decide) (by decide)) (k2 29 (by decide) (by decide) (by decide)) (k1 16 (by decide) (by decide)), h7.tr (by rw [oj 0 (by decide) (by decide)]) (oc 27 (by decide) (by omega)) (k2 20 (by decide) (by decide) (by decide)) (fun x hx => k4 x (by omega)),
    ⟨(a + 1) % 8, min 8 (b + 1), by omega, by omega, ?_, ?_, k3, fun i hi => ?_⟩⟩
  · obtain ⟨i, hi, rfl⟩ := hk
    by_cases e : 8 * i + 11 = 35 + 8 * a
    · rw [e, oa]; exact zC_bec (h2 11 isC_11)
    · rw [oc _ (by omega) (by omega)]; exact h2 _ ⟨i, hi, rfl⟩
  · unfold rmX
    rw [u2_ne (Or.inr (by decide)), u2_same]
  · unfold rmX
    rw [u2_same]
  · by_cases ei : i = min 8 (b + 1) - 1
    · have ep : pI ((a + 1) % 8) (min 8 (b + 1)) i = 35 + 8 * a := by unfold pI; omega
      rw [ep, oa, ei]
      exact (h1.1.cg k6).bec
    · have ep : pI ((a + 1) % 8) (min 8 (b + 1)) i = pI a b (i + (if b = 8 then 1 else 0)) := by
        unfold pI
        split <;> omega
      have lt : i + (if b = 8 then 1 else 0) < b := by split <;> omega
      have ne : pI a b (i + (if b = 8 then 1 else 0)) + 8 ≤ 35 + 8 * a ∨ 35 + 8 * a + 8 ≤ pI a b (i + (if b = 8 then 1 else 0)) := by
        unfold pI
        split at lt <;> split <;> omega
      rw [ep, oc _ (by have := @pI_lt a b (i + (if b = 8 then 1 else 0)); omega) ne]
      exact (m6 _ lt).cg fun j hj => k5 i j lt hj
/-- both keep back what is now -/
theorem rem2 {st mt : St} (h : R st mt) {K : St → Prop} (hk : ∀ a b, a < 8 → b ≤ 8 → (∀ s, KB mt s b → R (rmX st a b) s) → mt 0 23 = nI b → K (rmX st a b)) : w_X5_remember 11 st K := by
  have h' := h
  obtain ⟨h1, h2, h3, h4, h5, h6, h7, ⟨a, b, m1, m2, m3, m4, m5, m6⟩⟩ := h'
  exact s_remember m1 m2 m3 m4 h2 (hk a b m1 m2 (fun s hs => R_rem h m1 m2 m6 hs) m5)
end
section
/-! pure part: hates, goes, seals, weeks, back, image, restore -/
theorem at11 {st : St} {P : St → Prop} (h : P (sv st 11 (cv st 11))) : P st := rd (k := 11) h
theorem sv11_hx {st : St} {c : Ct} : ∀ j, (j < 11 ∨ 19 ≤ j) → sv st 11 c j = st j := fun j hj => sv_off (by omega)
theorem KB.rm {n nL b : Nat} {mt s : St} {c : Ct} (k : KB mt s b) (h : RM n nL mt c) : RM n nL s c := RM_off h (fun j p q => k.1 j (by omega) (by omega)) (fun i p q => k.2.1 i (by omega) (by omega) (by omega))
theorem sim_hates {st mt : St} (h : R st mt) (x1 x2 x3 : Int32) : w_X8_hates x1 x2 x3 st (fun r st' => w_X9_hates x1 x2 x3 mt (fun r' mt' => r = r' ∧ R st' mt')) := by
  obtain ⟨n, nL, hm, g, hn, hL, h7, h8, k8, k9⟩ := h.ctx
  unfold w_X8_hates
  refine s_twoRef h7 (s_range (s_firstOf ?_))
  by_cases e1 : twF n x1 x2 = 0
  · rw [nb0 e1, f1 (by decide)]
    refine n1 (by decide) (s_refused rO1 ?_)
    unfold w_X9_hates
    refine t_areTwo k8 (y2 e1 ?_)
    rw [w_X9_hates_b20]
    exact n1 (by decide) (t_no rO1 ⟨rfl, R_ref h rO1⟩)
  · rw [nb1 e1]
    by_cases e2 : rangeF x3 0 99 = 0
    · rw [rg0 e2]
      obtain ⟨p, q, hp, hq, hpq, rfl, rfl⟩ := twF_1 (by omega) e1
      obtain ⟨v, -, hv, rfl⟩ := rg_nI (a := 0) (b := 99) (by decide) (by decide) e2
      have hv9 := held99 v (by omega)
      refine y1 rfl (rem2 h fun a b ha hb hR e23 => x_hateOf (by omega) (by omega) ?_)
      rw [rm_11 ha]
      refine at11 (P := fun s => w_X1_setHate 11 (nI p) (nI q) (nI v) s _) (s_setHate (by omega) (by omega) ?_)
      rw [rm_11 ha, hv9.1]
      unfold w_X9_hates
      refine t_areTwo k8 (n2 e1 (t_bound ?_))
      rw [e2, w_X9_hates_b20]
      refine y1 rfl (t_keepsBack hb e23 fun s k => t_hateOf (by omega) (by omega) (t_sets (by omega) (by omega) ⟨?_, ?_⟩))
      · exact ((k.rm hm).hate hp hq hpq).symm
      · have c' : cv (sv (rmX st a b) 11 (u2 (cv st 11) 4 (hI p q) (nI v))) 11 = u2 (cv st 11) 4 (hI p q) (nI v) := cv_sv (nC_u2 nC_cv (by decide) _ _)
        exact R_set (hR s k) sv11_hx (by rw [c']; exact RM_sets (k.rm hm) hp hq hpq hv9.2.1 hv9.2.2) (by rw [c']; exact gC_hate g (by omega) (by omega)) (fun a _ _ _ _ _ _ _ => by rw [ef_sets 0 (by decide)]) (fun j p q r => ef_sets j (by omega))
    · rw [f01 e2]
      refine n1 e2 (s_refused (rg_ok e2) ?_)
      unfold w_X9_hates
      refine t_areTwo k8 (n2 e1 (t_bound ?_))
      rw [w_X9_hates_b20]
      exact n1 e2 (t_no (rg_ok e2) ⟨rfl, R_ref h (rg_ok e2)⟩)
theorem sim_goes {st mt : St} (h : R st mt) (x1 x2 : Int32) : w_X8_goes x1 x2 st (fun r st' => w_X9_goes x1 x2 mt (fun r' mt' => r = r' ∧ R st' mt')) := by
  obtain ⟨n, nL, hm, g, hn, hL, h7, h8, k8, k9⟩ := h.ctx
  unfold w_X8_goes
  refine s_keeperRef h7 (s_townRef (s_firstOf ?_))
  by_cases e1 : isF n x1 = 0
  · rw [nb0 e1, f1 (by decide)]
    refine n1 (by decide) (s_refused rO1 ?_)
    unfold w_X9_goes
    refine t_isKeeper k8 (y1 e1 ?_)
    rw [w_X9_goes_b15]
    exact t_no rO1 ⟨rfl, R_ref h rO1⟩
  · rw [nb1 e1]
    by_cases e2 : townF x2 = 0
    · rw [nb0 e2, f01 (by decide)]
      refine n1 (by decide) (s_refused rO1 ?_)
      unfold w_X9_goes
      refine t_isKeeper k8 (n1 e1 (t_isTown (y2 e2 ?_)))
      rw [w_X9_goes_b15]
      exact t_no rO1 ⟨rfl, R_ref h rO1⟩
    · rw [nb1 e2, f00]
      obtain ⟨p, hp, rfl⟩ := isF_1 (by omega) e1
      obtain ⟨t, ht, rfl⟩ := town_nI e2
      refine y1 rfl (rem2 h fun a b ha hb hR e23 => x_townOf (by omega) ?_)
      rw [rm_11 ha]
      refine at11 (P := fun s => w_X1_move 11 (nI p) (nI t) s _) (m_move (by omega) ?_)
      rw [rm_11 ha]
      unfold w_X9_goes
      refine t_isKeeper k8 (n1 e1 (t_isTown (n2 e2 (t_keepsBack hb e23 fun s k => ?_))))
      rw [clI (show p < 6 by omega) (by decide), (k.rm hm).town g hp]
      have c' : cv (sv (rmX st a b) 11 (u2 (cv st 11) 3 p (nI t))) 11 = u2 (cv st 11) 3 p (nI t) := cv_sv (nC_u2 nC_cv (by decide) _ _)
      refine ⟨vp_in_nI (by omega) (by decide), vp_in_nI (by omega) (by decide), rfl, R_set (hR s k) sv11_hx (by rw [c']; exact RM_town (k.rm hm) ((k.2.1 11 (by decide) (by decide) (by decide)).trans (out0 h)) (tn1 t ht)) (by rw [c']; exact gC_town g (by omega) ht) (fun a _ _ _ _ _ _ _ => by rw [u2_off (by decide)]) (fun j p q r => u2_off (by omega))⟩
theorem xor_bit : ∀ b, b < 64 → ∀ l, l < 6 → nI b ^^^ ((1 : Int32) <<< (nI l &&& 31)) = nI (b ^^^ 2 ^ l) := by decide +kernel
theorem xor_tb {b l j : Nat} : (b ^^^ 2 ^ l).testBit j = (b.testBit j != decide (l = j)) := by
  rw [Nat.testBit_xor, Nat.testBit_two_pow]
theorem xor_lt {b l nL : Nat} (h : b < 2 ^ nL) (hl : l < nL) : b ^^^ 2 ^ l < 2 ^ nL := Nat.xor_lt_two_pow h (Nat.pow_lt_pow_right (by decide) hl)
theorem RM_turn {n nL l : Nat} {mt : St} {c : Ct} (h : RM n nL mt c) (hl : l < nL) : RM n nL (u2 mt 8 l (1 - mt 8 l)) (u2 c 0 9 (c 0 9 ^^^ ((1 : Int32) <<< (nI l &&& 31)))) ∧ ob (u2 c 0 9 (c 0 9 ^^^ ((1 : Int32) <<< (nI l &&& 31)))) = ob c ^^^ 2 ^ l := by
  obtain ⟨g1, g2, g3, g4, g5, g6, g7, g8⟩ := h
  have g1' := g1
  obtain ⟨h1, h2, h3, h4, h5, h6, h7⟩ := g1'
  have hb := p64 h2 h7
  have e9 : u2 c 0 9 (c 0 9 ^^^ ((1 : Int32) <<< (nI l &&& 31))) 0 9 = nI (ob c ^^^ 2 ^ l) := by
    rw [u2_same]
    conv => lhs; rw [h6]
    exact xor_bit _ hb l (by omega)
  have hlt : ob c ^^^ 2 ^ l < 2 ^ nL := xor_lt h7 hl
  have eo : ob (u2 c 0 9 (c 0 9 ^^^ ((1 : Int32) <<< (nI l &&& 31)))) = ob c ^^^ 2 ^ l := ob_of e9 (p64 h2 hlt)
  refine ⟨⟨vC_of h1 h2 (by rw [u2_ne (Or.inr (by decide))]; exact h3) (by rw [u2_ne (Or.inr (by decide))]; exact h4) (fun j hj => by rw [u2_off (by decide)]; exact h5 j hj) ⟨_, hlt, e9⟩, fun p q a b => by rw [u2_off (by decide)]; exact g2 p q a b,
    by rw [u2_off (by decide)]; exact g3, by rw [u2_off (by decide)]; exact g4, by rw [u2_off (by decide), u2_ne (Or.inr (by decide))]; exact g5, fun p hp => ?_, fun p q a b => ?_, fun j hj => ?_⟩, eo⟩
  · rw [u2_off (by decide), u2_off (by decide), u2_off (by decide), u2_off (by decide), u2_off (by decide), u2_off (by decide), u2_off (by decide)]
    exact g6 p hp
  · rw [u2_off (by decide), u2_off (by decide)]
    exact g7 p q a b
  · have gg := g8 j hj
    rw [u2_off (show (6 : Nat) ≠ 8 by decide), u2_off (show (7 : Nat) ≠ 8 by decide), u2_off (show (5 : Nat) ≠ 0 by decide), u2_off (show (6 : Nat) ≠ 0 by decide), eo, xor_tb]
    refine ⟨gg.1, gg.2.1, gg.2.2.1, ?_⟩
    by_cases e : j = l
    · subst e
      rw [u2_same, gg.2.2.2, decide_eq_true rfl]
      cases (ob c).testBit j <;> decide
    · rw [u2_ne (Or.inr e), gg.2.2.2, decide_eq_false (Ne.symm e)]
      cases (ob c).testBit j <;> rfl
theorem gC_open {n nL : Nat} {c : Ct} {v : Int32} (g : gC n nL c) : gC n nL (u2 c 0 9 v) :=
  gC_cg g (zC_u2 g.1 (show 9 < lenC 0 by decide) (fun _ => by decide)) (by rw [u2_off (by decide)]; exact g.2.1) (u2_off (by decide)) (u2_off (by decide)) (by rw [u2_ne (Or.inr (by decide))]; exact g.2.2.2.2)
theorem sim_seals {st mt : St} (h : R st mt) (x1 : Int32) : w_X8_seals x1 st (fun r st' => w_X9_seals x1 mt (fun r' mt' => r = r' ∧ R st' mt')) := by
  obtain ⟨n, nL, hm, g, hn, hL, h7, h8, k8, k9⟩ := h.ctx
  unfold w_X8_seals
  refine s_letterRef h8 ?_
  by_cases e1 : isF nL x1 = 0
  · rw [nb0 e1]
    refine n1 (by decide) (s_refused rO1 ?_)
    unfold w_X9_seals
    exact t_isLetter k9 (y2 e1 (t_no rO1 ⟨rfl, R_ref h rO1⟩))
  · rw [nb1 e1]
    obtain ⟨l, hl, rfl⟩ := isF_1 (by omega) e1
    refine y1 rfl (rem2 h fun a b ha hb hR e23 => ?_)
    have c18 : rmX st a b 11 8 = nI nL := by
      have : cv (rmX st a b) 11 0 8 = cv st 11 0 8 := by rw [rm_11 ha]
      exact this.trans h8
    unfold w_X1_turnSeal
    refine s_hasLetter c18 (n1 e1 ?_)
    have ec : u2 (rmX st a b) 11 9 (rmX st a b 11 9 ^^^ ((1 : Int32) <<< (nI l &&& 31))) = sv (rmX st a b) 11 (u2 (cv st 11) 0 9 (cv st 11 0 9 ^^^ ((1 : Int32) <<< (nI l &&& 31)))) := by
      have e9 : rmX st a b 11 9 = cv st 11 0 9 := by
        have : cv (rmX st a b) 11 0 9 = cv st 11 0 9 := by rw [rm_11 ha]
        exact this
      have e0 : sv (rmX st a b) 11 (cv st 11) = rmX st a b := by
        rw [← rm_11 (b := b) ha]; exact sv_cv
      rw [e9, ← sv_u20, e0]
    rw [ec]
    have c' : cv (sv (rmX st a b) 11 (u2 (cv st 11) 0 9 (cv st 11 0 9 ^^^ ((1 : Int32) <<< (nI l &&& 31))))) 11 = u2 (cv st 11) 0 9 (cv st 11 0 9 ^^^ ((1 : Int32) <<< (nI l &&& 31))) := cv_sv (nC_u2 nC_cv (by decide) _ _)
    obtain ⟨rt, eo⟩ := RM_turn hm hl
    refine m_isOpen rt.1 (by omega) ?_
    rw [eo, xor_tb, decide_eq_true rfl]
    have key : ∀ v : Int32, (1 - mt 8 l) = v → w_X9_seals (nI l) mt (fun r' mt' => v = r' ∧ R (sv (rmX st a b) 11 (u2 (cv st 11) 0 9 (cv st 11 0 9 ^^^ ((1 : Int32) <<< (nI l &&& 31))))) mt') := fun v ev => by
      unfold w_X9_seals
      refine t_isLetter k9 (n2 e1 (t_keepsBack hb e23 fun s k => ?_))
      rw [clI (show l < 6 by omega) (by decide), u2_same]
      have e8 : s 8 l = mt 8 l := by rw [k.1 8 (by decide) (by decide)]
      refine ⟨vp_in_nI (by omega) (by decide), vp_in_nI (by omega) (by decide), vp_in_nI (by omega) (by decide), by rw [e8]; exact ev.symm, R_set (hR s k) sv11_hx (by rw [c']; exact (RM_turn (k.rm hm) hl).1) (by rw [c']; exact gC_open g) (fun a _ _ _ _ _ _ _ => by rw [u2_off (by decide)]) (fun j p q r => u2_off (by omega))⟩
    have a4 := (hm.2.2.2.2.2.2.2 l hl).2.2.2
    cases et : (ob (cv st 11)).testBit l with
    | true =>
      rw [et, if_pos rfl] at a4
      exact y1 rfl (key 0 (by rw [a4]; decide))
    | false =>
      rw [et, if_neg (by decide)] at a4
      exact n1 (by decide) (key 1 (by rw [a4]; decide))
theorem weekF_off {n nL j : Nat} {c : Ct} (h0 : j ≠ 0) (h4 : j ≠ 4) (h7 : j ≠ 7) : (weekF n nL c).2 j = c j :=
  fr_inv (fun _ (s : Int32 × Ct) => s.2 j = c j) (stepL n) (Nat.zero_le nL) (s0 := (0, hatesF n (u2 c 0 10 (c 0 10 + 1)))) (by
    show hatesF n (u2 c 0 10 (c 0 10 + 1)) j = c j
    rw [hatesF_off h4, u2_off h0]) (fun l s _ _ e => by rw [stepL_off h0 h4 h7]; exact e)
theorem weekF_10 {n nL : Nat} {c : Ct} : (weekF n nL c).2 0 10 = c 0 10 + 1 :=
  fr_inv (fun _ (s : Int32 × Ct) => s.2 0 10 = c 0 10 + 1) (stepL n) (Nat.zero_le nL) (s0 := (0, hatesF n (u2 c 0 10 (c 0 10 + 1)))) (by
    show hatesF n (u2 c 0 10 (c 0 10 + 1)) 0 10 = c 0 10 + 1
    rw [hatesF_off (by decide), u2_same]) (fun l s _ _ e => by rw [stepL_0 (by decide)]; exact e)
theorem gC_weeks {n nL w i : Nat} {c : Ct} (hn : n ≤ 6) (hL : nL ≤ 6) (g : gC n nL c) (hz : nC c) (e : c 0 10 = nI w) (hw : w + i ≤ 999) : gC n nL (weeksF n nL i c) := by
  have off : ∀ j, j ≠ 0 → j ≠ 4 → j ≠ 7 → weeksF n nL i c j = c j := fun j a b d => fr_inv (fun _ (x : Ct) => x j = c j) _ (Nat.zero_le i) rfl fun _ s _ _ e => by rw [weekF_off a b d]; exact e
  have w10 : weeksF n nL i c 0 10 = nI (w + i) := fr_inv (fun k (x : Ct) => x 0 10 = nI (w + k)) _ (Nat.zero_le i) e fun k s _ _ e => by rw [weekF_10, e, nI_inc]; rfl
  exact gC_cg g (zn_weeks hn hL ⟨g.1, hz⟩).1 (by rw [off 3 (by decide) (by decide) (by decide)]; exact g.2.1) (off 5 (by decide) (by decide) (by decide)) (off 6 (by decide) (by decide) (by decide)) ⟨w + i, hw, w10⟩
theorem sim_weeks {st mt : St} (h : R st mt) (x1 : Int32) : w_X8_weeks x1 st (fun r st' => w_X9_weeks x1 mt (fun r' mt' => r = r' ∧ R st' mt')) := by
  obtain ⟨n, nL, hm, g, hn, hL, h7, h8, k8, k9⟩ := h.ctx
  obtain ⟨w, hw, ew⟩ := g.2.2.2.2
  have e10 : st 11 10 = nI w := ew
  have m10 : mt 0 10 = nI w := hm.2.2.2.2.1.trans ew
  unfold w_X8_weeks
  refine s_range ?_
  unfold w_X1_weekNow
  rw [e10]
  by_cases e1 : rangeF x1 1 60 = 0
  · rw [e1]
    obtain ⟨i, hi1, hi, rfl⟩ := rg_nI (a := 1) (b := 60) (by decide) (by decide) e1
    have es : (999 : Int32) - nI w = nI (999 - w) := nI_sub' (a := 999) (by omega)
    have ea : nI w + nI i = nI (w + i) := nI_add w i
    rw [es]
    by_cases e2 : w + i ≤ 999
    · refine y1 (nI_le (show i ≤ 999 - w by omega) (by omega)) ?_
      rw [w_X8_weeks_b28]
      refine s_firstOf (y1 rfl (rem2 h fun a b ha hb hR e23 => ?_))
      have v11 : vC n nL (cv (rmX st a b) 11) := by rw [rm_11 ha]; exact hm.1
      refine at11 (P := fun s => w_X1_passWeeks 11 (nI i) s _) (s_passWeeks (by omega) v11 ?_)
      rw [rm_11 ha]
      have c' : cv (sv (rmX st a b) 11 (weeksF n nL i (cv st 11))) 11 = weeksF n nL i (cv st 11) := cv_sv (zn_weeks hn hL ⟨g.1, nC_cv⟩).2
      unfold w_X9_weeks
      refine t_bound ?_
      rw [e1, m10, ea]
      refine y2 rfl (y1 (nI_le e2 (by decide)) ?_)
      rw [w_X9_weeks_b27]
      refine y1 rfl (t_keepsBack hb e23 fun s k => t_goesOn (by omega) (k.rm hm) fun s1 q1 q2 => t_openOnes q1 (t_bits (by have := p64 q1.1.2.1 q1.1.2.2.2.2.2.2; omega) ⟨rfl, R_set (hR s k) sv11_hx (by rw [c']; exact q1) (by rw [c']; exact gC_weeks hn hL g nC_cv ew e2) (fun a p1 p2 p3 p4 p5 p6 p7 => q2.2 a p3 p6) (fun j p1 p2 p3 => q2.1 j p1 (by omega) (by omega) p3)⟩))
    · refine n1 (nI_ge (show 999 - w < i by omega) (by omega)) ?_
      rw [w_X8_weeks_b28]
      refine s_firstOf (n1 (by decide) (s_refused rO6 ?_))
      unfold w_X9_weeks
      refine t_bound ?_
      rw [e1, m10, ea]
      refine y2 rfl (n1 (nI_ge (show 999 < w + i by omega) (by omega)) ?_)
      rw [w_X9_weeks_b27]
      exact n1 (by decide) (t_no rO6 ⟨rfl, R_ref h rO6⟩)
  · have fin : ∀ v, w_X8_weeks_b28 x1 (fun r st' => w_X9_weeks x1 mt (fun r' mt' => r = r' ∧ R st' mt')) v (rangeF x1 1 60) st := fun v => by
      rw [w_X8_weeks_b28]
      refine s_firstOf ?_
      rw [f1 e1]
      refine n1 e1 (s_refused (rg_ok e1) ?_)
      unfold w_X9_weeks
      refine t_bound (n2 e1 ?_)
      rw [w_X9_weeks_b27]
      exact n1 e1 (t_no (rg_ok e1) ⟨rfl, R_ref h (rg_ok e1)⟩)
    exact ⟨fun _ => fin 0, fun _ => fin (-6)⟩
theorem sim_back {st mt : St} (h : R st mt) : w_X8_back st (fun r st' => w_X9_back mt (fun r' mt' => r = r' ∧ R st' mt')) := by
  have h' := h
  obtain ⟨h1, h2, h3, h4, h5, h6, h7, ⟨a, b, m1, m2, m3, m4, m5, m6⟩⟩ := h'
  unfold w_X8_back w_X5_size
  rw [m4]
  by_cases e : b = 0
  · subst e
    refine y2 rfl (s_refused rO3 ?_)
    unfold w_X9_back
    exact y2 m5 (t_no rO3 ⟨rfl, R_ref h rO3⟩)
  · have nb : ¬ nI b = 0 := fun z => e ((nI_inj0 (by omega)).mp z)
    refine n2 nb ?_
    unfold w_X5_takeBack
    rw [m3, m8b a m1]
    refine s_country (by omega) ⟨fun z => (by cases z), fun q hq => ?_⟩
    cases hq
    rw [m4]
    refine n1 (fun z => absurd ((nJ_le (b := 0) (by omega) (by decide)).mp z) (by omega)) ?_
    have la : (a + 7) % 8 < 8 := by omega
    refine s_become (by omega) (h2 11 isC_11) (h2 _ (isC_past la)) ?_
    have o2 : ∀ c, sv st 11 c 2 = st 2 := fun c => sv_off (by omega)
    have q2 : u2 (sv st 11 (bec (cv st (35 + 8 * ((a + 7) % 8))))) 2 1 (nI ((a + 7) % 8)) 2 2 = nI b := by
      rw [u2_ne (Or.inr (by decide)), o2]; exact m4
    have e1 : nI b - 1 = nI (b - 1) := nI_sub' (b := 1) (by omega)
    rw [q2, e1]
    show w_X9_back mt (fun r' mt' => (u2 (u2 (sv st 11 (bec (cv st (35 + 8 * ((a + 7) % 8))))) 2 1 (nI ((a + 7) % 8))) 2 2 (nI (b - 1))) 2 2 = r' ∧ R (u2 (u2 (sv st 11 (bec (cv st (35 + 8 * ((a + 7) % 8))))) 2 1 (nI ((a + 7) % 8))) 2 2 (nI (b - 1))) mt')
    rw [u2_same]
    -- the check's side
    unfold w_X9_back
    rw [m5]
    refine n2 nb ?_
    have q3 : u2 mt 0 23 (nI b - 1) 0 23 = nI (b - 1) := by rw [u2_same, e1]
    have q4 : (3 : Int32) + nI (b - 1) = nI (3 + (b - 1)) := n3b (b - 1) (by omega)
    rw [q3, q4]
    refine t_puts (w := 3 + (b - 1)) (by omega) fun s b1 b2 b3 => ?_
    have s23 : s 0 23 = nI (b - 1) := (b3 23 (by decide) (by decide) (by decide) (by decide) (by decide)).trans q3
    have s0 : ∀ x, x ≠ 8 → x ≠ 9 → x ≠ 10 → x ≠ 21 → x ≠ 22 → x ≠ 23 → s 0 x = mt 0 x := fun x y1 y2 y3 y4 y5 y6 => by
      rw [b3 x y1 y2 y3 y4 y5, u2_0 y6]
    have sj : ∀ j, j ≠ 0 → (j < 2 ∨ 8 < j) → s j = mt j := fun j y1 y2 => by rw [b2 j y1 y2, u2_off y1]
    have ep : pI a b (b - 1) = 35 + 8 * ((a + 7) % 8) := by unfold pI; omega
    have rb := m6 (b - 1) (by omega)
    rw [ep] at rb
    have lvs : RB (lvM s) (bec (cv st (35 + 8 * ((a + 7) % 8)))) := (rb.cg fun j hj => by
      rw [b1 j hj, u2_off (by decide)]
      congr 1; omega).bec
    refine ⟨s23.symm, ?_⟩
    have oc : ∀ k, 19 ≤ k → cv (u2 (u2 (sv st 11 (bec (cv st (35 + 8 * ((a + 7) % 8))))) 2 1 (nI ((a + 7) % 8))) 2 2 (nI (b - 1))) k = cv st k := fun k hk => by
      rw [cv_u2 (by omega), cv_u2 (by omega), cv_off (by omega)]
    have o11 : cv (u2 (u2 (sv st 11 (bec (cv st (35 + 8 * ((a + 7) % 8))))) 2 1 (nI ((a + 7) % 8))) 2 2 (nI (b - 1))) 11 = bec (cv st (35 + 8 * ((a + 7) % 8))) := by
      rw [cv_u2 (by omega), cv_u2 (by omega), cv_sv (nC_bec nC_cv)]
    have oj : ∀ j, j ≠ 2 → j < 11 → u2 (u2 (sv st 11 (bec (cv st (35 + 8 * ((a + 7) % 8))))) 2 1 (nI ((a + 7) % 8))) 2 2 (nI (b - 1)) j = st j := fun j y1 y2 => by
      rw [u2_off y1, u2_off y1, sv_off (by omega)]
    refine ⟨⟨by rw [o11]; exact lvs, by rw [s0 11 (by decide) (by decide) (by decide) (by decide) (by decide) (by decide)]; exact h1.2⟩, fun k hk => ?_, by rw [oj 9 (by decide) (by decide)]; exact h3, h4.tr (oj 1 (by decide) (by decide)) (sj 1 (by decide) (by decide)), h5.tr (oj 4 (by decide) (by decide)) (oj 5 (by decide) (by decide)) (s0 16 (by decide) (by decide) (by decide) (by decide) (by decide) (by decide)) (sj 9 (by decide) (by decide)),
      h6.tr (oj 6 (by decide) (by decide)) (oj 7 (by decide) (by decide)) (s0 29 (by decide) (by decide) (by decide) (by decide) (by decide) (by decide)) (sj 16 (by decide) (by decide)), h7.tr (by rw [oj 0 (by decide) (by decide)]) (oc 27 (by decide)) (s0 20 (by decide) (by decide) (by decide) (by decide) (by decide) (by decide)) (fun x _ => by rw [sj 13 (by decide) (by decide)]),
      ⟨(a + 7) % 8, b - 1, la, by omega, ?_, ?_, s23, fun i hi => ?_⟩⟩
    · obtain ⟨i, hi, rfl⟩ := hk
      by_cases e : i = 0
      · subst e
        rw [o11]; exact zC_bec (h2 _ (isC_past la))
      · rw [oc _ (by omega)]; exact h2 _ ⟨i, hi, rfl⟩
    · rw [u2_ne (Or.inr (by decide)), u2_same]
    · rw [u2_same]
    · have ep2 : pI ((a + 7) % 8) (b - 1) i = pI a b i := by unfold pI; omega
      rw [ep2, oc _ (by have := @pI_lt a b i; omega)]
      exact (m6 i (by omega)).cg fun j _ => by rw [sj 13 (by decide) (by decide)]
theorem sim_image {st mt : St} (h : R st mt) : w_X8_image st (fun r st' => w_X9_image mt (fun r' mt' => r = r' ∧ R st' mt')) := by
  have h' := h
  obtain ⟨h1, h2, h3, h4, h5, h6, h7, h8⟩ := h'
  obtain ⟨n, nL, hm, g⟩ := h.get
  unfold w_X8_image
  refine s_become (by decide) (h2 27 isC_27) (h2 11 isC_11) ?_
  unfold w_X1_weekNow w_X9_image
  refine t_saves (w := 0) (by decide) fun s a1 a2 a3 => ?_
  have oj : ∀ j, j ≠ 0 → j < 27 ∨ 35 ≤ j → u2 (sv st 27 (bec (cv st 11))) 0 3 1 j = st j := fun j p q => by rw [u2_off p, sv_off (by omega)]
  have s0 : ∀ x, x ≠ 21 → x ≠ 22 → x ≠ 20 → s 0 x = mt 0 x := fun x p q r => by rw [a2 x p q, u2_0 r]
  have sj : ∀ j, j ≠ 0 → j ≠ 13 → s j = mt j := fun j p q => by rw [a1 j p q, u2_off p]
  have oc : ∀ k, 1 ≤ k → (k + 8 ≤ 27 ∨ 35 ≤ k) → cv (u2 (sv st 27 (bec (cv st 11))) 0 3 1) k = cv st k := fun k p q => by rw [cv_u2 (by omega), cv_off (by omega)]
  have o27 : cv (u2 (sv st 27 (bec (cv st 11))) 0 3 1) 27 = bec (cv st 11) := by rw [cv_u2 (by omega), cv_sv (nC_bec nC_cv)]
  have lv : ∀ i, i < 75 → lvM (u2 mt 0 20 1) i = lvM mt i := lv_u2 (Or.inr ⟨rfl, by decide, by decide, by decide⟩)
  have lvs : ∀ i, i < 75 → lvM s i = lvM mt i := fun i _ => by
    unfold lvM
    rw [sj 2 (by decide) (by decide), sj 3 (by decide) (by decide), sj 4 (by decide) (by decide), sj 5 (by decide) (by decide), sj 6 (by decide) (by decide), sj 7 (by decide) (by decide), sj 8 (by decide) (by decide), s0 8 (by decide) (by decide) (by decide), s0 9 (by decide) (by decide) (by decide), s0 10 (by decide) (by decide) (by decide)]
  refine ⟨?_, ⟨⟨by rw [oc 11 (by decide) (by decide)]; exact h1.1.cg lvs, by rw [s0 11 (by decide) (by decide) (by decide)]; exact h1.2⟩, fun k hk => ?_, by rw [oj 9 (by decide) (by decide)]; exact h3, h4.tr (oj 1 (by decide) (by decide)) (sj 1 (by decide) (by decide)), h5.tr (oj 4 (by decide) (by decide)) (oj 5 (by decide) (by decide)) (s0 16 (by decide) (by decide) (by decide)) (sj 9 (by decide) (by decide)), h6.tr (oj 6 (by decide) (by decide)) (oj 7 (by decide) (by decide)) (s0 29 (by decide) (by decide) (by decide)) (sj 16 (by decide) (by decide)), ?_,
    h8.tr (oj 2 (by decide) (by decide)) (fun a b i => oc _ (by have := @pI_lt a b i; omega) (by have := @pI_lt a b i; omega)) (s0 23 (by decide) (by decide) (by decide)) (fun x hx => by rw [a3, if_neg (by omega), u2_off (by decide)])⟩⟩
  · have e1 : u2 (sv st 27 (bec (cv st 11))) 0 3 1 11 10 = cv st 11 0 10 := by
      rw [oj 11 (by decide) (by decide)]; rfl
    rw [e1, s0 10 (by decide) (by decide) (by decide)]
    exact hm.2.2.2.2.1.symm
  · obtain ⟨i, hi, rfl⟩ := hk
    by_cases e : i = 2
    · subst e; rw [o27]; exact zC_bec (h2 11 isC_11)
    · rw [oc _ (by omega) (by omega)]; exact h2 _ ⟨i, hi, rfl⟩
  · refine Or.inr ⟨u2_same, ?_, ?_⟩
    · rw [a2 20 (by decide) (by decide), u2_same]
    · rw [o27]
      refine (h1.1.cg fun i hi => ?_).bec
      rw [a3, if_pos (by omega)]
      exact lv _ (by omega)
theorem sim_restore {st mt : St} (h : R st mt) : w_X8_restore st (fun r st' => w_X9_restore mt (fun r' mt' => r = r' ∧ R st' mt')) := by
  have h' := h
  obtain ⟨h1, h2, h3, h4, h5, h6, h7, ⟨a, b, m1, m2, m3, m4, m5, m6⟩⟩ := h'
  unfold w_X8_restore
  rcases h7 with ⟨p, q⟩ | ⟨p, q, z⟩
  · refine y2 p (s_refused rO3 ?_)
    unfold w_X9_restore
    exact y2 q (t_no rO3 ⟨rfl, R_ref h rO3⟩)
  · refine n2 (by rw [p]; decide) (s_become (by decide) (h2 11 isC_11) (h2 27 isC_27) ?_)
    unfold w_X5_forget w_X1_weekNow w_X9_restore
    refine n2 (by rw [q]; decide) (t_puts (w := 0) (by decide) fun s b1 b2 b3 => ?_)
    have oj : ∀ j, j ≠ 2 → j < 11 ∨ 19 ≤ j → u2 (sv st 11 (bec (cv st 27))) 2 2 0 j = st j := fun j y1 y2 => by rw [u2_off y1, sv_off (by omega)]
    have oc : ∀ k, 19 ≤ k → cv (u2 (sv st 11 (bec (cv st 27))) 2 2 0) k = cv st k := fun k hk => by rw [cv_u2 (by omega), cv_off (by omega)]
    have o11 : cv (u2 (sv st 11 (bec (cv st 27))) 2 2 0) 11 = bec (cv st 27) := by rw [cv_u2 (by omega), cv_sv (nC_bec nC_cv)]
    have s0 : ∀ x, x ≠ 8 → x ≠ 9 → x ≠ 10 → x ≠ 21 → x ≠ 22 → x ≠ 23 → u2 s 0 23 0 0 x = mt 0 x := fun x y1 y2 y3 y4 y5 y6 => by rw [u2_0 y6, b3 x y1 y2 y3 y4 y5]
    have sj : ∀ j, j ≠ 0 → (j < 2 ∨ 8 < j) → u2 s 0 23 0 j = mt j := fun j y1 y2 => by rw [u2_off y1, b2 j y1 y2]
    have lvs : RB (lvM (u2 s 0 23 0)) (bec (cv st 27)) := (z.cg fun j hj => by
      rw [lv_u2 (Or.inr ⟨rfl, by decide, by decide, by decide⟩) j hj, b1 j hj]
      congr 1; omega).bec
    have hR : R (u2 (sv st 11 (bec (cv st 27))) 2 2 0) (u2 s 0 23 0) := by
      refine ⟨⟨by rw [o11]; exact lvs, by rw [s0 11 (by decide) (by decide) (by decide) (by decide) (by decide) (by decide)]; exact h1.2⟩, fun k hk => ?_, by rw [oj 9 (by decide) (by decide)]; exact h3, h4.tr (oj 1 (by decide) (by decide)) (sj 1 (by decide) (by decide)), h5.tr (oj 4 (by decide) (by decide)) (oj 5 (by decide) (by decide)) (s0 16 (by decide) (by decide) (by decide) (by decide) (by decide) (by decide)) (sj 9 (by decide) (by decide)),
        h6.tr (oj 6 (by decide) (by decide)) (oj 7 (by decide) (by decide)) (s0 29 (by decide) (by decide) (by decide) (by decide) (by decide) (by decide)) (sj 16 (by decide) (by decide)), ?_, ⟨a, 0, m1, by decide, ?_, u2_same, u2_same, fun i hi => absurd hi (Nat.not_lt_zero i)⟩⟩
      · obtain ⟨i, hi, rfl⟩ := hk
        by_cases e : i = 0
        · subst e
          rw [o11]; exact zC_bec (h2 27 isC_27)
        · rw [oc _ (by omega)]; exact h2 _ ⟨i, hi, rfl⟩
      · refine Or.inr ⟨by rw [oj 0 (by decide) (by decide)]; exact p, by rw [s0 20 (by decide) (by decide) (by decide) (by decide) (by decide) (by decide)]; exact q, ?_⟩
        rw [oc 27 (by decide), sj 13 (by decide) (by decide)]
        exact z
      · rw [u2_ne (Or.inr (by decide)), sv_off (by decide)]; exact m3
    refine ⟨?_, hR⟩
    obtain ⟨n, nL, hm, -⟩ := hR.get
    exact hm.2.2.2.2.1.symm
end
section
/-! pure part: who comes, what comes -/
def akH (n : Nat) (q : Nat) (c : Ct) : Ct := u2 c 4 (hI q n) 20
def akF (n : Nat) (a b t : Int32) (c : Ct) : Ct := u2 (fr 0 n (akH n) (u2 (u2 (u2 c 1 n a) 2 n b) 3 n t)) 0 7 (nI (n + 1))
theorem akH_off {n i j : Nat} {c : Ct} (h : j ≠ 4) : fr 0 i (akH n) c j = c j := fr_comp (fun q c => u2_off h) (Nat.zero_le i)
theorem akH_4 {n i : Nat} {c : Ct} (hn : n < 6) (hi : i ≤ n) : ∀ p q, p < q → q < 6 → fr 0 i (akH n) c 4 (hI p q) = if q = n ∧ p < i then 20 else c 4 (hI p q) := by
  refine fr_inv (fun i (x : Ct) => ∀ p q, p < q → q < 6 → x 4 (hI p q) = if q = n ∧ p < i then 20 else c 4 (hI p q)) (akH n) (Nat.zero_le i) (fun p q _ _ => (if_neg (by omega)).symm) (fun k x _ hk hx p q hp hq => ?_)
  unfold akH
  by_cases e : q = n ∧ p = k
  · obtain ⟨rfl, rfl⟩ := e
    rw [u2_same, if_pos ⟨rfl, by omega⟩]
  · rw [u2_ne (Or.inr fun z => e ?_), hx p q hp hq]
    · by_cases z : q = n ∧ p < k
      · rw [if_pos z, if_pos ⟨z.1, by omega⟩]
      · rw [if_neg z, if_neg (by omega)]
    · obtain ⟨z1, z2⟩ := hI_inj hp hq (show k < n by omega) hn z
      exact ⟨z2, z1⟩
theorem s_addKeeper {st : St} {k n : Nat} {c : Ct} {a b t : Int32} {K : Int32 → St → Prop} (hn : n < 6) (h7 : c 0 7 = nI n) (h : K (nI n) (sv st k (akF n a b t c))) : w_X1_addKeeper k a b t (sv st k c) K := by
  unfold w_X1_addKeeper
  rw [sv_0, h7]
  refine s_put hn (by decide) ?_
  rw [sv_u2 (by decide)]
  refine s_put hn (by decide) ?_
  rw [sv_u2 (by decide)]
  refine s_put hn (by decide) ?_
  rw [sv_u2 (by decide)]
  refine lo_fr (fun m q (c : Ct) => w_X1_addKeeper_L39 k a b t K m (nI n) (nI q) (sv st k c)) (akH n) (fun _ c => c 0 7 = nI n) (u2 (u2 (u2 c 1 n a) 2 n b) 3 n t) (Nat.zero_le n) (by rw [u2_off (by decide), u2_off (by decide), u2_off (by decide)]; exact h7) (fun q c _ _ e => by unfold akH; rw [u2_off (by decide)]; exact e) (fun e m => ?_) (fun m q c _ hq e hk => ?_)
  · rw [w_X1_addKeeper_L39, w_X1_addKeeper_L39q]
    refine y1 (nI_le (Nat.le_refl n) (by omega)) ?_
    rw [w_X1_addKeeper_b62, sv_0, e, sv_u20, nI_inc]
    exact h
  · rw [w_X1_addKeeper_L39, w_X1_addKeeper_L39q]
    refine n1 (nI_ge hq (by omega)) (s_setHate (by omega) hn ?_)
    rw [show heldF 20 = 20 by decide, nI_inc]
    exact hk
def msH (n : Nat) (p : Nat) (s : St) : St := setsF s p n 20
def msF (n : Nat) (a b t : Int32) (mt : St) : St := u2 (fr 0 n (msH n) (u2 (u2 (u2 mt 2 n a) 3 n b) 4 n t)) 0 8 (nI (n + 1))
theorem msH_off {n i j : Nat} {s : St} (h : j ≠ 5) : fr 0 i (msH n) s j = s j := fr_inv (fun _ (x : St) => x j = s j) (msH n) (Nat.zero_le i) rfl fun p x _ _ e => by
  unfold msH
  rw [ef_sets j h]
  exact e
theorem msH_5 {n i : Nat} {s : St} (hn : n < 6) (hi : i ≤ n) : ∀ p q, p < 6 → q < 6 → fr 0 i (msH n) s 5 (6 * p + q) = if (q = n ∧ p < i) ∨ (p = n ∧ q < i) then 20 else s 5 (6 * p + q) := by
  refine fr_inv (fun i (x : St) => ∀ p q, p < 6 → q < 6 → x 5 (6 * p + q) = if (q = n ∧ p < i) ∨ (p = n ∧ q < i) then 20 else s 5 (6 * p + q)) (msH n) (Nat.zero_le i) (fun p q _ _ => (if_neg (by omega)).symm) (fun k x _ hk hx p q hp hq => ?_)
  unfold msH setsF
  rw [u2_if, u2_if]
  by_cases e1 : p = n ∧ q = k
  · rw [if_pos (by omega), if_pos (by omega)]
  · rw [if_neg (by omega)]
    by_cases e2 : p = k ∧ q = n
    · rw [if_pos (by omega), if_pos (by omega)]
    · rw [if_neg (by omega), hx p q hp hq]
      by_cases z : (q = n ∧ p < k) ∨ (p = n ∧ q < k)
      · rw [if_pos z, if_pos (by omega)]
      · rw [if_neg z, if_neg (by omega)]
theorem t_addsKeeper {mt : St} {n : Nat} {a b t : Int32} {K : St → Prop} (hn : n < 6) (h8 : mt 0 8 = nI n) (h : K (msF n a b t mt)) : w_X9_addsKeeper a b t mt K := by
  have vi : vp_in (nI n) 6 := vp_in_nI hn (by decide)
  have cl : (nI n).toNatClampNeg = n := clI hn (by decide)
  unfold w_X9_addsKeeper
  rw [h8, cl]
  have e1 : u2 mt 2 n a 0 8 = nI n := by rw [u2_off (by decide)]; exact h8
  rw [e1, cl]
  have e2 : u2 (u2 mt 2 n a) 3 n b 0 8 = nI n := by rw [u2_off (by decide)]; exact e1
  rw [e2, cl]
  refine ⟨vi, vi, vi, ?_⟩
  refine lo_fr (fun m p (s : St) => w_X9_addsKeeper_L33 a b t K m (nI p) s) (msH n) (fun _ s => s 0 8 = nI n) (u2 (u2 (u2 mt 2 n a) 3 n b) 4 n t) (Nat.zero_le n) (by rw [u2_off (by decide)]; exact e2) (fun p s _ _ e => by unfold msH; rw [ef_sets 0 (by decide)]; exact e) (fun e m => ?_) (fun m p s _ hp e hk => ?_)
  · rw [w_X9_addsKeeper_L33, w_X9_addsKeeper_L33q, e]
    refine y1 (nI_le (Nat.le_refl n) (by omega)) ?_
    rw [w_X9_addsKeeper_b60, e, nI_inc]
    exact h
  · rw [w_X9_addsKeeper_L33, w_X9_addsKeeper_L33q, e]
    refine n1 (nI_ge hp (by omega)) (t_sets (by omega) hn ?_)
    rw [nI_inc]
    exact hk
theorem ms_off {n j : Nat} {a b t : Int32} {mt : St} (h0 : j ≠ 0) (h5 : j ≠ 5) (h2 : j ≠ 2) (h3 : j ≠ 3) (h4 : j ≠ 4) : msF n a b t mt j = mt j := by
  unfold msF
  rw [u2_off h0, msH_off h5, u2_off h4, u2_off h3, u2_off h2]
theorem ms_0 {n i : Nat} {a b t : Int32} {mt : St} (hi : i ≠ 8) : msF n a b t mt 0 i = mt 0 i := by
  unfold msF
  rw [u2_0 hi, msH_off (by decide), u2_off (by decide), u2_off (by decide), u2_off (by decide)]
theorem RM_add {n nL : Nat} {mt : St} {c : Ct} {a b t : Int32} (h : RM n nL mt c) (h0 : mt 0 11 = 0) (hn : n < 6) (ht : t ≠ -1) : RM (n + 1) nL (msF n a b t mt) (akF n a b t c) := by
  obtain ⟨g1, g2, g3, g4, g5, g6, g7, g8⟩ := h
  obtain ⟨v1, v2, v3, v4, v5, v6, v7⟩ := g1
  have a0 : ∀ i, i ≠ 7 → akF n a b t c 0 i = c 0 i := fun i hi => by
    unfold akF
    rw [u2_0 hi, akH_off (by decide), u2_off (by decide), u2_off (by decide), u2_off (by decide)]
  have a1 : ∀ p, akF n a b t c 1 p = if p = n then a else c 1 p := fun p => by
    unfold akF
    rw [u2_off (by decide), akH_off (by decide), u2_off (by decide), u2_off (by decide), u2_if]
    simp only [true_and]
  have a2 : ∀ p, akF n a b t c 2 p = if p = n then b else c 2 p := fun p => by
    unfold akF
    rw [u2_off (by decide), akH_off (by decide), u2_off (by decide), u2_if, u2_off (by decide)]
    simp only [true_and]
  have a3 : ∀ p, akF n a b t c 3 p = if p = n then t else c 3 p := fun p => by
    unfold akF
    rw [u2_off (by decide), akH_off (by decide), u2_if, u2_off (by decide), u2_off (by decide)]
    simp only [true_and]
  have a4 : ∀ p q, p < q → q < 6 → akF n a b t c 4 (hI p q) = if q = n then 20 else c 4 (hI p q) := fun p q hp hq => by
    unfold akF
    rw [u2_off (by decide), akH_4 hn (Nat.le_refl n) p q hp hq, u2_off (by decide), u2_off (by decide), u2_off (by decide)]
    by_cases e : q = n
    · rw [if_pos ⟨e, by omega⟩, if_pos e]
    · rw [if_neg (fun z => e z.1), if_neg e]
  have a5 : ∀ j, 5 ≤ j → akF n a b t c j = c j := fun j hj => by
    unfold akF
    rw [u2_off (by omega), akH_off (by omega), u2_off (by omega), u2_off (by omega), u2_off (by omega)]
  have eo : ob (akF n a b t c) = ob c := by unfold ob; rw [a0 9 (by decide)]
  have m2 : ∀ p, msF n a b t mt 2 p = if p = n then a else mt 2 p := fun p => by
    unfold msF
    rw [u2_off (by decide), msH_off (by decide), u2_off (by decide), u2_off (by decide), u2_if]
    simp only [true_and]
  have m3 : ∀ p, msF n a b t mt 3 p = if p = n then b else mt 3 p := fun p => by
    unfold msF
    rw [u2_off (by decide), msH_off (by decide), u2_off (by decide), u2_if, u2_off (by decide)]
    simp only [true_and]
  have m4 : ∀ p, msF n a b t mt 4 p = if p = n then t else mt 4 p := fun p => by
    unfold msF
    rw [u2_off (by decide), msH_off (by decide), u2_if, u2_off (by decide), u2_off (by decide)]
    simp only [true_and]
  have m5 : ∀ p q, p < 6 → q < 6 → msF n a b t mt 5 (6 * p + q) = if (q = n ∧ p < n) ∨ (p = n ∧ q < n) then 20 else mt 5 (6 * p + q) := fun p q hp hq => by
    unfold msF
    rw [u2_off (by decide), msH_5 hn (Nat.le_refl n) p q hp hq, u2_off (by decide), u2_off (by decide), u2_off (by decide)]
  refine ⟨vC_of (by omega) v2 ?_ (by rw [a0 8 (by decide)]; exact v4) (fun l hl => by rw [a5 5 (by decide)]; exact v5 l hl) ⟨ob c, v7, by rw [a0 9 (by decide)]; exact v6⟩, fun p q hp hq => ?_, ?_, by rw [ms_0 (by decide)]; exact g4, by rw [ms_0 (by decide), a0 10 (by decide)]; exact g5, fun p hp => ?_, fun p q hp hq => ?_, fun l hl => ?_⟩
  · unfold akF; rw [u2_same]
  · rw [a4 p q hp (by omega)]
    by_cases e : q = n
    · rw [if_pos e]; decide
    · rw [if_neg e]; exact g2 p q hp (by omega)
  · unfold msF; rw [u2_same]
  · rw [m2, m3, m4, a1, a2, a3, ms_0 (by decide), h0]
    by_cases e : p = n
    · subst e
      rw [if_pos rfl, if_pos rfl, if_pos rfl, if_pos rfl, if_pos rfl, if_pos rfl]
      exact ⟨rfl, rfl, ⟨fun z => absurd z (has0 p), fun z => absurd z ht⟩, fun _ => rfl⟩
    · rw [if_neg e, if_neg e, if_neg e, if_neg e, if_neg e, if_neg e]
      have := g6 p (by omega)
      rw [h0] at this
      exact this
  · rw [a4 p q hp (by omega), m5 p q (by omega) (by omega), m5 q p (by omega) (by omega)]
    by_cases e : q = n
    · rw [if_pos e, if_pos (by omega), if_pos (by omega)]; exact ⟨rfl, rfl⟩
    · rw [if_neg e, if_neg (by omega), if_neg (by omega)]; exact g7 p q hp (by omega)
  · rw [ms_off (by decide) (by decide) (by decide) (by decide) (by decide), ms_off (by decide) (by decide) (by decide) (by decide) (by decide), ms_off (by decide) (by decide) (by decide) (by decide) (by decide), a5 5 (by decide), a5 6 (by decide), eo]
    exact g8 l hl
theorem zn_add {n : Nat} {c : Ct} {a b t : Int32} (hn : n < 6) (h : zn c) : zn (akF n a b t c) := by
  refine zn_u2 (fr_inv (fun _ (x : Ct) => zn x) (akH n) (Nat.zero_le n) (zn_u2 (zn_u2 (zn_u2 h (by decide) (show n < lenC 1 from hn) (fun z => absurd z (by decide))) (by decide) (show n < lenC 2 from hn) (fun z => absurd z (by decide))) (by decide) (show n < lenC 3 from hn) (fun z => absurd z (by decide))) fun q x _ hq hx => zn_hate hx (by omega) hn) (by decide) (show 7 < lenC 0 by decide) (fun _ => by decide)
theorem gC_add {n nL t : Nat} {c : Ct} {a b : Int32} (g : gC n nL c) (hz : nC c) (hn : n < 6) (ht : t < 4) : gC (n + 1) nL (akF n a b (nI t) c) := by
  have a5 : ∀ j, 5 ≤ j → akF n a b (nI t) c j = c j := fun j hj => by
    unfold akF
    rw [u2_off (by omega), akH_off (by omega), u2_off (by omega), u2_off (by omega), u2_off (by omega)]
  refine ⟨(zn_add hn ⟨g.1, hz⟩).1, fun p hp => ?_, by rw [a5 6 (by decide)]; exact g.2.2.1, by rw [a5 5 (by decide)]; exact g.2.2.2.1, ?_⟩
  · have e : akF n a b (nI t) c 3 p = if p = n then nI t else c 3 p := by
      unfold akF
      rw [u2_off (by decide), akH_off (by decide), u2_if, u2_off (by decide), u2_off (by decide)]
      simp only [true_and]
    rw [e]
    by_cases z : p = n
    · rw [if_pos z]; exact ⟨t, ht, rfl⟩
    · rw [if_neg z]; exact g.2.1 p (by omega)
  · have e : akF n a b (nI t) c 0 10 = c 0 10 := by
      unfold akF
      rw [u2_0 (by decide), akH_off (by decide), u2_off (by decide), u2_off (by decide), u2_off (by decide)]
    rw [e]; exact g.2.2.2.2
/-! a letter -/
def alF (l : Nat) (t d : Int32) (c : Ct) : Ct := u2 (u2 (u2 c 5 l d) 6 l t) 0 8 (nI (l + 1))
theorem s_addLetter {st : St} {k l : Nat} {c : Ct} {t d : Int32} {K : Int32 → St → Prop} (hl : l < 6) (h8 : c 0 8 = nI l) (h : K (nI l) (sv st k (alF l t d c))) : w_X1_addLetter k t d (sv st k c) K := by
  unfold w_X1_addLetter
  rw [sv_0, h8]
  refine s_put hl (by decide) ?_
  rw [sv_u2 (by decide)]
  refine s_put hl (by decide) ?_
  rw [sv_u2 (by decide), sv_0, u2_off (by decide), u2_off (by decide), h8, sv_u20, nI_inc]
  exact h
def mlF (l : Nat) (t d : Int32) (mt : St) : St := u2 (u2 (u2 (u2 mt 6 l d) 7 l t) 8 l 0) 0 9 (nI (l + 1))
theorem t_addsLetter {mt : St} {l : Nat} {t d : Int32} {K : St → Prop} (hl : l < 6) (h9 : mt 0 9 = nI l) (h : K (mlF l t d mt)) : w_X9_addsLetter t d mt K := by
  have vi : vp_in (nI l) 6 := vp_in_nI hl (by decide)
  have cl : (nI l).toNatClampNeg = l := clI hl (by decide)
  unfold w_X9_addsLetter
  rw [h9, cl]
  have e1 : u2 mt 6 l d 0 9 = nI l := by rw [u2_off (by decide)]; exact h9
  rw [e1, cl]
  have e2 : u2 (u2 mt 6 l d) 7 l t 0 9 = nI l := by rw [u2_off (by decide)]; exact e1
  rw [e2, cl]
  have e3 : u2 (u2 (u2 mt 6 l d) 7 l t) 8 l 0 0 9 = nI l := by rw [u2_off (by decide)]; exact e2
  rw [e3, nI_inc]
  exact ⟨vi, vi, vi, h⟩
theorem RM_addL {n nL : Nat} {mt : St} {c : Ct} {t d : Int32} (h : RM n nL mt c) (hl : nL < 6) (ht : t ≠ -1) (hd : (-9) < d) : RM n (nL + 1) (mlF nL t d mt) (alF nL t d c) := by
  obtain ⟨g1, g2, g3, g4, g5, g6, g7, g8⟩ := h
  obtain ⟨v1, v2, v3, v4, v5, v6, v7⟩ := g1
  have a0 : ∀ i, i ≠ 8 → alF nL t d c 0 i = c 0 i := fun i hi => by unfold alF; rw [u2_0 hi, u2_off (by decide), u2_off (by decide)]
  have aj : ∀ j, j ≠ 0 → j ≠ 5 → j ≠ 6 → alF nL t d c j = c j := fun j a b e => by unfold alF; rw [u2_off a, u2_off e, u2_off b]
  have a5 : ∀ p, alF nL t d c 5 p = if p = nL then d else c 5 p := fun p => by
    unfold alF
    rw [u2_off (by decide), u2_off (by decide), u2_if]
    simp only [true_and]
  have a6 : ∀ p, alF nL t d c 6 p = if p = nL then t else c 6 p := fun p => by
    unfold alF
    rw [u2_off (by decide), u2_if, u2_off (by decide)]
    simp only [true_and]
  have eo : ob (alF nL t d c) = ob c := by unfold ob; rw [a0 9 (by decide)]
  have m0 : ∀ i, i ≠ 9 → mlF nL t d mt 0 i = mt 0 i := fun i hi => by unfold mlF; rw [u2_0 hi, u2_off (by decide), u2_off (by decide), u2_off (by decide)]
  have mj : ∀ j, j ≠ 0 → j ≠ 6 → j ≠ 7 → j ≠ 8 → mlF nL t d mt j = mt j := fun j a b e f => by unfold mlF; rw [u2_off a, u2_off f, u2_off e, u2_off b]
  have m6 : ∀ p, mlF nL t d mt 6 p = if p = nL then d else mt 6 p := fun p => by
    unfold mlF
    rw [u2_off (by decide), u2_off (by decide), u2_off (by decide), u2_if]
    simp only [true_and]
  have m7 : ∀ p, mlF nL t d mt 7 p = if p = nL then t else mt 7 p := fun p => by
    unfold mlF
    rw [u2_off (by decide), u2_off (by decide), u2_if, u2_off (by decide)]
    simp only [true_and]
  have m8 : ∀ p, mlF nL t d mt 8 p = if p = nL then 0 else mt 8 p := fun p => by
    unfold mlF
    rw [u2_off (by decide), u2_if, u2_off (by decide), u2_off (by decide)]
    simp only [true_and]
  refine ⟨vC_of v1 (by omega) (by rw [a0 7 (by decide)]; exact v3) (by unfold alF; rw [u2_same]) (fun l hl' => ?_) ⟨ob c, Nat.lt_of_lt_of_le v7 (Nat.pow_le_pow_right (by decide) (by omega)), by rw [a0 9 (by decide)]; exact v6⟩, fun p q hp hq => by rw [aj 4 (by decide) (by decide) (by decide)]; exact g2 p q hp hq, by rw [m0 8 (by decide)]; exact g3, by unfold mlF; rw [u2_same], by rw [m0 10 (by decide), a0 10 (by decide)]; exact g5, fun p hp => ?_, fun p q hp hq => ?_, fun l hl' => ?_⟩
  · rw [a5]
    by_cases e : l = nL
    · rw [if_pos e]; exact hd
    · rw [if_neg e]; exact v5 l (by omega)
  · rw [mj 2 (by decide) (by decide) (by decide) (by decide), mj 3 (by decide) (by decide) (by decide) (by decide), mj 4 (by decide) (by decide) (by decide) (by decide), m0 11 (by decide), aj 1 (by decide) (by decide) (by decide), aj 2 (by decide) (by decide) (by decide), aj 3 (by decide) (by decide) (by decide)]
    exact g6 p hp
  · rw [mj 5 (by decide) (by decide) (by decide) (by decide), aj 4 (by decide) (by decide) (by decide)]
    exact g7 p q hp hq
  · rw [m6, m7, m8, a5, a6, eo]
    by_cases e : l = nL
    · subst e
      rw [if_pos rfl, if_pos rfl, if_pos rfl, if_pos rfl, if_pos rfl, Nat.testBit_lt_two_pow v7]
      exact ⟨rfl, rfl, ht, rfl⟩
    · rw [if_neg e, if_neg e, if_neg e, if_neg e, if_neg e]
      exact g8 l (by omega)
theorem zn_addL {l : Nat} {c : Ct} {t d : Int32} (hl : l < 6) (h : zn c) : zn (alF l t d c) :=
  zn_u2 (zn_u2 (zn_u2 h (by decide) (show l < lenC 5 from hl) (fun z => absurd z (by decide))) (by decide) (show l < lenC 6 from hl) (fun z => absurd z (by decide))) (by decide) (show 8 < lenC 0 by decide) (fun _ => by decide)
theorem gC_addL {n nL t d : Nat} {c : Ct} (g : gC n nL c) (hz : nC c) (hl : nL < 6) (ht : t < 4) (hd : d ≤ 99) : gC n (nL + 1) (alF nL (nI t) (nI d) c) := by
  refine ⟨(zn_addL hl ⟨g.1, hz⟩).1, fun p hp => ?_, fun l hl' => ?_, fun l hl' => ?_, ?_⟩
  · unfold alF; rw [u2_off (by decide), u2_off (by decide), u2_off (by decide)]; exact g.2.1 p hp
  · unfold alF
    rw [u2_off (by decide)]
    by_cases e : l = nL
    · subst e; exact ⟨t, ht, u2_same⟩
    · rw [u2_ne (Or.inr e), u2_off (by decide)]; exact g.2.2.1 l (by omega)
  · unfold alF
    rw [u2_off (by decide), u2_off (by decide)]
    by_cases e : l = nL
    · subst e; exact ⟨d, hd, u2_same⟩
    · rw [u2_ne (Or.inr e)]; exact g.2.2.2.1 l (by omega)
  · unfold alF; rw [u2_0 (by decide), u2_off (by decide), u2_off (by decide)]; exact g.2.2.2.2
theorem kd6 {x : Int32} : (x < 0 ∨ ¬ x < 6) ↔ inF x 0 5 = 0 := by
  unfold inF
  constructor
  · intro h
    by_cases h1 : x < 0
    · rw [if_pos h1]
    · rw [if_neg h1, if_pos]
      have h2 := i_nlt.mp (h.resolve_left h1)
      exact Int32.lt_of_lt_of_le (show (5 : Int32) < 6 by decide) h2
  · intro h
    by_cases h1 : x < 0
    · exact Or.inl h1
    · refine Or.inr fun z => ?_
      rw [if_neg h1] at h
      by_cases h2 : 5 < x
      · obtain ⟨j, hj, rfl⟩ := nI_of h1
        have a := (nJ_lt hj (show 6 < 2147483648 by decide)).mp z
        have b := (nJ_lt (show 5 < 2147483648 by decide) hj).mp h2
        omega
      · rw [if_neg h2] at h; exact absurd h (by decide)
theorem n6 {n : Nat} (hn : n ≤ 6) : nI n = 6 ↔ n = 6 := ⟨fun z => nI_eqI (by omega) (by decide) (show nI n = nI 6 from z), fun z => by rw [z]; rfl⟩
theorem sim_keeper {st mt : St} (h : R st mt) (x1 x2 x3 : Int32) : w_X8_keeper x1 x2 x3 st (fun r st' => w_X9_keeper x1 x2 x3 mt (fun r' mt' => r = r' ∧ R st' mt')) := by
  obtain ⟨n, nL, hm, g, hn, hL, h7, h8, k8, k9⟩ := h.ctx
  -- the check's refusals
  have no : ∀ (K : Int32 → St → Prop) (r : Int32), rOk r → K r (refS mt r) → w_X9_keeper_b56 x1 x2 x3 K r mt := fun K r hr hK => by
    rw [w_X9_keeper_b56]
    exact n1 hr.ne (t_no hr hK)
  have no41 : ∀ (K : Int32 → St → Prop) (r : Int32), rOk r → K r (refS mt r) → w_X9_keeper_b41 x1 x2 x3 K r mt := fun K r hr hK => by
    rw [w_X9_keeper_b41]
    exact n2 hr.ne (no K r hr hK)
  have no21 : ∀ (K : Int32 → St → Prop) (r : Int32), rOk r → K r (refS mt r) → w_X9_keeper_b21 x1 x2 x3 K r mt := fun K r hr hK => by
    rw [w_X9_keeper_b21]
    exact n2 hr.ne (no41 K r hr hK)
  have b34 : ∀ v s : Int32, (v = if n = 6 then -6 else 0) → (s = if inF x1 0 5 = 0 then -2 else 0) → w_X8_keeper_b34 x1 x2 x3 (fun r st' => w_X9_keeper x1 x2 x3 mt (fun r' mt' => r = r' ∧ R st' mt')) v s st := fun v s ev es => by
    rw [w_X8_keeper_b34]
    refine s_range (s_firstOf (s_townRef (s_firstOf ?_)))
    by_cases e1 : inF x1 0 5 = 0
    · rw [if_pos e1] at es
      subst es
      rw [f1 (show ¬ (-2 : Int32) = 0 by decide), f1 (show ¬ (-2 : Int32) = 0 by decide)]
      refine n1 (by decide) (s_refused rO2 ?_)
      unfold w_X9_keeper
      exact t_isIn' (y2 e1 (no21 _ _ rO2 ⟨rfl, R_ref h rO2⟩))
    · rw [if_neg e1] at es
      subst es
      by_cases e2 : rangeF x2 0 9 = 0
      · rw [e2, f00]
        by_cases e3 : n = 6
        · rw [if_pos e3] at ev
          subst ev
          rw [f1 (by decide)]
          refine n1 (by decide) (s_refused rO6 ?_)
          unfold w_X9_keeper
          refine t_isIn' (n2 e1 (t_bound ?_))
          rw [e2, w_X9_keeper_b21, k8]
          exact y2 rfl (y2 ((n6 hn).mpr e3) (no41 _ _ rO6 ⟨rfl, R_ref h rO6⟩))
        · rw [if_neg e3] at ev
          subst ev
          have chk : ∀ K : Int32 → St → Prop, (townF x3 = 0 → w_X9_keeper_b56 x1 x2 x3 K (-1) mt) → (¬ townF x3 = 0 → w_X9_keeper_b56 x1 x2 x3 K 0 mt) → w_X9_keeper x1 x2 x3 mt K := fun K q1 q2 => by
            unfold w_X9_keeper
            refine t_isIn' (n2 e1 (t_bound ?_))
            rw [e2, w_X9_keeper_b21, k8]
            refine y2 rfl (n2 (fun z => e3 ((n6 hn).mp z)) ?_)
            rw [w_X9_keeper_b41]
            exact y2 rfl (t_isTown ⟨q2, q1⟩)
          by_cases e4 : townF x3 = 0
          · rw [nb0 e4, f01 (by decide)]
            exact n1 (by decide) (s_refused rO1 (chk _ (fun _ => no _ _ rO1 ⟨rfl, R_ref h rO1⟩) (fun z => absurd e4 z)))
          · rw [nb1 e4, f00]
            obtain ⟨t, ht, rfl⟩ := town_nI e4
            refine y1 rfl ?_
            unfold w_X5_forget
            have hR := R_forget h
            have cF : cv (u2 st 2 2 0) 11 = cv st 11 := cv_u2 (by decide)
            refine at11 (P := fun s => w_X1_addKeeper 11 x1 x2 (nI t) s _) (s_addKeeper (n := n) (by omega) (by rw [cF]; exact h7) ?_)
            rw [cF]
            refine chk _ (fun z => absurd z e4) (fun _ => ?_)
            rw [w_X9_keeper_b56]
            refine y1 rfl (t_addsKeeper (n := n) (by omega) (by rw [u2_0 (by decide)]; exact k8) ?_)
            have hm' : RM n nL (u2 mt 0 23 0) (cv st 11) := RM_off hm (fun j a b => u2_off (by omega)) (fun i a b => u2_0 (by omega))
            have c' : cv (sv (u2 st 2 2 0) 11 (akF n x1 x2 (nI t) (cv st 11))) 11 = akF n x1 x2 (nI t) (cv st 11) := cv_sv (zn_add (by omega) ⟨g.1, nC_cv⟩).2
            refine ⟨?_, R_set hR sv11_hx (by rw [c']; exact RM_add hm' (by rw [u2_0 (by decide)]; exact out0 h) (by omega) (tn1 t ht)) (by rw [c']; exact gC_add g nC_cv (by omega) ht) (fun a p1 _ _ _ _ _ _ => ms_0 p1) (fun j p q r => ms_off p (by omega) (by omega) (by omega) (by omega))⟩
            have e8 : msF n x1 x2 (nI t) (u2 mt 0 23 0) 0 8 = nI (n + 1) := by unfold msF; rw [u2_same]
            rw [e8]
            exact (nI_pred n).symm
      · have ef : firstF 0 (rangeF x2 0 9) v = rangeF x2 0 9 := f01 e2 v
        rw [ef, f1 e2]
        refine n1 e2 (s_refused (rg_ok e2) ?_)
        unfold w_X9_keeper
        exact t_isIn' (n2 e1 (t_bound (no21 _ _ (rg_ok e2) ⟨rfl, R_ref h (rg_ok e2)⟩)))
  have b16 : ∀ v : Int32, (v = if n = 6 then -6 else 0) → w_X8_keeper_b16 x1 x2 x3 (fun r st' => w_X9_keeper x1 x2 x3 mt (fun r' mt' => r = r' ∧ R st' mt')) v st := fun v ev => by
    rw [w_X8_keeper_b16]
    refine ⟨fun z => ?_, fun z => ⟨fun z2 => b34 v 0 ev ?_, fun z2 => ?_⟩⟩
    · rw [w_X8_keeper_b28]; exact b34 v _ ev (by rw [if_pos (kd6.mp (Or.inl z))])
    · rw [if_neg (fun y => (kd6.mpr y).elim z (fun w => w z2))]
    · rw [w_X8_keeper_b28]; exact b34 v _ ev (by rw [if_pos (kd6.mp (Or.inr z2))])
  unfold w_X8_keeper w_X1_hasKeeperRoom
  rw [h7]
  refine ⟨fun z => y1 rfl (b16 _ ?_), fun z => n1 (by decide) (b16 _ ?_)⟩
  · rw [if_pos]
    have := (nJ_le (a := 6) (by decide) (by omega)).mp z
    omega
  · rw [if_neg]
    intro e
    exact z (by rw [e]; decide)
theorem sim_letter {st mt : St} (h : R st mt) (x1 x2 : Int32) : w_X8_letter x1 x2 st (fun r st' => w_X9_letter x1 x2 mt (fun r' mt' => r = r' ∧ R st' mt')) := by
  obtain ⟨n, nL, hm, g, hn, hL, h7, h8, k8, k9⟩ := h.ctx
  have no : ∀ (K : Int32 → St → Prop) (r : Int32), rOk r → K r (refS mt r) → w_X9_letter_b35 x1 x2 K r mt := fun K r hr hK => by
    rw [w_X9_letter_b35]
    exact n1 hr.ne (t_no hr hK)
  have no18 : ∀ (K : Int32 → St → Prop) (r : Int32), rOk r → K r (refS mt r) → w_X9_letter_b18 x1 x2 K r mt := fun K r hr hK => by
    rw [w_X9_letter_b18]
    exact n2 hr.ne (no K r hr hK)
  have b16 : ∀ v : Int32, (v = if nL = 6 then -6 else 0) → w_X8_letter_b16 x1 x2 (fun r st' => w_X9_letter x1 x2 mt (fun r' mt' => r = r' ∧ R st' mt')) v st := fun v ev => by
    rw [w_X8_letter_b16]
    refine s_townRef (s_range (s_firstOf ?_))
    by_cases e1 : townF x1 = 0
    · rw [nb0 e1, f1 (by decide)]
      refine n1 (by decide) (s_refused rO1 ?_)
      unfold w_X9_letter
      exact t_isTown (y2 e1 (no18 _ _ rO1 ⟨rfl, R_ref h rO1⟩))
    · rw [nb1 e1]
      by_cases e2 : rangeF x2 0 99 = 0
      · rw [e2, f00]
        by_cases e3 : nL = 6
        · rw [if_pos e3] at ev
          subst ev
          refine n1 (by decide) (s_refused rO6 ?_)
          unfold w_X9_letter
          refine t_isTown (n2 e1 (t_bound ?_))
          rw [e2, w_X9_letter_b18, k9]
          exact y2 rfl (y2 ((n6 hL).mpr e3) (no _ _ rO6 ⟨rfl, R_ref h rO6⟩))
        · rw [if_neg e3] at ev
          subst ev
          obtain ⟨t, ht, rfl⟩ := town_nI e1
          obtain ⟨d, -, hd, rfl⟩ := rg_nI (a := 0) (b := 99) (by decide) (by decide) e2
          refine y1 rfl ?_
          unfold w_X5_forget
          have hR := R_forget h
          have cF : cv (u2 st 2 2 0) 11 = cv st 11 := cv_u2 (by decide)
          refine at11 (P := fun s => w_X1_addLetter 11 (nI t) (nI d) s _) (s_addLetter (l := nL) (by omega) (by rw [cF]; exact h8) ?_)
          rw [cF]
          unfold w_X9_letter
          refine t_isTown (n2 e1 (t_bound ?_))
          rw [e2, w_X9_letter_b18, k9]
          refine y2 rfl (n2 (fun z => e3 ((n6 hL).mp z)) ?_)
          rw [w_X9_letter_b35]
          refine y1 rfl (t_addsLetter (l := nL) (by omega) (by rw [u2_0 (by decide)]; exact k9) ?_)
          have hm' : RM n nL (u2 mt 0 23 0) (cv st 11) := RM_off hm (fun j a b => u2_off (by omega)) (fun i a b => u2_0 (by omega))
          have c' : cv (sv (u2 st 2 2 0) 11 (alF nL (nI t) (nI d) (cv st 11))) 11 = alF nL (nI t) (nI d) (cv st 11) := cv_sv (zn_addL (by omega) ⟨g.1, nC_cv⟩).2
          have d9 : (-9 : Int32) < nI d := Int32.lt_of_lt_of_le (show (-9 : Int32) < 0 by decide) (n_le0 (by omega))
          refine ⟨?_, R_set hR sv11_hx (by rw [c']; exact RM_addL hm' (by omega) (tn1 t ht) d9) (by rw [c']; exact gC_addL g nC_cv (by omega) ht hd) (fun a p1 p2 _ _ _ _ _ => by unfold mlF; rw [u2_0 p2, u2_off (by decide), u2_off (by decide), u2_off (by decide)]) (fun j p q r => by unfold mlF; rw [u2_off p, u2_off (by omega), u2_off (by omega), u2_off (by omega)])⟩
          have e9 : mlF nL (nI t) (nI d) (u2 mt 0 23 0) 0 9 = nI (nL + 1) := by unfold mlF; rw [u2_same]
          rw [e9]
          exact (nI_pred nL).symm
      · have ef : firstF 0 (rangeF x2 0 99) v = rangeF x2 0 99 := f01 e2 v
        rw [ef]
        refine n1 e2 (s_refused (rg_ok e2) ?_)
        unfold w_X9_letter
        exact t_isTown (n2 e1 (t_bound (no18 _ _ (rg_ok e2) ⟨rfl, R_ref h (rg_ok e2)⟩)))
  unfold w_X8_letter w_X1_hasLetterRoom
  rw [h8]
  refine ⟨fun z => y1 rfl (b16 _ ?_), fun z => n1 (by decide) (b16 _ ?_)⟩
  · rw [if_pos]
    have := (nJ_le (a := 6) (by decide) (by omega)).mp z
    omega
  · rw [if_neg]
    intro e
    exact z (by rw [e]; decide)
end
section
/-! pure part: a land told in letters: the form -/
def sgF (tp : Nat → Int32) (s a : Nat) : Int32 := if a < s then tp a else -1
def isDg (x : Int32) : Bool := decide (¬ x < 48) && decide (¬ 57 < x)
def dN (x : Int32) : Nat := (x - 48).toNatClampNeg
theorem dg_nI {x : Int32} (h : isDg x = true) : ∃ d, d ≤ 9 ∧ x = nI (48 + d) := by
  have h' := Bool.and_eq_true_iff.mp h
  obtain ⟨j, h1, h2, rfl⟩ := i2le (a := 48) (b := 57) (by decide) (by decide) (i_nlt.mp (of_decide_eq_true h'.1)) (i_nlt.mp (of_decide_eq_true h'.2))
  exact ⟨j - 48, by omega, by congr 1; omega⟩
theorem dN_of {d : Nat} (h : d ≤ 9) : dN (nI (48 + d)) = d ∧ nI (48 + d) - 48 = nI d := by
  have e : nI (48 + d) - 48 = nI d := by
    have := nI_sub' (a := 48 + d) (b := 48) (by omega)
    rw [show 48 + d - 48 = d by omega] at this
    exact this
  unfold dN
  rw [e]
  exact ⟨clI (show d < 10 by omega) (by decide), rfl⟩
theorem dg_v {x : Int32} (h : isDg x = true) : x - 48 = nI (dN x) ∧ dN x ≤ 9 := by
  obtain ⟨d, hd, rfl⟩ := dg_nI h
  have := dN_of hd
  rw [this.1]
  exact ⟨this.2, hd⟩
def dgN (x : Int32) : Nat := if x = 103 then 2 else if x = 104 then 4 else if x = 107 then 3 else if x = 108 then 3 else if x = 115 then 1 else if x = 119 then 2 else 0
theorem dgN_le (x : Int32) : dgN x ≤ 4 := by
  unfold dgN
  split <;> (try split) <;> (try split) <;> (try split) <;> (try split) <;> (try split) <;> omega
theorem s_digitsBehind {x : Int32} {st : St} {K : Int32 → St → Prop} (h : K (nI (dgN x)) st) : w_X7_digitsBehind x st K := by
  unfold w_X7_digitsBehind
  unfold dgN at h
  refine ⟨fun z => ?_, fun z0 => ⟨fun z => ?_, fun z1 => ⟨fun z => ?_, fun z2 => ⟨fun z => ?_, fun z3 => ⟨fun z => ?_, fun z4 => ⟨fun z => ?_, fun z5 => ?_⟩⟩⟩⟩⟩⟩
  · rw [if_pos z] at h; exact h
  · rw [if_neg z0, if_pos z] at h; exact h
  · rw [if_neg z0, if_neg z1, if_pos z] at h; exact h
  · rw [if_neg z0, if_neg z1, if_neg z2, if_pos z] at h; exact h
  · rw [if_neg z0, if_neg z1, if_neg z2, if_neg z3, if_pos z] at h; exact h
  · rw [if_neg z0, if_neg z1, if_neg z2, if_neg z3, if_neg z4, if_pos z] at h; exact h
  · rw [if_neg z0, if_neg z1, if_neg z2, if_neg z3, if_neg z4, if_neg z5] at h; exact h
theorem s_sign {st : St} {s a : Nat} {K : Int32 → St → Prop} (hs : s ≤ 96) (e : st 4 1 = nI s) (ha : a < 2147483648) (h : K (sgF (st 5) s a) st) : w_X7_sign (nI a) st K := by
  unfold w_X7_sign
  rw [e]
  unfold sgF at h
  by_cases z : a < s
  · rw [if_pos z] at h
    exact n1 (nI_ge z (by omega)) (s_at (by omega) (by decide) h)
  · rw [if_neg z] at h
    exact y1 (nI_le (by omega) ha) h
theorem s_isDigit {st : St} {s a : Nat} {K : Int32 → St → Prop} (hs : s ≤ 96) (e : st 4 1 = nI s) (ha : a < 2147483648) (h : K (if isDg (sgF (st 5) s a) then 1 else 0) st) : w_X7_isDigit (nI a) st K := by
  unfold w_X7_isDigit
  refine s_sign hs e ha ⟨fun z => ?_, fun z => s_sign hs e ha ⟨fun z2 => ?_, fun z2 => ?_⟩⟩
  · rw [if_neg (by unfold isDg; rw [decide_eq_false (fun y => y z), Bool.false_and]; decide)] at h; exact h
  · rw [if_neg (by unfold isDg; rw [decide_eq_false (p := ¬ 57 < _) (fun y => y z2), Bool.and_false]; decide)] at h; exact h
  · rw [if_pos (by unfold isDg; rw [decide_eq_true z, decide_eq_true z2]; rfl)] at h; exact h
/-- the first sign from a on that is no digit -/
def ndP (sg : Nat → Int32) (j : Nat) : Bool := !isDg (sg j)
/-- where the statement at a is broken; none: -9 -/
def bpV (sg : Nat → Int32) (a : Nat) : Int32 := if dgN (sg a) = 0 then nI a else if fstG (ndP sg) (dgN (sg a)) (a + 1) = -9 then (if sg (a + dgN (sg a) + 1) = 59 then -9 else nI (a + dgN (sg a) + 1)) else fstG (ndP sg) (dgN (sg a)) (a + 1)
def PL (sg : Nat → Int32) : Nat → Nat
  | 0 => 0
  | i + 1 => PL sg i + dgN (sg (PL sg i)) + 2
theorem PL_le (sg : Nat → Int32) : ∀ i, 2 * i ≤ PL sg i ∧ PL sg i ≤ 6 * i
  | 0 => ⟨Nat.le_refl 0, Nat.le_refl 0⟩
  | i + 1 => by
    have := PL_le sg i
    have := dgN_le (sg (PL sg i))
    rw [PL]
    omega
def stP (sg : Nat → Int32) (s i : Nat) : Bool := decide (s ≤ PL sg i) || decide (¬ bpV sg (PL sg i) = -9)
theorem st_ex {sg : Nat → Int32} {s : Nat} (hs : s ≤ 96) : ∃ N, N ≤ 48 ∧ stP sg s N = true ∧ ∀ i, i < N → stP sg s i = false := by
  have p48 : stP sg s 48 = true := by
    unfold stP
    rw [decide_eq_true (by have := (PL_le sg 48).1; omega), Bool.true_or]
  rcases fstG_some (P := stP sg s) 96 0 with ⟨-, h2⟩ | ⟨N, h1, h2, h3, h4, h5⟩
  · rw [h2 48 (by decide) (by decide)] at p48; cases p48
  · refine ⟨N, Nat.not_lt.mp fun z => ?_, h4, fun i hi => h5 i (Nat.zero_le i) hi⟩
    rw [h5 48 (Nat.zero_le _) z] at p48; cases p48
theorem st_go {sg : Nat → Int32} {s i : Nat} (h : stP sg s i = false) : PL sg i < s ∧ bpV sg (PL sg i) = -9 := by
  unfold stP at h
  have h' := Bool.or_eq_false_iff.mp h
  exact ⟨Nat.not_le.mp (of_decide_eq_false h'.1), Classical.not_not.mp (of_decide_eq_false h'.2)⟩
theorem bp_d {sg : Nat → Int32} {a : Nat} (h : bpV sg a = -9) (ha : a < 1000) : ¬ dgN (sg a) = 0 ∧ fstG (ndP sg) (dgN (sg a)) (a + 1) = -9 ∧ sg (a + dgN (sg a) + 1) = 59 := by
  have hd := dgN_le (sg a)
  unfold bpV at h
  by_cases z : dgN (sg a) = 0
  · rw [if_pos z] at h; exact absurd h (ne9 (by omega))
  · rw [if_neg z] at h
    by_cases z2 : fstG (ndP sg) (dgN (sg a)) (a + 1) = -9
    · rw [if_pos z2] at h
      by_cases z3 : sg (a + dgN (sg a) + 1) = 59
      · exact ⟨z, z2, z3⟩
      · rw [if_neg z3] at h; exact absurd h (ne9 (by omega))
    · rw [if_neg z2] at h; exact absurd h z2
/-- the class looks for a break -/
theorem x_brokenPlace {st : St} {s N : Nat} {K : Int32 → St → Prop} (hs : s ≤ 96) (h0 : 0 < s) (e : st 4 1 = nI s) (hN : N ≤ 48) (p1 : stP (sgF (st 5) s) s N = true) (p2 : ∀ i, i < N → stP (sgF (st 5) s) s i = false)
    (hA : PL (sgF (st 5) s) N < s → K (bpV (sgF (st 5) s) (PL (sgF (st 5) s) N)) st) (hB : s ≤ PL (sgF (st 5) s) N → K (-1) st) : w_X7_brokenPlace st K := by
  unfold w_X7_brokenPlace
  rw [e]
  refine n2 (fun z => absurd ((nI_inj0 (by omega)).mp z) (by omega)) ?_
  refine lo_rel (fun m i (_ : Unit) => w_X7_brokenPlace_L13 K m (nI (PL (sgF (st 5) s) i)) (nI i) st) (fun _ _ => True) () (Nat.zero_le N) trivial (fun _ _ m => ?_) (fun m i _ _ hi _ hw => ?_)
  · have pl := PL_le (sgF (st 5) s) N
    have hd := dgN_le (sgF (st 5) s (PL (sgF (st 5) s) N))
    rw [w_X7_brokenPlace_L13, w_X7_brokenPlace_L13q, e]
    refine n1 (nI_ge (show N < 96 by omega) (by decide)) ?_
    by_cases z : s ≤ PL (sgF (st 5) s) N
    · exact y1 (nI_le z (by omega)) (hB z)
    · refine n1 (nI_ge (by omega) (by omega)) (s_sign hs e (by omega) (s_digitsBehind ?_))
      have hA' := hA (by omega)
      unfold bpV at hA'
      by_cases z1 : dgN (sgF (st 5) s (PL (sgF (st 5) s) N)) = 0
      · rw [if_pos z1] at hA'
        rw [z1]
        exact y2 rfl hA'
      · rw [if_neg z1] at hA'
        refine n2 (fun y => z1 ((nI_inj0 (by omega)).mp y)) ?_
        rw [nI_add, nI_inc, nI_inc]
        refine lo_fst (W := fun k j => w_X7_brokenPlace_L54 (fun v1 v2 st => w_X7_brokenPlace_L13 K m v1 v2 st) K k (nI N) (nI (PL (sgF (st 5) s) N + dgN (sgF (st 5) s (PL (sgF (st 5) s) N)) + 1)) (nI j) st) (P := ndP (sgF (st 5) s)) (Q := fun v => v = fstG (ndP (sgF (st 5) s)) (dgN (sgF (st 5) s (PL (sgF (st 5) s) N))) (PL (sgF (st 5) s) N + 1)) (r := PL (sgF (st 5) s) N + dgN (sgF (st 5) s (PL (sgF (st 5) s) N)) + 1) (by omega) (fun hQ => ⟨1, ?_⟩) (fun j h1 h2 hP hQ => ⟨1, ?_⟩) (fun k j h1 h2 hP hk => ?_) (by congr 1; omega)
        · rw [w_X7_brokenPlace_L54, w_X7_brokenPlace_L54q]
          refine y1 (nI_le (Nat.le_refl _) (by omega)) ?_
          rw [w_X7_brokenPlace_b79]
          refine s_sign hs e (by omega) ?_
          rw [if_pos hQ.symm] at hA'
          by_cases z3 : sgF (st 5) s (PL (sgF (st 5) s) N + dgN (sgF (st 5) s (PL (sgF (st 5) s) N)) + 1) = 59
          · rw [if_pos z3] at hA'
            exfalso
            have : bpV (sgF (st 5) s) (PL (sgF (st 5) s) N) = -9 := by
              unfold bpV
              rw [if_neg z1, if_pos hQ.symm, if_pos z3]
            unfold stP at p1
            rw [decide_eq_false z, this] at p1
            simp at p1
          · rw [if_neg z3] at hA'
            exact n1 z3 hA'
        · rw [w_X7_brokenPlace_L54, w_X7_brokenPlace_L54q]
          refine n1 (nI_ge h2 (by omega)) (s_isDigit hs e (by omega) ?_)
          have hP' : isDg (sgF (st 5) s j) = false := by
            unfold ndP at hP
            cases y : isDg (sgF (st 5) s j) with
            | false => rfl
            | true => rw [y] at hP; cases hP
          rw [if_neg (by rw [hP']; decide)]
          rw [if_neg (by rw [← hQ]; exact ne9 (by omega)), ← hQ] at hA'
          exact y2 rfl hA'
        · rw [w_X7_brokenPlace_L54, w_X7_brokenPlace_L54q]
          refine n1 (nI_ge h2 (by omega)) (s_isDigit hs e (by omega) ?_)
          have hP' : isDg (sgF (st 5) s j) = true := by
            unfold ndP at hP
            cases y : isDg (sgF (st 5) s j) with
            | true => rfl
            | false => rw [y] at hP; cases hP
          rw [if_pos hP', nI_inc]
          exact n2 (by decide) hk
  · have pl := PL_le (sgF (st 5) s) i
    have hd := dgN_le (sgF (st 5) s (PL (sgF (st 5) s) i))
    obtain ⟨g1, g2⟩ := st_go (p2 i hi)
    obtain ⟨b1, b2, b3⟩ := bp_d g2 (by omega)
    rw [w_X7_brokenPlace_L13, w_X7_brokenPlace_L13q, e]
    refine n1 (nI_ge (show i < 96 by omega) (by decide)) (n1 (nI_ge g1 (by omega)) (s_sign hs e (by omega) (s_digitsBehind ?_)))
    refine n2 (fun y => b1 ((nI_inj0 (by omega)).mp y)) ?_
    rw [nI_add, nI_inc, nI_inc]
    refine lo_fst (W := fun k j => w_X7_brokenPlace_L54 (fun v1 v2 st => w_X7_brokenPlace_L13 K m v1 v2 st) K k (nI i) (nI (PL (sgF (st 5) s) i + dgN (sgF (st 5) s (PL (sgF (st 5) s) i)) + 1)) (nI j) st) (P := ndP (sgF (st 5) s)) (Q := fun v => v = -9) (r := PL (sgF (st 5) s) i + dgN (sgF (st 5) s (PL (sgF (st 5) s) i)) + 1) (by omega) (fun hQ => ⟨1, ?_⟩) (fun j h1 h2 hP hQ => absurd hQ (ne9 (by omega))) (fun k j h1 h2 hP hk => ?_) (by rw [show PL (sgF (st 5) s) i + dgN (sgF (st 5) s (PL (sgF (st 5) s) i)) + 1 - (PL (sgF (st 5) s) i + 1) = dgN (sgF (st 5) s (PL (sgF (st 5) s) i)) by omega]; exact b2)
    · rw [w_X7_brokenPlace_L54, w_X7_brokenPlace_L54q]
      refine y1 (nI_le (Nat.le_refl _) (by omega)) ?_
      rw [w_X7_brokenPlace_b79]
      refine s_sign hs e (by omega) (y1 b3 ?_)
      rw [nI_inc, nI_inc]
      exact hw () trivial
    · rw [w_X7_brokenPlace_L54, w_X7_brokenPlace_L54q]
      refine n1 (nI_ge h2 (by omega)) (s_isDigit hs e (by omega) ?_)
      have hP' : isDg (sgF (st 5) s j) = true := by
        unfold ndP at hP
        cases y : isDg (sgF (st 5) s j) with
        | true => rfl
        | false => rw [y] at hP; cases hP
      rw [if_pos hP', nI_inc]
      exact n2 (by decide) hk
/-! the check reads -/
/-- read on: frame, place, told -/
def RF (t t' : St) (p a : Nat) : Prop := (∀ j, j ≠ 0 → j ≠ 12 → t' j = t j) ∧ (∀ x, x ≠ 17 → t' 0 x = t 0 x) ∧ t' 0 17 = nI a ∧ ∀ x, (x < p ∨ p + 3 ≤ x) → t' 12 x = t 12 x
theorem RF.tr {t t' t'' : St} {p a b : Nat} (h : RF t t' p a) (h' : RF t' t'' p b) : RF t t'' p b :=
  ⟨fun j x y => (h'.1 j x y).trans (h.1 j x y), fun x y => (h'.2.1 x y).trans (h.2.1 x y), h'.2.2.1, fun x y => (h'.2.2.2 x y).trans (h.2.2.2 x y)⟩
theorem t_next {t : St} {s a : Nat} {K : Int32 → St → Prop} (hs : s ≤ 96) (ha : a < 2147483648) (e1 : t 0 16 = nI s) (e2 : t 0 17 = nI a) (h : K (sgF (t 9) s a) t) : w_X9_next t K := by
  unfold w_X9_next
  rw [e1, e2]
  unfold sgF at h
  by_cases z : a < s
  · rw [if_pos z] at h
    refine n1 (nI_ge z (by omega)) ⟨vp_in_nI (by omega) (by decide), ?_⟩
    rw [clI (show a < 96 by omega) (by decide)]
    exact h
  · rw [if_neg z] at h
    exact y1 (nI_le (by omega) ha) h
theorem t_dig {t : St} {s a : Nat} {K : Int32 → St → Prop} (hs : s ≤ 96) (ha : a < 2147483648) (e1 : t 0 16 = nI s) (e2 : t 0 17 = nI a) (h : K (if isDg (sgF (t 9) s a) then 1 else 0) t) : w_X9_next t (fun r12 st12 => w_X9_isIn r12 48 57 st12 K) := by
  refine t_next hs ha e1 e2 (t_isIn ?_)
  unfold isDg at h
  by_cases z : sgF (t 9) s a < 48
  · rw [if_pos z]
    rw [decide_eq_false (fun y => y z), Bool.false_and, if_neg (by decide)] at h
    exact h
  · rw [if_neg z]
    rw [decide_eq_true z, Bool.true_and] at h
    by_cases z2 : 57 < sgF (t 9) s a
    · rw [if_pos z2]
      rw [decide_eq_false (fun y => y z2), if_neg (by decide)] at h
      exact h
    · rw [if_neg z2]
      rw [decide_eq_true z2, if_pos rfl] at h
      exact h
/-- one digit read -/
theorem t_rd1 {t : St} {s a p q : Nat} {K : Int32 → St → Prop} (hs : s ≤ 96) (ha : a < 1000) (hq : q < 144) (hpq : p ≤ q ∧ q < p + 3) (e1 : t 0 16 = nI s) (e2 : t 0 17 = nI a)
    (h1 : isDg (sgF (t 9) s a) = true → ∀ t', RF t t' p (a + 1) → t' 12 q = nI (dN (sgF (t 9) s a)) → (∀ x, x ≠ q → t' 12 x = t 12 x) → K 1 t') (h0 : isDg (sgF (t 9) s a) = false → K 0 t) : w_X9_readsDigits (nI q) 1 t K := by
  unfold w_X9_readsDigits
  refine ⟨2, ?_⟩
  rw [w_X9_readsDigits_L5, w_X9_readsDigits_L5q]
  refine n1 (by decide) (t_dig hs (by omega) e1 e2 ?_)
  cases e : isDg (sgF (t 9) s a) with
  | false =>
    rw [if_neg (by decide)]
    exact y2 rfl (h0 e)
  | true =>
    rw [if_pos rfl]
    refine n2 (by decide) (t_next hs (by omega) e1 e2 ?_)
    rw [w_X9_readsDigits_L5, w_X9_readsDigits_L5q]
    refine y1 (by decide) ?_
    rw [w_X9_readsDigits_b56, clI hq (by decide), e2, nI_inc]
    refine ⟨vp_in_nI hq (by decide), ?_⟩
    have ev : ((10 : Int32) * 0 + sgF (t 9) s a) - 48 = nI (dN (sgF (t 9) s a)) := by
      rw [show (10 : Int32) * 0 = 0 by decide, Int32.zero_add]
      exact (dg_v e).1
    rw [ev]
    refine h1 e _ ⟨fun j x y => by rw [u2_off y, u2_off x], fun x y => by rw [u2_off (by decide), u2_0 y], by rw [u2_off (by decide), u2_same], fun x y => by rw [u2_ne (Or.inr (by omega)), u2_off (by decide)]⟩ u2_same (fun x y => by rw [u2_ne (Or.inr y), u2_off (by decide)])
/-- two digits read -/
theorem t_rd2 {t : St} {s a p q : Nat} {K : Int32 → St → Prop} (hs : s ≤ 96) (ha : a < 1000) (hq : q < 144) (hpq : p ≤ q ∧ q < p + 3) (e1 : t 0 16 = nI s) (e2 : t 0 17 = nI a)
    (h1 : isDg (sgF (t 9) s a) = true → isDg (sgF (t 9) s (a + 1)) = true → ∀ t', RF t t' p (a + 2) → t' 12 q = nI (10 * dN (sgF (t 9) s a) + dN (sgF (t 9) s (a + 1))) → (∀ x, x ≠ q → t' 12 x = t 12 x) → K 1 t') (h0 : isDg (sgF (t 9) s a) = false → K 0 t)
    (h2 : isDg (sgF (t 9) s a) = true → isDg (sgF (t 9) s (a + 1)) = false → ∀ t', RF t t' p (a + 1) → K 0 t') : w_X9_readsDigits (nI q) 2 t K := by
  unfold w_X9_readsDigits
  refine ⟨3, ?_⟩
  rw [w_X9_readsDigits_L5, w_X9_readsDigits_L5q]
  refine n1 (by decide) (t_dig hs (by omega) e1 e2 ?_)
  cases e : isDg (sgF (t 9) s a) with
  | false =>
    rw [if_neg (by decide)]
    exact y2 rfl (h0 e)
  | true =>
    rw [if_pos rfl]
    refine n2 (by decide) (t_next hs (by omega) e1 e2 ?_)
    rw [e2, nI_inc]
    have ev : ((10 : Int32) * 0 + sgF (t 9) s a) - 48 = nI (dN (sgF (t 9) s a)) := by
      rw [show (10 : Int32) * 0 = 0 by decide, Int32.zero_add]
      exact (dg_v e).1
    rw [ev, w_X9_readsDigits_L5, w_X9_readsDigits_L5q]
    have f1 : u2 t 0 17 (nI (a + 1)) 0 16 = nI s := by rw [u2_0 (by decide)]; exact e1
    have f9 : u2 t 0 17 (nI (a + 1)) 9 = t 9 := u2_off (by decide)
    refine n1 (by decide) (t_dig hs (by omega) f1 u2_same ?_)
    rw [f9]
    cases e' : isDg (sgF (t 9) s (a + 1)) with
    | false =>
      rw [if_neg (by decide)]
      exact y2 rfl (h2 e e' _ ⟨fun j x y => u2_off x, fun x y => u2_0 y, u2_same, fun x y => by rw [u2_off (by decide)]⟩)
    | true =>
      rw [if_pos rfl]
      refine n2 (by decide) (t_next hs (by omega) f1 u2_same ?_)
      rw [f9, u2_same, u2_u2, nI_inc, w_X9_readsDigits_L5, w_X9_readsDigits_L5q]
      refine y1 (by decide) ?_
      rw [w_X9_readsDigits_b56, clI hq (by decide)]
      refine ⟨vp_in_nI hq (by decide), ?_⟩
      have ev2 : ((10 : Int32) * nI (dN (sgF (t 9) s a)) + sgF (t 9) s (a + 1)) - 48 = nI (10 * dN (sgF (t 9) s a) + dN (sgF (t 9) s (a + 1))) := by
        obtain ⟨d, hd, ed⟩ := dg_nI e'
        have e10 : (10 : Int32) * nI (dN (sgF (t 9) s a)) = nI (10 * dN (sgF (t 9) s a)) := nI_mul 10 _
        rw [ed, (dN_of hd).1, e10, nI_add]
        have := nI_sub' (a := 10 * dN (sgF (t 9) s a) + (48 + d)) (b := 48) (by omega)
        rw [show 10 * dN (sgF (t 9) s a) + (48 + d) - 48 = 10 * dN (sgF (t 9) s a) + d by omega] at this
        exact this
      rw [ev2]
      refine h1 e e' _ ⟨fun j x y => by rw [u2_off y, u2_off x], fun x y => by rw [u2_off (by decide), u2_0 y], by rw [u2_off (by decide), u2_same], fun x y => by rw [u2_ne (Or.inr (by omega)), u2_off (by decide)]⟩ u2_same (fun x y => by rw [u2_ne (Or.inr y), u2_off (by decide)])
end
section
/-! pure part: a land told in letters: statements read by the check -/
def toldK (sg : Nat → Int32) (k a p : Nat) (f : Nat → Int32) : Prop :=
  (k = 107 → f p = nI (dN (sg a)) ∧ f (p + 1) = nI (dN (sg (a + 1))) ∧ f (p + 2) = nI (dN (sg (a + 2)))) ∧
  (k = 104 → f p = nI (dN (sg a)) ∧ f (p + 1) = nI (dN (sg (a + 1))) ∧ f (p + 2) = nI (10 * dN (sg (a + 2)) + dN (sg (a + 3)))) ∧
  (k = 108 → f p = nI (10 * dN (sg a) + dN (sg (a + 1))) ∧ f (p + 1) = nI (dN (sg (a + 2)))) ∧
  (k = 103 → f p = nI (dN (sg a)) ∧ f (p + 1) = nI (dN (sg (a + 1)))) ∧
  (k = 115 → f p = nI (dN (sg a))) ∧
  (k = 119 → f p = nI (10 * dN (sg a) + dN (sg (a + 1))))
theorem nd_f {sg : Nat → Int32} {j : Nat} (h : isDg (sg j) = false) : ndP sg j = true := by unfold ndP; rw [h]; rfl
theorem nd_t {sg : Nat → Int32} {j : Nat} (h : isDg (sg j) = true) : ndP sg j = false := by unfold ndP; rw [h]; rfl
/-- the digits behind a kind, read: all, or up to the first that is none -/
theorem t_readsAll {t : St} {s a p k : Nat} {K : Int32 → St → Prop} (hs : s ≤ 96) (ha : a < 900) (hp : p + 3 ≤ 144) (hk : k = 103 ∨ k = 104 ∨ k = 107 ∨ k = 108 ∨ k = 115 ∨ k = 119) (e1 : t 0 16 = nI s) (e2 : t 0 17 = nI a)
    (h1 : fstG (ndP (sgF (t 9) s)) (dgN (nI k)) a = -9 → ∀ t', RF t t' p (a + dgN (nI k)) → toldK (sgF (t 9) s) k a p (t' 12) → K 1 t') (h0 : ∀ j, j < 1000 → fstG (ndP (sgF (t 9) s)) (dgN (nI k)) a = nI j → ∀ t', RF t t' p j → K 0 t') : w_X9_readsAll (nI k) (nI p) t K := by
  have g : ∀ (t' : St) (b : Nat), RF t t' p b → t' 0 16 = nI s ∧ t' 0 17 = nI b ∧ t' 9 = t 9 := fun t' b h => ⟨(h.2.1 16 (by decide)).trans e1, h.2.2.1, h.1 9 (by decide) (by decide)⟩
  have rf0 : RF t t p a := ⟨fun _ _ _ => rfl, fun _ _ => rfl, e2, fun _ _ => rfl⟩
  have s1 : ∀ d b, fstG (ndP (sgF (t 9) s)) (d + 1) b = if ndP (sgF (t 9) s) b then nI b else fstG (ndP (sgF (t 9) s)) d (b + 1) := fun d b => rfl
  unfold w_X9_readsAll
  rcases hk with rfl | rfl | rfl | rfl | rfl | rfl
  · -- g
    have ed : dgN (nI 103) = 2 := by decide
    rw [ed] at h1 h0
    refine y1 (by decide) (t_rd1 (p := p) hs (by omega) (by omega) (by omega) e1 e2 (fun d1 t1 r1 q1 o1 => n1 (by decide) ?_) (fun d1 => y1 rfl (h0 a (by omega) (by rw [s1, nd_f d1]; rfl) t rf0)))
    obtain ⟨f1, f2, f3⟩ := g t1 _ r1
    rw [nI_inc]
    refine t_rd1 (p := p) hs (by omega) (by omega) (by omega) f1 f2 (fun d2 t2 r2 q2 o2 => n1 (by decide) ?_) (fun d2 => ?_)
    · rw [f3] at d2 q2
      refine h1 (by rw [s1, nd_t d1, s1, nd_t d2]; rfl) t2 (r1.tr r2) ⟨fun z => absurd z (by decide), fun z => absurd z (by decide), fun z => absurd z (by decide), fun _ => ⟨by rw [o2 p (by omega)]; exact q1, q2⟩, fun z => absurd z (by decide), fun z => absurd z (by decide)⟩
    · rw [f3] at d2
      exact y1 rfl (h0 (a + 1) (by omega) (by rw [s1, nd_t d1, s1, nd_f d2]; rfl) t1 r1)
  · -- h
    have ed : dgN (nI 104) = 4 := by decide
    rw [ed] at h1 h0
    refine n1 (by decide) (y1 (by decide) (t_rd1 (p := p) hs (by omega) (by omega) (by omega) e1 e2 (fun d1 t1 r1 q1 o1 => n1 (by decide) ?_) (fun d1 => y1 rfl (h0 a (by omega) (by rw [s1, nd_f d1]; rfl) t rf0))))
    obtain ⟨f1, f2, f3⟩ := g t1 _ r1
    rw [nI_inc]
    refine t_rd1 (p := p) hs (by omega) (by omega) (by omega) f1 f2 (fun d2 t2 r2 q2 o2 => n1 (by decide) ?_) (fun d2 => ?_)
    · rw [f3] at d2 q2
      obtain ⟨f4, f5, f6⟩ := g t2 _ (r1.tr r2)
      have e3 : nI p + 2 = nI (p + 2) := nI_add p 2
      rw [e3]
      refine t_rd2 (p := p) hs (by omega) (by omega) (by omega) f4 f5 (fun d3 d4 t3 r3 q3 o3 => n1 (by decide) ?_) (fun d3 => ?_) (fun d3 d4 t3 r3 => ?_)
      · rw [f6] at d3 d4 q3
        refine h1 (by rw [s1, nd_t d1, s1, nd_t d2, s1, nd_t d3, s1, nd_t d4]; rfl) t3 ((r1.tr r2).tr r3) ⟨fun z => absurd z (by decide), fun _ => ⟨by rw [o3 p (by omega), o2 p (by omega)]; exact q1, by rw [o3 (p + 1) (by omega)]; exact q2, q3⟩, fun z => absurd z (by decide), fun z => absurd z (by decide), fun z => absurd z (by decide), fun z => absurd z (by decide)⟩
      · rw [f6] at d3
        exact y1 rfl (h0 (a + 1 + 1) (by omega) (by rw [s1, nd_t d1, s1, nd_t d2, s1, nd_f d3]; rfl) t2 (r1.tr r2))
      · rw [f6] at d3 d4
        exact y1 rfl (h0 (a + 1 + 1 + 1) (by omega) (by rw [s1, nd_t d1, s1, nd_t d2, s1, nd_t d3, s1, nd_f d4]; rfl) t3 ((r1.tr r2).tr r3))
    · rw [f3] at d2
      exact y1 rfl (h0 (a + 1) (by omega) (by rw [s1, nd_t d1, s1, nd_f d2]; rfl) t1 r1)
  · -- k
    have ed : dgN (nI 107) = 3 := by decide
    rw [ed] at h1 h0
    refine n1 (by decide) (n1 (by decide) (y1 (by decide) (t_rd1 (p := p) hs (by omega) (by omega) (by omega) e1 e2 (fun d1 t1 r1 q1 o1 => n1 (by decide) ?_) (fun d1 => y1 rfl (h0 a (by omega) (by rw [s1, nd_f d1]; rfl) t rf0)))))
    obtain ⟨f1, f2, f3⟩ := g t1 _ r1
    rw [nI_inc]
    refine t_rd1 (p := p) hs (by omega) (by omega) (by omega) f1 f2 (fun d2 t2 r2 q2 o2 => n1 (by decide) ?_) (fun d2 => ?_)
    · rw [f3] at d2 q2
      obtain ⟨f4, f5, f6⟩ := g t2 _ (r1.tr r2)
      have e3 : nI p + 2 = nI (p + 2) := nI_add p 2
      rw [e3]
      refine t_rd1 (p := p) hs (by omega) (by omega) (by omega) f4 f5 (fun d3 t3 r3 q3 o3 => n1 (by decide) ?_) (fun d3 => ?_)
      · rw [f6] at d3 q3
        refine h1 (by rw [s1, nd_t d1, s1, nd_t d2, s1, nd_t d3]; rfl) t3 ((r1.tr r2).tr r3) ⟨fun _ => ⟨by rw [o3 p (by omega), o2 p (by omega)]; exact q1, by rw [o3 (p + 1) (by omega)]; exact q2, q3⟩, fun z => absurd z (by decide), fun z => absurd z (by decide), fun z => absurd z (by decide), fun z => absurd z (by decide), fun z => absurd z (by decide)⟩
      · rw [f6] at d3
        exact y1 rfl (h0 (a + 1 + 1) (by omega) (by rw [s1, nd_t d1, s1, nd_t d2, s1, nd_f d3]; rfl) t2 (r1.tr r2))
    · rw [f3] at d2
      exact y1 rfl (h0 (a + 1) (by omega) (by rw [s1, nd_t d1, s1, nd_f d2]; rfl) t1 r1)
  · -- l
    have ed : dgN (nI 108) = 3 := by decide
    rw [ed] at h1 h0
    refine n1 (by decide) (n1 (by decide) (n1 (by decide) (y1 (by decide) (t_rd2 (p := p) hs (by omega) (by omega) (by omega) e1 e2 (fun d1 d2 t1 r1 q1 o1 => n1 (by decide) ?_) (fun d1 => y1 rfl (h0 a (by omega) (by rw [s1, nd_f d1]; rfl) t rf0)) (fun d1 d2 t1 r1 => y1 rfl (h0 (a + 1) (by omega) (by rw [s1, nd_t d1, s1, nd_f d2]; rfl) t1 r1))))))
    obtain ⟨f1, f2, f3⟩ := g t1 _ r1
    rw [nI_inc]
    refine t_rd1 (p := p) hs (by omega) (by omega) (by omega) f1 f2 (fun d3 t2 r2 q2 o2 => n1 (by decide) ?_) (fun d3 => ?_)
    · rw [f3] at d3 q2
      refine h1 (by rw [s1, nd_t d1, s1, nd_t d2, s1, nd_t d3]; rfl) t2 (r1.tr r2) ⟨fun z => absurd z (by decide), fun z => absurd z (by decide), fun _ => ⟨by rw [o2 p (by omega)]; exact q1, q2⟩, fun z => absurd z (by decide), fun z => absurd z (by decide), fun z => absurd z (by decide)⟩
    · rw [f3] at d3
      exact y1 rfl (h0 (a + 2) (by omega) (by rw [s1, nd_t d1, s1, nd_t d2, s1, nd_f d3]; rfl) t1 r1)
  · -- s
    have ed : dgN (nI 115) = 1 := by decide
    rw [ed] at h1 h0
    refine n1 (by decide) (n1 (by decide) (n1 (by decide) (n1 (by decide) (y1 (by decide) (t_rd1 (p := p) hs (by omega) (by omega) (by omega) e1 e2 (fun d1 t1 r1 q1 o1 => ⟨Or.inr rfl, ?_⟩) (fun d1 => ⟨Or.inl rfl, h0 a (by omega) (by rw [s1, nd_f d1]; rfl) t rf0⟩))))))
    exact h1 (by rw [s1, nd_t d1]; rfl) t1 r1 ⟨fun z => absurd z (by decide), fun z => absurd z (by decide), fun z => absurd z (by decide), fun z => absurd z (by decide), fun _ => q1, fun z => absurd z (by decide)⟩
  · -- w
    have ed : dgN (nI 119) = 2 := by decide
    rw [ed] at h1 h0
    refine n1 (by decide) (n1 (by decide) (n1 (by decide) (n1 (by decide) (n1 (by decide) (t_rd2 (p := p) hs (by omega) (by omega) (by omega) e1 e2 (fun d1 d2 t1 r1 q1 o1 => ⟨Or.inr rfl, ?_⟩) (fun d1 => ⟨Or.inl rfl, h0 a (by omega) (by rw [s1, nd_f d1]; rfl) t rf0⟩) (fun d1 d2 t1 r1 => ⟨Or.inl rfl, h0 (a + 1) (by omega) (by rw [s1, nd_t d1, s1, nd_f d2]; rfl) t1 r1⟩))))))
    exact h1 (by rw [s1, nd_t d1, s1, nd_t d2]; rfl) t1 r1 ⟨fun z => absurd z (by decide), fun z => absurd z (by decide), fun z => absurd z (by decide), fun z => absurd z (by decide), fun z => absurd z (by decide), fun _ => q1⟩
theorem kd_of {x : Int32} (h : ¬ dgN x = 0) : ∃ k, (k = 103 ∨ k = 104 ∨ k = 107 ∨ k = 108 ∨ k = 115 ∨ k = 119) ∧ x = nI k := by
  unfold dgN at h
  by_cases z0 : x = 103
  · exact ⟨103, by decide, z0⟩
  rw [if_neg z0] at h
  by_cases z1 : x = 104
  · exact ⟨104, by decide, z1⟩
  rw [if_neg z1] at h
  by_cases z2 : x = 107
  · exact ⟨107, by decide, z2⟩
  rw [if_neg z2] at h
  by_cases z3 : x = 108
  · exact ⟨108, by decide, z3⟩
  rw [if_neg z3] at h
  by_cases z4 : x = 115
  · exact ⟨115, by decide, z4⟩
  rw [if_neg z4] at h
  by_cases z5 : x = 119
  · exact ⟨119, by decide, z5⟩
  rw [if_neg z5] at h
  exact absurd rfl h
/-- what stands read of statement j -/
def DT (sg : Nat → Int32) (t : St) (j : Nat) : Prop := t 10 j = sg (PL sg j) ∧ t 11 j = nI (PL sg j) ∧ ∀ k, sg (PL sg j) = nI k → k < 200 → toldK sg k (PL sg j + 1) (3 * j) (t 12)
/-- i statements are read -/
def TS (mt t : St) (s i : Nat) (sg : Nat → Int32) : Prop := (∀ j, j ≠ 0 → j ≠ 10 → j ≠ 11 → j ≠ 12 → t j = mt j) ∧ (∀ x, x ≠ 17 → x ≠ 18 → t 0 x = mt 0 x) ∧ t 0 18 = nI i ∧ ∀ j, j < i → DT sg t j
theorem told_cg {sg : Nat → Int32} {k a p : Nat} {f g : Nat → Int32} (h : toldK sg k a p f) (e : ∀ x, p ≤ x → x < p + 3 → g x = f x) : toldK sg k a p g := by
  obtain ⟨h1, h2, h3, h4, h5, h6⟩ := h
  have e0 := e p (by omega) (by omega)
  have e1 := e (p + 1) (by omega) (by omega)
  have e2 := e (p + 2) (by omega) (by omega)
  exact ⟨fun z => by rw [e0, e1, e2]; exact h1 z, fun z => by rw [e0, e1, e2]; exact h2 z, fun z => by rw [e0, e1]; exact h3 z, fun z => by rw [e0, e1]; exact h4 z, fun z => by rw [e0]; exact h5 z, fun z => by rw [e0]; exact h6 z⟩
theorem DT_cg {sg : Nat → Int32} {t t' : St} {j : Nat} (h : DT sg t j) (e10 : t' 10 j = t 10 j) (e11 : t' 11 j = t 11 j) (e12 : ∀ x, 3 * j ≤ x → x < 3 * j + 3 → t' 12 x = t 12 x) : DT sg t' j :=
  ⟨e10.trans h.1, e11.trans h.2.1, fun k hk hk2 => told_cg (h.2.2 k hk hk2) e12⟩
theorem t_statement {mt t : St} {s i : Nat} {K : Int32 → St → Prop} (hs : s ≤ 96) (hi : i < 48) (e16 : mt 0 16 = nI s) (hT : TS mt t s i (sgF (mt 9) s)) (e17 : t 0 17 = nI (PL (sgF (mt 9) s) i))
    (h1 : bpV (sgF (mt 9) s) (PL (sgF (mt 9) s) i) = -9 → ∀ t', t' 0 17 = nI (PL (sgF (mt 9) s) (i + 1)) → t' 0 18 = nI i → (∀ t'', (∀ j, j ≠ 0 → t'' j = t' j) → (∀ x, x ≠ 18 → t'' 0 x = t' 0 x) → t'' 0 18 = nI (i + 1) → TS mt t'' s (i + 1) (sgF (mt 9) s)) → K 1 t')
    (h0 : ¬ bpV (sgF (mt 9) s) (PL (sgF (mt 9) s) i) = -9 → ∀ t', t' 0 17 = bpV (sgF (mt 9) s) (PL (sgF (mt 9) s) i) → (∀ j, j ≠ 0 → j ≠ 10 → j ≠ 11 → j ≠ 12 → t' j = mt j) → (∀ x, x ≠ 17 → x ≠ 18 → t' 0 x = mt 0 x) → K 0 t') : w_X9_statement t K := by
  obtain ⟨T1, T2, T3, T4⟩ := hT
  have pl := PL_le (sgF (mt 9) s) i
  have g16 : t 0 16 = nI s := (T2 16 (by decide) (by decide)).trans e16
  have g9 : t 9 = mt 9 := T1 9 (by decide) (by decide) (by decide) (by decide)
  unfold w_X9_statement
  refine t_next hs (by omega) g16 e17 ?_
  rw [g9]
  by_cases ed : dgN (sgF (mt 9) s (PL (sgF (mt 9) s) i)) = 0
  · -- no kind
    have eb : bpV (sgF (mt 9) s) (PL (sgF (mt 9) s) i) = nI (PL (sgF (mt 9) s) i) := if_pos ed
    have nk : ∀ k, (k = 103 ∨ k = 104 ∨ k = 107 ∨ k = 108 ∨ k = 115 ∨ k = 119) → ¬ sgF (mt 9) s (PL (sgF (mt 9) s) i) = nI k := fun k hk z => by
      rw [z] at ed
      rcases hk with rfl | rfl | rfl | rfl | rfl | rfl <;> exact absurd ed (by decide)
    exact n1 (nk 107 (by decide)) (n1 (nk 104 (by decide)) (n1 (nk 108 (by decide)) (n1 (nk 103 (by decide)) (n1 (nk 115 (by decide)) (n1 (nk 119 (by decide)) (h0 (by rw [eb]; exact ne9 (by omega)) t (by rw [eb]; exact e17) T1 T2))))))
  · obtain ⟨k, hk, ek⟩ := kd_of ed
    have b43 : w_X9_statement_b43 K (nI k) t := by
      rw [w_X9_statement_b43, T3, clI (show i < 48 by omega) (by decide)]
      have a1 : u2 t 10 i (nI k) 0 18 = nI i := by rw [u2_off (by decide)]; exact T3
      have a2 : u2 t 10 i (nI k) 0 17 = nI (PL (sgF (mt 9) s) i) := by rw [u2_off (by decide)]; exact e17
      rw [a1, a2, clI (show i < 48 by omega) (by decide)]
      have a3 : u2 (u2 t 10 i (nI k)) 11 i (nI (PL (sgF (mt 9) s) i)) 0 17 = nI (PL (sgF (mt 9) s) i) := by rw [u2_off (by decide)]; exact a2
      rw [a3, nI_inc]
      have a4 : u2 (u2 (u2 t 10 i (nI k)) 11 i (nI (PL (sgF (mt 9) s) i))) 0 17 (nI (PL (sgF (mt 9) s) i + 1)) 0 18 = nI i := by rw [u2_0 (by decide), u2_off (by decide)]; exact a1
      have e3 : (3 : Int32) * nI i = nI (3 * i) := nI_mul 3 i
      rw [a4, e3]
      refine ⟨vp_in_nI (by omega) (by decide), vp_in_nI (by omega) (by decide), ?_⟩
      -- the state in which the digits are read
      obtain ⟨u, hu⟩ : ∃ u, u = u2 (u2 (u2 t 10 i (nI k)) 11 i (nI (PL (sgF (mt 9) s) i))) 0 17 (nI (PL (sgF (mt 9) s) i + 1)) := ⟨_, rfl⟩
      rw [← hu]
      have uj : ∀ j, j ≠ 0 → j ≠ 10 → j ≠ 11 → u j = t j := fun j x y z => by rw [hu, u2_off x, u2_off z, u2_off y]
      have u0 : ∀ x, x ≠ 17 → u 0 x = t 0 x := fun x y => by rw [hu, u2_0 y, u2_off (by decide), u2_off (by decide)]
      have u17 : u 0 17 = nI (PL (sgF (mt 9) s) i + 1) := by rw [hu, u2_same]
      have u10 : ∀ x, u 10 x = if x = i then nI k else t 10 x := fun x => by
        rw [hu, u2_off (by decide), u2_off (by decide), u2_if]
        simp only [true_and]
      have u11 : ∀ x, u 11 x = if x = i then nI (PL (sgF (mt 9) s) i) else t 11 x := fun x => by
        rw [hu, u2_off (by decide), u2_if, u2_off (by decide)]
        simp only [true_and]
      have u9 : u 9 = mt 9 := (uj 9 (by decide) (by decide) (by decide)).trans g9
      have u16 : u 0 16 = nI s := (u0 16 (by decide)).trans g16
      have hd := dgN_le (sgF (mt 9) s (PL (sgF (mt 9) s) i))
      have rfj : ∀ (t' : St) (b : Nat), RF u t' (3 * i) b → (∀ j, j ≠ 0 → j ≠ 10 → j ≠ 11 → j ≠ 12 → t' j = mt j) ∧ (∀ x, x ≠ 17 → x ≠ 18 → t' 0 x = mt 0 x) := fun t' b hr => ⟨fun j x y z w => (hr.1 j x w).trans ((uj j x y z).trans (T1 j x y z w)), fun x y z => (hr.2.1 x y).trans ((u0 x y).trans (T2 x y z))⟩
      refine t_readsAll (a := PL (sgF (mt 9) s) i + 1) hs (by omega) (by omega) hk u16 u17 (fun hf t' hr ht => ?_) (fun j jb hj t' hr => ?_)
      · rw [u9] at hf ht
        obtain ⟨v1, v2⟩ := rfj t' _ hr
        have w16 : t' 0 16 = nI s := (v2 16 (by decide) (by decide)).trans e16
        have w9 : t' 9 = mt 9 := v1 9 (by decide) (by decide) (by decide) (by decide)
        have w17 : t' 0 17 = nI (PL (sgF (mt 9) s) i + 1 + dgN (nI k)) := hr.2.2.1
        rw [ek] at hd
        refine n1 (by decide) (t_next hs (by omega) w16 w17 ?_)
        rw [w9]
        have ea : PL (sgF (mt 9) s) i + 1 + dgN (nI k) = PL (sgF (mt 9) s) i + dgN (nI k) + 1 := by omega
        rw [ea]
        have bp : bpV (sgF (mt 9) s) (PL (sgF (mt 9) s) i) = if sgF (mt 9) s (PL (sgF (mt 9) s) i + dgN (nI k) + 1) = 59 then -9 else nI (PL (sgF (mt 9) s) i + dgN (nI k) + 1) := by
          unfold bpV
          rw [if_neg ed, ek, if_pos hf]
        by_cases z : sgF (mt 9) s (PL (sgF (mt 9) s) i + dgN (nI k) + 1) = 59
        · rw [if_pos z] at bp
          refine y1 z (h1 bp _ ?_ ?_ (fun t'' c1 c2 c3 => ⟨fun j x y z w => ?_, fun x y z => ?_, c3, fun j hj => ?_⟩))
          · rw [u2_same, w17, nI_inc, PL, ek]
            congr 1; omega
          · rw [u2_0 (by decide), hr.2.1 18 (by decide), u0 18 (by decide)]; exact T3
          · rw [c1 j x, u2_off x]; exact v1 j x y z w
          · rw [c2 x z, u2_0 y]; exact v2 x y z
          · have q : ∀ j, j ≠ 0 → t'' j = t' j := fun j x => by rw [c1 j x, u2_off x]
            have q10 : t'' 10 = u 10 := (q 10 (by decide)).trans (hr.1 10 (by decide) (by decide))
            have q11 : t'' 11 = u 11 := (q 11 (by decide)).trans (hr.1 11 (by decide) (by decide))
            have q12 : t'' 12 = t' 12 := q 12 (by decide)
            by_cases ej : j = i
            · subst ej
              refine ⟨by rw [q10, u10, if_pos rfl]; exact ek.symm, by rw [q11, u11, if_pos rfl], fun k' hk' hk2 => ?_⟩
              have : k = k' := nI_eqI (by rcases hk with h | h | h | h | h | h <;> omega) (by omega) (ek.symm.trans hk')
              subst this
              rw [q12]
              exact ht
            · refine DT_cg (T4 j (by omega)) (by rw [q10, u10, if_neg ej]) (by rw [q11, u11, if_neg ej]) fun x x1 x2 => ?_
              rw [q12, hr.2.2.2 x (by omega), uj 12 (by decide) (by decide) (by decide)]
        · rw [if_neg z] at bp
          exact n1 z (h0 (by rw [bp]; exact ne9 (by omega)) t' (by rw [bp, w17, ea]) v1 v2)
      · rw [u9] at hj
        obtain ⟨v1, v2⟩ := rfj t' _ hr
        have bp : bpV (sgF (mt 9) s) (PL (sgF (mt 9) s) i) = nI j := by
          unfold bpV
          rw [if_neg ed, ek, if_neg (by rw [hj]; exact ne9 (by omega)), hj]
        exact y1 rfl (h0 (by rw [bp]; exact ne9 (by omega)) t' (by rw [bp]; exact hr.2.2.1) v1 v2)
    rw [ek]
    rcases hk with rfl | rfl | rfl | rfl | rfl | rfl
    · exact n1 (by decide) (n1 (by decide) (n1 (by decide) (y1 (by decide) b43)))
    · exact n1 (by decide) (y1 (by decide) b43)
    · exact y1 (by decide) b43
    · exact n1 (by decide) (n1 (by decide) (y1 (by decide) b43))
    · exact n1 (by decide) (n1 (by decide) (n1 (by decide) (n1 (by decide) (y1 (by decide) b43))))
    · exact n1 (by decide) (n1 (by decide) (n1 (by decide) (n1 (by decide) (n1 (by decide) (y1 (by decide) b43)))))
end
section
/-! pure part: a land told in letters: what comes -/
abbrev SC : Type := Nat × Nat × Ct
def wkN (c : Ct) : Nat := (c 0 10).toNatClampNeg
def okB (k d1 d2 d3 d4 : Nat) (x : SC) : Bool :=
  if k = 103 then decide (d1 < x.1 ∧ d2 < 4) else if k = 104 then decide (d1 < x.1 ∧ d2 < x.1 ∧ d1 ≠ d2) else if k = 107 then decide (d1 < 6 ∧ d3 < 4 ∧ x.1 < 6) else if k = 108 then decide (d3 < 4 ∧ x.2.1 < 6) else if k = 115 then decide (d1 < x.2.1)
  else decide (1 ≤ 10 * d1 + d2 ∧ 10 * d1 + d2 ≤ 60 ∧ wkN x.2.2 + (10 * d1 + d2) ≤ 999)
def nxC (k d1 d2 d3 d4 : Nat) (x : SC) : SC :=
  if k = 103 then (x.1, x.2.1, u2 x.2.2 3 d1 (nI d2)) else if k = 104 then (x.1, x.2.1, u2 x.2.2 4 (hI d1 d2) (nI (10 * d3 + d4))) else if k = 107 then (x.1 + 1, x.2.1, akF x.1 (nI d1) (nI d2) (nI d3) x.2.2) else if k = 108 then (x.1, x.2.1 + 1, alF x.2.1 (nI d3) (nI (10 * d1 + d2)) x.2.2)
  else if k = 115 then (x.1, x.2.1, u2 x.2.2 0 9 (x.2.2 0 9 ^^^ ((1 : Int32) <<< (nI d1 &&& 31)))) else (x.1, x.2.1, weeksF x.1 x.2.1 (10 * d1 + d2) x.2.2)
theorem okB_103 (d1 d2 d3 d4 : Nat) (x : SC) : okB 103 d1 d2 d3 d4 x = decide (d1 < x.1 ∧ d2 < 4) := rfl
theorem okB_104 (d1 d2 d3 d4 : Nat) (x : SC) : okB 104 d1 d2 d3 d4 x = decide (d1 < x.1 ∧ d2 < x.1 ∧ d1 ≠ d2) := rfl
theorem okB_107 (d1 d2 d3 d4 : Nat) (x : SC) : okB 107 d1 d2 d3 d4 x = decide (d1 < 6 ∧ d3 < 4 ∧ x.1 < 6) := rfl
theorem okB_108 (d1 d2 d3 d4 : Nat) (x : SC) : okB 108 d1 d2 d3 d4 x = decide (d3 < 4 ∧ x.2.1 < 6) := rfl
theorem okB_115 (d1 d2 d3 d4 : Nat) (x : SC) : okB 115 d1 d2 d3 d4 x = decide (d1 < x.2.1) := rfl
theorem okB_119 (d1 d2 d3 d4 : Nat) (x : SC) : okB 119 d1 d2 d3 d4 x = decide (1 ≤ 10 * d1 + d2 ∧ 10 * d1 + d2 ≤ 60 ∧ wkN x.2.2 + (10 * d1 + d2) ≤ 999) := rfl
theorem nxC_103 (d1 d2 d3 d4 : Nat) (x : SC) : nxC 103 d1 d2 d3 d4 x = (x.1, x.2.1, u2 x.2.2 3 d1 (nI d2)) := rfl
theorem nxC_104 (d1 d2 d3 d4 : Nat) (x : SC) : nxC 104 d1 d2 d3 d4 x = (x.1, x.2.1, u2 x.2.2 4 (hI d1 d2) (nI (10 * d3 + d4))) := rfl
theorem nxC_107 (d1 d2 d3 d4 : Nat) (x : SC) : nxC 107 d1 d2 d3 d4 x = (x.1 + 1, x.2.1, akF x.1 (nI d1) (nI d2) (nI d3) x.2.2) := rfl
theorem nxC_108 (d1 d2 d3 d4 : Nat) (x : SC) : nxC 108 d1 d2 d3 d4 x = (x.1, x.2.1 + 1, alF x.2.1 (nI d3) (nI (10 * d1 + d2)) x.2.2) := rfl
theorem nxC_115 (d1 d2 d3 d4 : Nat) (x : SC) : nxC 115 d1 d2 d3 d4 x = (x.1, x.2.1, u2 x.2.2 0 9 (x.2.2 0 9 ^^^ ((1 : Int32) <<< (nI d1 &&& 31)))) := rfl
theorem nxC_119 (d1 d2 d3 d4 : Nat) (x : SC) : nxC 119 d1 d2 d3 d4 x = (x.1, x.2.1, weeksF x.1 x.2.1 (10 * d1 + d2) x.2.2) := rfl
def isK (k : Nat) : Prop := k = 103 ∨ k = 104 ∨ k = 107 ∨ k = 108 ∨ k = 115 ∨ k = 119
def gX (x : SC) : Prop := vC x.1 x.2.1 x.2.2 ∧ hOk x.1 x.2.2 ∧ gC x.1 x.2.1 x.2.2 ∧ nC x.2.2
theorem gC_wk {n nL : Nat} {c : Ct} (g : gC n nL c) : c 0 10 = nI (wkN c) ∧ wkN c ≤ 999 := by
  obtain ⟨w, hw, e⟩ := g.2.2.2.2
  have : wkN c = w := by unfold wkN; rw [e]; exact clI (show w < 1000 by omega) (by decide)
  rw [this]
  exact ⟨e, hw⟩
/-- the check's rows written from a country -/
def mkS (n nL : Nat) (c : Ct) : St := fun k i => if k = 2 then c 1 i else if k = 3 then c 2 i else if k = 4 then c 3 i else if k = 5 then c 4 (hI (i / 6) (i % 6)) else if k = 6 then c 5 i else if k = 7 then c 6 i else if k = 8 then (if (ob c).testBit i then 1 else 0) else if k = 0 then (if i = 8 then nI n else if i = 9 then nI nL else if i = 10 then c 0 10 else 0) else 0
theorem mkRM {x : SC} (h : gX x) : RM x.1 x.2.1 (mkS x.1 x.2.1 x.2.2) x.2.2 ∧ mkS x.1 x.2.1 x.2.2 0 11 = 0 := by
  obtain ⟨h1, h2, h3, h4⟩ := h
  refine ⟨⟨h1, h2, rfl, rfl, rfl, fun p hp => ⟨rfl, rfl, ⟨fun z => absurd z (has0 p), fun z => ?_⟩, fun _ => rfl⟩, fun p q hp hq => ?_, fun l hl => ⟨rfl, rfl, ?_, rfl⟩⟩, rfl⟩
  · obtain ⟨t, ht, e⟩ := h3.2.1 p hp
    rw [e] at z
    exact absurd z (tn1 t ht)
  · have hq6 : q < 6 := Nat.lt_of_lt_of_le hq h1.1
    constructor
    · show x.2.2 4 (hI ((6 * p + q) / 6) ((6 * p + q) % 6)) = _
      rw [show (6 * p + q) / 6 = p by omega, show (6 * p + q) % 6 = q by omega]
    · show x.2.2 4 (hI ((6 * q + p) / 6) ((6 * q + p) % 6)) = _
      rw [show (6 * q + p) / 6 = q by omega, show (6 * q + p) % 6 = p by omega, hI_comm]
  · obtain ⟨t, ht, e⟩ := h3.2.2.1 l hl
    rw [e]
    exact tn1 t ht
theorem hOk_u4 {n p q : Nat} {c : Ct} {v : Int32} (h : hOk n c) (hn : n ≤ 6) (hp : p < q) (hq : q < n) (h0 : 0 ≤ v) (h9 : v ≤ 99) : hOk n (u2 c 4 (hI p q) v) := fun a b ha hb => by
  by_cases e : a = p ∧ b = q
  · obtain ⟨rfl, rfl⟩ := e
    rw [u2_same]; exact ⟨h0, h9⟩
  · rw [u2_ne (Or.inr fun z => e (hI_inj ha (by omega) hp (by omega) z))]; exact h a b ha hb
theorem hOk_week {n nL : Nat} {c : Ct} (hn : n ≤ 6) (h : hOk n c) : hOk n (weekF n nL c).2 := by
  refine fr_inv (fun _ (s : Int32 × Ct) => hOk n s.2) (stepL n) (Nat.zero_le nL) (s0 := (0, hatesF n (u2 c 0 10 (c 0 10 + 1)))) ?_ (fun l s _ _ hs => ?_)
  · refine fr_inv (fun _ (x : Ct) => hOk n x) _ (Nat.zero_le n) (fun a b ha hb => by rw [u2_off (by decide)]; exact h a b ha hb) (fun p x _ hp hx => ?_)
    exact fr_inv (fun _ (x : Ct) => hOk n x) _ (show p + 1 ≤ n by omega) hx fun q x h1 hq hx => hOk_u4 hx hn (by omega) hq (heldF_in _).1 (heldF_in _).2
  · unfold stepL
    split
    · exact hs
    · split
      · exact hs
      next p q e =>
        have := opS_in p q e
        show hOk n (opens s.2 l p q)
        unfold opens
        exact hOk_u4 (fun a b ha hb => by rw [u2_off (by decide), u2_off (by decide)]; exact hs a b ha hb) hn this.1 this.2.1 (heldF_in _).1 (heldF_in _).2
theorem ok_spec {k d1 d2 d3 d4 : Nat} {x : SC} (h : okB k d1 d2 d3 d4 x = true) (hk : isK k) : (k = 103 ∧ d1 < x.1 ∧ d2 < 4) ∨ (k = 104 ∧ d1 < x.1 ∧ d2 < x.1 ∧ d1 ≠ d2) ∨ (k = 107 ∧ d1 < 6 ∧ d3 < 4 ∧ x.1 < 6) ∨ (k = 108 ∧ d3 < 4 ∧ x.2.1 < 6) ∨ (k = 115 ∧ d1 < x.2.1) ∨ (k = 119 ∧ 1 ≤ 10 * d1 + d2 ∧ 10 * d1 + d2 ≤ 60 ∧ wkN x.2.2 + (10 * d1 + d2) ≤ 999) := by
  unfold okB at h
  rcases hk with rfl | rfl | rfl | rfl | rfl | rfl
  · rw [if_pos rfl] at h
    exact Or.inl ⟨rfl, of_decide_eq_true h⟩
  · rw [if_neg (by decide), if_pos rfl] at h
    exact Or.inr (Or.inl ⟨rfl, of_decide_eq_true h⟩)
  · rw [if_neg (by decide), if_neg (by decide), if_pos rfl] at h
    exact Or.inr (Or.inr (Or.inl ⟨rfl, of_decide_eq_true h⟩))
  · rw [if_neg (by decide), if_neg (by decide), if_neg (by decide), if_pos rfl] at h
    exact Or.inr (Or.inr (Or.inr (Or.inl ⟨rfl, of_decide_eq_true h⟩)))
  · rw [if_neg (by decide), if_neg (by decide), if_neg (by decide), if_neg (by decide), if_pos rfl] at h
    exact Or.inr (Or.inr (Or.inr (Or.inr (Or.inl ⟨rfl, of_decide_eq_true h⟩))))
  · rw [if_neg (by decide), if_neg (by decide), if_neg (by decide), if_neg (by decide), if_neg (by decide)] at h
    exact Or.inr (Or.inr (Or.inr (Or.inr (Or.inr ⟨rfl, of_decide_eq_true h⟩))))
theorem gX_next {k d1 d2 d3 d4 : Nat} {x : SC} (h : gX x) (hk : isK k) (ho : okB k d1 d2 d3 d4 x = true) (h4 : k = 104 → 10 * d3 + d4 ≤ 99) (h8 : k = 108 → 10 * d1 + d2 ≤ 99) : gX (nxC k d1 d2 d3 d4 x) := by
  obtain ⟨hm, h0⟩ := mkRM h
  obtain ⟨g1, g2, g3, g4⟩ := h
  have hn := g1.1
  have hL := g1.2.1
  rcases ok_spec ho hk with ⟨rfl, q1, q2⟩ | ⟨rfl, q1, q2, q3⟩ | ⟨rfl, q1, q2, q3⟩ | ⟨rfl, q1, q2⟩ | ⟨rfl, q1⟩ | ⟨rfl, q1, q2, q3⟩
  · have := RM_town (p := d1) hm h0 (tn1 d2 q2)
    exact ⟨this.1, this.2.1, gC_town g3 (by omega) q2, nC_u2 g4 (by decide) _ _⟩
  · have b := held99 (10 * d3 + d4) (by have := h4 rfl; omega)
    have := RM_sets hm q1 q2 q3 b.2.1 b.2.2
    exact ⟨this.1, this.2.1, gC_hate g3 (by omega) (by omega), nC_u2 g4 (by decide) _ _⟩
  · have := RM_add (a := nI d1) (b := nI d2) hm h0 q3 (tn1 d3 q2)
    exact ⟨this.1, this.2.1, gC_add g3 g4 q3 q2, (zn_add q3 ⟨g3.1, g4⟩).2⟩
  · have d9 : (-9 : Int32) < nI (10 * d1 + d2) := Int32.lt_of_lt_of_le (show (-9 : Int32) < 0 by decide) (n_le0 (by have := h8 rfl; omega))
    have := RM_addL hm q2 (tn1 d3 q1) d9
    exact ⟨this.1, this.2.1, gC_addL g3 g4 q2 q1 (h8 rfl), (zn_addL q2 ⟨g3.1, g4⟩).2⟩
  · have := (RM_turn hm q1).1
    exact ⟨this.1, this.2.1, gC_open g3, nC_u2 g4 (by decide) _ _⟩
  · have w := gC_wk g3
    exact ⟨vC_weeks g1, fr_inv (fun _ c => hOk x.1 c) _ (Nat.zero_le _) g2 fun _ _ _ _ hc => hOk_week hn hc, gC_weeks hn hL g3 g4 w.1 q3, (zn_weeks hn hL ⟨g3.1, g4⟩).2⟩
/-! the class's -/
theorem isF_if {n d : Nat} (hn : n < 2147483648) (hd : d < 2147483648) : isF n (nI d) = if d < n then 1 else 0 := by
  unfold isF
  rw [if_neg (n_lt0 hd)]
  by_cases h : d < n
  · rw [if_neg (nI_ge h hn), if_pos h]
  · rw [if_pos (nI_le (by omega) hd), if_neg h]
theorem s_digit {st : St} {s a : Nat} {K : Int32 → St → Prop} (hs : s ≤ 96) (e : st 4 1 = nI s) (ha : a < 2147483648) (h : K (sgF (st 5) s a - 48) st) : w_X7_digit (nI a) st K := by
  unfold w_X7_digit
  exact s_sign hs e ha h
theorem s_twoDigits {st : St} {s a : Nat} {K : Int32 → St → Prop} (hs : s ≤ 96) (e : st 4 1 = nI s) (ha : a < 1000) (h : K (10 * (sgF (st 5) s a - 48) + (sgF (st 5) s (a + 1) - 48)) st) : w_X7_twoDigits (nI a) st K := by
  unfold w_X7_twoDigits
  refine s_digit hs e (by omega) ?_
  rw [nI_inc]
  exact s_digit hs e (by omega) h
theorem two_v {a b : Int32} {d1 d2 : Nat} (h1 : a = nI d1) (h2 : b = nI d2) : 10 * a + b = nI (10 * d1 + d2) := by
  rw [h1, h2]
  have e : (10 : Int32) * nI d1 = nI (10 * d1) := nI_mul 10 d1
  rw [e, nI_add]
/-- the digits of a good statement -/
def dgs (sg : Nat → Int32) (k a : Nat) : Prop := ∀ j, j < dgN (nI k) → sg (a + 1 + j) - 48 = nI (dN (sg (a + 1 + j))) ∧ dN (sg (a + 1 + j)) ≤ 9
theorem dgs_of {sg : Nat → Int32} {k a : Nat} (h : fstG (ndP sg) (dgN (nI k)) (a + 1) = -9) (ha : a < 1000) : dgs sg k a := fun j hj => by
  rcases fstG_some (P := ndP sg) (dgN (nI k)) (a + 1) with ⟨-, h2⟩ | ⟨n, h1, h2, h3, -⟩
  · have := h2 (a + 1 + j) (by omega) (by omega)
    unfold ndP at this
    refine dg_v ?_
    cases z : isDg (sg (a + 1 + j)) with
    | true => rfl
    | false => rw [z] at this; cases this
  · have hd := dgN_le (nI k)
    rw [h3] at h
    exact absurd h (ne9 (by omega))
def okA (sg : Nat → Int32) (k a : Nat) (x : SC) : Bool := okB k (dN (sg (a + 1))) (dN (sg (a + 1 + 1))) (dN (sg (a + 1 + 2))) (dN (sg (a + 1 + 3))) x
def nxA (sg : Nat → Int32) (k a : Nat) (x : SC) : SC := nxC k (dN (sg (a + 1))) (dN (sg (a + 1 + 1))) (dN (sg (a + 1 + 2))) (dN (sg (a + 1 + 3))) x
theorem s_isRight {st : St} {s a k : Nat} {x : SC} {K : Int32 → St → Prop} (hs : s ≤ 96) (e : st 4 1 = nI s) (ha : a < 900) (hk : isK k) (ek : sgF (st 5) s a = nI k) (hd : dgs (sgF (st 5) s) k a) (hx : gX x) (h : K (if okA (sgF (st 5) s) k a x then 1 else 0) (sv st 19 x.2.2)) : w_X7_isRight (nI a) 19 (sv st 19 x.2.2) K := by
  obtain ⟨g1, g2, g3, g4⟩ := hx
  have hn := g1.1
  have hL := g1.2.1
  have e' : sv st 19 x.2.2 4 1 = nI s := by rw [sv_off (by decide)]; exact e
  have e5 : sv st 19 x.2.2 5 = st 5 := sv_off (by decide)
  have q7 : sv st 19 x.2.2 19 7 = nI x.1 := by rw [sv_0]; exact g1.2.2.1
  have q8 : sv st 19 x.2.2 19 8 = nI x.2.1 := by rw [sv_0]; exact g1.2.2.2.1
  have i2 : nI a + 2 = nI (a + 2) := nI_add a 2
  have i3 : nI a + 3 = nI (a + 3) := nI_add a 3
  unfold w_X7_isRight
  rw [nI_inc]
  refine s_digit hs e' (by omega) ?_
  rw [i2]
  refine s_digit hs e' (by omega) ?_
  rw [i3]
  refine s_digit hs e' (by omega) (s_twoDigits hs e' (by omega) (s_sign hs e' (by omega) ?_))
  rw [e5, ek]
  unfold okA at h
  rcases hk with rfl | rfl | rfl | rfl | rfl | rfl
  · have d1 := hd 0 (by decide)
    have d2 := hd 1 (by decide)
    rw [Nat.add_zero] at d1
    rw [okB_103] at h
    refine y1 (by decide) ?_
    rw [d1.1, d2.1]
    refine s_hasKeeper q7 ?_
    rw [isF_if (by omega) (by omega)]
    by_cases z1 : dN (sgF (st 5) s (a + 1)) < x.1
    · rw [if_pos z1]
      refine n1 (by decide) (s_isTown ?_)
      rw [townF_isF, isF_if (by decide) (by omega)]
      by_cases z2 : dN (sgF (st 5) s (a + 1 + 1)) < 4
      · rw [if_pos z2]
        rw [decide_eq_true ⟨z1, z2⟩, if_pos rfl] at h
        exact n1 (by decide) h
      · rw [if_neg z2]
        rw [decide_eq_false (fun y => z2 y.2), if_neg (by decide)] at h
        exact y1 rfl h
    · rw [if_neg z1]
      rw [decide_eq_false (fun y => z1 y.1), if_neg (by decide)] at h
      exact y1 rfl h
  · have d1 := hd 0 (by decide)
    have d2 := hd 1 (by decide)
    rw [Nat.add_zero] at d1
    rw [okB_104] at h
    refine n1 (by decide) (y1 (by decide) ?_)
    rw [d1.1, d2.1]
    refine s_areTwo q7 ?_
    unfold twF
    rw [isF_if (by omega) (by omega), isF_if (by omega) (by omega)]
    by_cases z1 : dN (sgF (st 5) s (a + 1)) < x.1
    · rw [if_pos z1, if_neg (by decide)]
      by_cases z2 : dN (sgF (st 5) s (a + 1 + 1)) < x.1
      · rw [if_pos z2, if_neg (by decide)]
        by_cases z3 : dN (sgF (st 5) s (a + 1)) = dN (sgF (st 5) s (a + 1 + 1))
        · rw [decide_eq_false (fun y => y.2.2 z3), if_neg (by decide)] at h
          rw [if_pos (by show nI (dN (sgF (st 5) s (a + 1))) = nI (dN (sgF (st 5) s (a + 1 + 1))); rw [z3])]
          exact ⟨Or.inl rfl, h⟩
        · rw [decide_eq_true ⟨z1, z2, z3⟩, if_pos rfl] at h
          rw [if_neg (fun y => z3 (nI_eqI (by omega) (by omega) y))]
          exact ⟨Or.inr rfl, h⟩
      · rw [decide_eq_false (fun y => z2 y.2.1), if_neg (by decide)] at h
        rw [if_neg z2, if_pos rfl]
        exact ⟨Or.inl rfl, h⟩
    · rw [decide_eq_false (fun y => z1 y.1), if_neg (by decide)] at h
      rw [if_neg z1, if_pos rfl]
      exact ⟨Or.inl rfl, h⟩
  · have d1 := hd 0 (by decide)
    have d3 := hd 2 (by decide)
    rw [Nat.add_zero] at d1
    rw [okB_107] at h
    refine n1 (by decide) (n1 (by decide) (y1 (by decide) ?_))
    rw [d1.1, d3.1]
    by_cases z1 : dN (sgF (st 5) s (a + 1)) < 6
    · refine n1 (nI_ge z1 (by decide)) (s_isTown ?_)
      rw [townF_isF, isF_if (by decide) (by omega)]
      by_cases z2 : dN (sgF (st 5) s (a + 1 + 2)) < 4
      · rw [if_pos z2]
        refine n1 (by decide) ?_
        unfold w_X1_hasKeeperRoom
        rw [q7]
        by_cases z3 : x.1 < 6
        · rw [decide_eq_true ⟨z1, z2, z3⟩, if_pos rfl] at h
          exact n1 (nI_ge z3 (by decide)) (n1 (by decide) h)
        · rw [decide_eq_false (fun y => z3 y.2.2), if_neg (by decide)] at h
          exact y1 (nI_le (show 6 ≤ x.1 by omega) (by omega)) (y1 rfl h)
      · rw [if_neg z2]
        rw [decide_eq_false (fun y => z2 y.2.1), if_neg (by decide)] at h
        exact y1 rfl h
    · rw [decide_eq_false (fun y => z1 y.1), if_neg (by decide)] at h
      exact y1 (nI_le (show 6 ≤ dN (sgF (st 5) s (a + 1)) by omega) (by omega)) h
  · have d3 := hd 2 (by decide)
    rw [okB_108] at h
    refine n1 (by decide) (n1 (by decide) (n1 (by decide) (y1 (by decide) ?_)))
    rw [d3.1]
    refine s_isTown ?_
    rw [townF_isF, isF_if (by decide) (by omega)]
    by_cases z2 : dN (sgF (st 5) s (a + 1 + 2)) < 4
    · rw [if_pos z2]
      refine n1 (by decide) ?_
      unfold w_X1_hasLetterRoom
      rw [q8]
      by_cases z3 : x.2.1 < 6
      · rw [decide_eq_true ⟨z2, z3⟩, if_pos rfl] at h
        exact n1 (nI_ge z3 (by decide)) (n1 (by decide) h)
      · rw [decide_eq_false (fun y => z3 y.2), if_neg (by decide)] at h
        exact y1 (nI_le (show 6 ≤ x.2.1 by omega) (by omega)) (y1 rfl h)
    · rw [if_neg z2]
      rw [decide_eq_false (fun y => z2 y.1), if_neg (by decide)] at h
      exact y1 rfl h
  · have d1 := hd 0 (by decide)
    rw [Nat.add_zero] at d1
    rw [okB_115] at h
    refine n1 (by decide) (n1 (by decide) (n1 (by decide) (n1 (by decide) (y1 (by decide) ?_))))
    rw [d1.1]
    refine s_hasLetter q8 ?_
    rw [isF_if (by omega) (by omega)]
    by_cases z1 : dN (sgF (st 5) s (a + 1)) < x.2.1
    · rw [if_pos z1]
      rw [decide_eq_true z1, if_pos rfl] at h
      exact ⟨Or.inr rfl, h⟩
    · rw [if_neg z1]
      rw [decide_eq_false z1, if_neg (by decide)] at h
      exact ⟨Or.inl rfl, h⟩
  · have d1 := hd 0 (by decide)
    have d2 := hd 1 (by decide)
    rw [Nat.add_zero] at d1
    rw [okB_119] at h
    have wk := gC_wk g3
    refine n1 (by decide) (n1 (by decide) (n1 (by decide) (n1 (by decide) (n1 (by decide) ?_))))
    rw [two_v d1.1 d2.1]
    by_cases z1 : 1 ≤ 10 * dN (sgF (st 5) s (a + 1)) + dN (sgF (st 5) s (a + 1 + 1))
    · refine n1 (fun y => absurd ((nJ_lt (b := 1) (by omega) (by decide)).mp y) (by omega)) ?_
      by_cases z2 : 10 * dN (sgF (st 5) s (a + 1)) + dN (sgF (st 5) s (a + 1 + 1)) ≤ 60
      · refine n1 (fun y => absurd ((nJ_lt (a := 60) (by decide) (by omega)).mp y) (by omega)) ?_
        unfold w_X1_weekNow
        rw [sv_0, wk.1]
        show ((999 : Int32) - nI (wkN x.2.2) < nI (10 * dN (sgF (st 5) s (a + 1)) + dN (sgF (st 5) s (a + 1 + 1))) → K 0 (sv st 19 x.2.2)) ∧ (¬ (999 : Int32) - nI (wkN x.2.2) < nI (10 * dN (sgF (st 5) s (a + 1)) + dN (sgF (st 5) s (a + 1 + 1))) → K 1 (sv st 19 x.2.2))
        rw [show (999 : Int32) - nI (wkN x.2.2) = nI (999 - wkN x.2.2) from nI_sub' (a := 999) wk.2]
        by_cases z3 : wkN x.2.2 + (10 * dN (sgF (st 5) s (a + 1)) + dN (sgF (st 5) s (a + 1 + 1))) ≤ 999
        · rw [decide_eq_true ⟨z1, z2, z3⟩, if_pos rfl] at h
          exact n1 (fun y => absurd ((nJ_lt (by omega) (by omega)).mp y) (by omega)) h
        · rw [decide_eq_false (fun y => z3 y.2.2), if_neg (by decide)] at h
          exact y1 ((nJ_lt (by omega) (by omega)).mpr (by omega)) h
      · rw [decide_eq_false (fun y => z2 y.2.1), if_neg (by decide)] at h
        exact y1 ((nJ_lt (a := 60) (by decide) (by omega)).mpr (by omega)) h
    · rw [decide_eq_false (fun y => z1 y.1), if_neg (by decide)] at h
      exact y1 ((nJ_lt (b := 1) (by omega) (by decide)).mpr (by omega)) h
theorem s_comes {st : St} {s a k : Nat} {x : SC} {K : St → Prop} (hs : s ≤ 96) (e : st 4 1 = nI s) (ha : a < 900) (hk : isK k) (ek : sgF (st 5) s a = nI k) (hd : dgs (sgF (st 5) s) k a) (hx : gX x) (ho : okA (sgF (st 5) s) k a x = true) (h : K (sv st 19 (nxA (sgF (st 5) s) k a x).2.2)) : w_X7_comes (nI a) 19 (sv st 19 x.2.2) K := by
  obtain ⟨g1, g2, g3, g4⟩ := hx
  have hn := g1.1
  have hL := g1.2.1
  have e' : sv st 19 x.2.2 4 1 = nI s := by rw [sv_off (by decide)]; exact e
  have e5 : sv st 19 x.2.2 5 = st 5 := sv_off (by decide)
  have i2 : nI a + 2 = nI (a + 2) := nI_add a 2
  have i3 : nI a + 3 = nI (a + 3) := nI_add a 3
  have sp := ok_spec ho hk
  unfold nxA at h
  unfold w_X7_comes
  rw [nI_inc]
  refine s_digit hs e' (by omega) ?_
  rw [i2]
  refine s_digit hs e' (by omega) (s_sign hs e' (by omega) ?_)
  rw [e5, ek, i3]
  rcases sp with ⟨rfl, q1, q2⟩ | ⟨rfl, q1, q2, q3⟩ | ⟨rfl, q1, q2, q3⟩ | ⟨rfl, q1, q2⟩ | ⟨rfl, q1⟩ | ⟨rfl, q1, q2, q3⟩
  · have d1 := hd 0 (by decide)
    have d2 := hd 1 (by decide)
    rw [Nat.add_zero] at d1
    rw [nxC_103] at h
    refine y1 (by decide) ?_
    rw [d1.1, d2.1]
    exact m_move (by omega) h
  · have d1 := hd 0 (by decide)
    have d2 := hd 1 (by decide)
    have d3 := hd 2 (by decide)
    have d4 := hd 3 (by decide)
    rw [Nat.add_zero] at d1
    rw [nxC_104] at h
    refine n1 (by decide) (y1 (by decide) (s_twoDigits hs e' (by omega) ?_))
    have ev := two_v d3.1 d4.1
    rw [e5, d1.1, d2.1]
    show w_X1_setHate 19 _ _ (10 * (sgF (st 5) s (a + 1 + 2) - 48) + (sgF (st 5) s (a + 1 + 3) - 48)) _ _
    rw [ev]
    refine s_setHate (by omega) (by omega) ?_
    rw [(held99 _ (by omega)).1]
    exact h
  · have d1 := hd 0 (by decide)
    have d2 := hd 1 (by decide)
    have d3 := hd 2 (by decide)
    rw [Nat.add_zero] at d1
    rw [nxC_107] at h
    refine n1 (by decide) (n1 (by decide) (y1 (by decide) (s_digit hs e' (by omega) ?_)))
    rw [e5, d1.1, d2.1, d3.1]
    exact s_addKeeper q3 g1.2.2.1 h
  · have d1 := hd 0 (by decide)
    have d2 := hd 1 (by decide)
    have d3 := hd 2 (by decide)
    rw [Nat.add_zero] at d1
    rw [nxC_108] at h
    refine n1 (by decide) (n1 (by decide) (n1 (by decide) (y1 (by decide) (s_digit hs e' (by omega) (s_twoDigits hs e' (by omega) ?_)))))
    rw [e5, d3.1, two_v d1.1 d2.1]
    exact s_addLetter q2 g1.2.2.2.1 h
  · have d1 := hd 0 (by decide)
    rw [Nat.add_zero] at d1
    rw [nxC_115] at h
    refine n1 (by decide) (n1 (by decide) (n1 (by decide) (n1 (by decide) (y1 (by decide) ?_))))
    rw [d1.1]
    unfold w_X1_turnSeal
    refine s_hasLetter (n := x.2.1) (by rw [sv_0]; exact g1.2.2.2.1) (n1 (by rw [isF_in (by omega) q1]; decide) ?_)
    rw [sv_0, sv_u20]
    exact h
  · have d1 := hd 0 (by decide)
    have d2 := hd 1 (by decide)
    rw [Nat.add_zero] at d1
    rw [nxC_119] at h
    refine n1 (by decide) (n1 (by decide) (n1 (by decide) (n1 (by decide) (n1 (by decide) (s_twoDigits hs e' (by omega) ?_)))))
    rw [e5, two_v d1.1 d2.1]
    exact s_passWeeks (by omega) g1 h
/-! the check's -/
/-- what a statement that comes leaves of the check -/
def CF (t t' : St) : Prop := (∀ j, j ≠ 0 → (j < 2 ∨ 8 < j) → j ≠ 14 → t' j = t j) ∧ ∀ a, a ≠ 8 → a ≠ 9 → a ≠ 10 → a ≠ 25 → t' 0 a = t 0 a
theorem t_comes {t : St} {i k a : Nat} {sg : Nat → Int32} {x : SC} {K : Int32 → St → Prop} (hi : i < 48) (hm : RM x.1 x.2.1 t x.2.2) (g : gC x.1 x.2.1 x.2.2) (h0 : t 0 11 = 0) (hk : isK k) (hmk : t 10 i = nI k) (ht : toldK sg k (a + 1) (3 * i) (t 12)) (hd : dgs sg k a)
    (h1 : okA sg k a x = true → ∀ t', RM (nxA sg k a x).1 (nxA sg k a x).2.1 t' (nxA sg k a x).2.2 → CF t t' → K 1 t') (h2 : okA sg k a x = false → K 0 t) : w_X9_comes (nI i) t K := by
  have g1 := hm.1
  have hn := g1.1
  have hL := g1.2.1
  have k8 := hm.2.2.1
  have k9 := hm.2.2.2.1
  have e3 : (3 : Int32) * nI i = nI (3 * i) := nI_mul 3 i
  have vI : vp_in (nI (3 * i)) 144 := vp_in_nI (by omega) (by decide)
  have vI1 : vp_in (nI (3 * i + 1)) 144 := vp_in_nI (by omega) (by decide)
  have vI2 : vp_in (nI (3 * i + 2)) 144 := vp_in_nI (by omega) (by decide)
  have c0 : (nI (3 * i)).toNatClampNeg = 3 * i := clI (show 3 * i < 144 by omega) (by decide)
  have c1 : (nI (3 * i + 1)).toNatClampNeg = 3 * i + 1 := clI (show 3 * i + 1 < 144 by omega) (by decide)
  have c2 : (nI (3 * i + 2)).toNatClampNeg = 3 * i + 2 := clI (show 3 * i + 2 < 144 by omega) (by decide)
  have i2 : nI (3 * i) + 2 = nI (3 * i + 2) := nI_add _ 2
  obtain ⟨tk, th, tl, tg, ts, tw⟩ := ht
  unfold w_X9_comes
  rw [clI (show i < 48 by omega) (by decide), hmk, e3, nI_inc, i2, c0, c1, c2]
  refine ⟨vp_in_nI hi (by decide), ?_⟩
  unfold okA at h1 h2
  unfold nxA at h1
  rcases hk with rfl | rfl | rfl | rfl | rfl | rfl
  · obtain ⟨r1, r2⟩ := tg rfl
    have d1 := hd 0 (by decide)
    have d2 := hd 1 (by decide)
    rw [Nat.add_zero] at d1
    rw [okB_103] at h1 h2
    rw [nxC_103] at h1
    refine y1 (by decide) ⟨vI, t_isKeeper k8 ?_⟩
    rw [r1, isF_if (by omega) (by omega)]
    by_cases z1 : dN (sg (a + 1)) < x.1
    · rw [if_pos z1]
      refine n1 (by decide) ⟨vI1, t_isTown ?_⟩
      rw [r2, townF_isF, isF_if (by decide) (by have := d2.2; omega)]
      by_cases z2 : dN (sg (a + 1 + 1)) < 4
      · rw [if_pos z2]
        refine n2 (by decide) ⟨vI, vI1, ?_⟩
        rw [r1, clI (show dN (sg (a + 1)) < 6 by omega) (by decide)]
        have := h1 (decide_eq_true ⟨z1, z2⟩)
        exact ⟨vp_in_nI (by omega) (by decide), this _ (RM_town hm h0 (tn1 _ z2)) ⟨fun j p q r => u2_off (by omega), fun b p q r s => by rw [u2_off (by decide)]⟩⟩
      · rw [if_neg z2]
        exact y2 rfl (h2 (decide_eq_false fun y => z2 y.2))
    · rw [if_neg z1]
      exact y1 rfl (h2 (decide_eq_false fun y => z1 y.1))
  · obtain ⟨r1, r2, r3⟩ := th rfl
    have d1 := hd 0 (by decide)
    have d2 := hd 1 (by decide)
    have d3 := hd 2 (by decide)
    have d4 := hd 3 (by decide)
    rw [Nat.add_zero] at d1
    rw [okB_104] at h1 h2
    rw [nxC_104] at h1
    refine n1 (by decide) (y1 (by decide) ⟨vI, vI1, t_areTwo k8 ?_⟩)
    rw [r1, r2]
    have etw : twF x.1 (nI (dN (sg (a + 1)))) (nI (dN (sg (a + 1 + 1)))) = if (dN (sg (a + 1)) < x.1 ∧ dN (sg (a + 1 + 1)) < x.1 ∧ dN (sg (a + 1)) ≠ dN (sg (a + 1 + 1))) then 1 else 0 := by
      unfold twF
      rw [isF_if (by omega) (by omega), isF_if (by omega) (by have := d2.2; omega)]
      by_cases z1 : dN (sg (a + 1)) < x.1
      · rw [if_pos z1, if_neg (by decide)]
        by_cases z2 : dN (sg (a + 1 + 1)) < x.1
        · rw [if_pos z2, if_neg (by decide)]
          by_cases z3 : dN (sg (a + 1)) = dN (sg (a + 1 + 1))
          · rw [if_pos (by rw [z3]), if_neg (fun y => y.2.2 z3)]
          · rw [if_neg (fun y => z3 (nI_eqI (by omega) (by omega) y)), if_pos ⟨z1, z2, z3⟩]
        · rw [if_neg z2, if_pos rfl, if_neg (fun y => z2 y.2.1)]
      · rw [if_neg z1, if_pos rfl, if_neg (fun y => z1 y.1)]
    rw [etw]
    by_cases z : dN (sg (a + 1)) < x.1 ∧ dN (sg (a + 1 + 1)) < x.1 ∧ dN (sg (a + 1)) ≠ dN (sg (a + 1 + 1))
    · rw [if_pos z]
      refine n2 (by decide) ⟨vI, vI1, vI2, ?_⟩
      rw [r3]
      have := h1 (decide_eq_true z)
      have b := held99 (10 * dN (sg (a + 1 + 2)) + dN (sg (a + 1 + 3))) (by have := d3.2; have := d4.2; omega)
      exact t_sets (by omega) (by omega) (this _ (RM_sets hm z.1 z.2.1 z.2.2 b.2.1 b.2.2) ⟨fun j p q r => ef_sets j (by omega), fun b _ _ _ _ => by rw [ef_sets 0 (by decide)]⟩)
    · rw [if_neg z]
      exact y2 rfl (h2 (decide_eq_false z))
  · obtain ⟨r1, r2, r3⟩ := tk rfl
    have d1 := hd 0 (by decide)
    have d3 := hd 2 (by decide)
    rw [Nat.add_zero] at d1
    rw [okB_107] at h1 h2
    rw [nxC_107] at h1
    refine n1 (by decide) (n1 (by decide) (y1 (by decide) ⟨vI, vI1, vI2, ?_⟩))
    unfold w_X9_comesKeeper
    rw [r1, r2, r3]
    by_cases z1 : dN (sg (a + 1)) < 6
    · refine n1 (fun y => absurd ((nJ_lt (a := 5) (by decide) (by omega)).mp y) (by omega)) (t_isTown ?_)
      rw [townF_isF, isF_if (by decide) (by have := d3.2; omega)]
      by_cases z2 : dN (sg (a + 1 + 2)) < 4
      · rw [if_pos z2, k8]
        refine n1 (by decide) ?_
        by_cases z3 : x.1 < 6
        · have := h1 (decide_eq_true ⟨z1, z2, z3⟩)
          exact n2 (fun y => absurd ((n6 hn).mp y) (by omega)) (t_addsKeeper z3 k8 ⟨Or.inr rfl, this _ (RM_add hm h0 z3 (tn1 _ z2)) ⟨fun j p q r => ms_off p (by omega) (by omega) (by omega) (by omega), fun b p _ _ _ => ms_0 p⟩⟩)
        · exact y2 ((n6 hn).mpr (by omega)) ⟨Or.inl rfl, h2 (decide_eq_false fun y => z3 y.2.2)⟩
      · rw [if_neg z2]
        exact y1 rfl ⟨Or.inl rfl, h2 (decide_eq_false fun y => z2 y.2.1)⟩
    · exact y1 ((nJ_lt (a := 5) (by decide) (by omega)).mpr (by omega)) ⟨Or.inl rfl, h2 (decide_eq_false fun y => z1 y.1)⟩
  · obtain ⟨r1, r2⟩ := tl rfl
    have d1 := hd 0 (by decide)
    have d2 := hd 1 (by decide)
    have d3 := hd 2 (by decide)
    rw [Nat.add_zero] at d1
    rw [okB_108] at h1 h2
    rw [nxC_108] at h1
    refine n1 (by decide) (n1 (by decide) (n1 (by decide) (y1 (by decide) ⟨vI, vI1, ?_⟩)))
    unfold w_X9_comesLetter
    rw [r1, r2]
    refine t_isTown ?_
    rw [townF_isF, isF_if (by decide) (by have := d3.2; omega)]
    by_cases z2 : dN (sg (a + 1 + 2)) < 4
    · rw [if_pos z2, k9]
      refine n1 (by decide) ?_
      by_cases z3 : x.2.1 < 6
      · have := h1 (decide_eq_true ⟨z2, z3⟩)
        have d9 : (-9 : Int32) < nI (10 * dN (sg (a + 1)) + dN (sg (a + 1 + 1))) := Int32.lt_of_lt_of_le (show (-9 : Int32) < 0 by decide) (n_le0 (by have := d1.2; have := d2.2; omega))
        exact n2 (fun y => absurd ((n6 hL).mp y) (by omega)) (t_addsLetter z3 k9 ⟨Or.inr rfl, this _ (RM_addL hm z3 (tn1 _ z2) d9) ⟨fun j p q r => by unfold mlF; rw [u2_off p, u2_off (by omega), u2_off (by omega), u2_off (by omega)], fun b _ p _ _ => by unfold mlF; rw [u2_0 p, u2_off (by decide), u2_off (by decide), u2_off (by decide)]⟩⟩)
      · exact y2 ((n6 hL).mpr (by omega)) ⟨Or.inl rfl, h2 (decide_eq_false fun y => z3 y.2)⟩
    · rw [if_neg z2]
      exact y1 rfl ⟨Or.inl rfl, h2 (decide_eq_false fun y => z2 y.1)⟩
  · have r1 := ts rfl
    have d1 := hd 0 (by decide)
    rw [Nat.add_zero] at d1
    rw [okB_115] at h1 h2
    rw [nxC_115] at h1
    refine n1 (by decide) (n1 (by decide) (n1 (by decide) (n1 (by decide) (y1 (by decide) ⟨vI, t_isLetter k9 ?_⟩))))
    rw [r1, isF_if (by omega) (by omega)]
    by_cases z1 : dN (sg (a + 1)) < x.2.1
    · rw [if_pos z1, clI (show dN (sg (a + 1)) < 6 by omega) (by decide)]
      have := h1 (decide_eq_true z1)
      have v6 : vp_in (nI (dN (sg (a + 1)))) 6 := vp_in_nI (by omega) (by decide)
      exact n2 (by decide) ⟨vI, vI, v6, v6, this _ (RM_turn hm z1).1 ⟨fun j p q r => u2_off (by omega), fun b _ _ _ _ => by rw [u2_off (by decide)]⟩⟩
    · rw [if_neg z1]
      exact y2 rfl (h2 (decide_eq_false z1))
  · have r1 := tw rfl
    have d1 := hd 0 (by decide)
    have d2 := hd 1 (by decide)
    rw [Nat.add_zero] at d1
    have db : 10 * dN (sg (a + 1)) + dN (sg (a + 1 + 1)) ≤ 99 := by have := d1.2; have := d2.2; omega
    rw [okB_119] at h1 h2
    rw [nxC_119] at h1
    have wk := gC_wk g
    have m10 : t 0 10 = nI (wkN x.2.2) := hm.2.2.2.2.1.trans wk.1
    refine n1 (by decide) (n1 (by decide) (n1 (by decide) (n1 (by decide) (n1 (by decide) ⟨vI, ?_⟩))))
    unfold w_X9_comesWeeks
    rw [r1]
    refine t_isIn ?_
    by_cases z1 : 1 ≤ 10 * dN (sg (a + 1)) + dN (sg (a + 1 + 1))
    · rw [if_neg (show ¬ nI (10 * dN (sg (a + 1)) + dN (sg (a + 1 + 1))) < 1 from fun y => absurd ((nJ_lt (b := 1) (by omega) (by decide)).mp y) (by omega))]
      by_cases z2 : 10 * dN (sg (a + 1)) + dN (sg (a + 1 + 1)) ≤ 60
      · rw [if_neg (show ¬ (60 : Int32) < nI (10 * dN (sg (a + 1)) + dN (sg (a + 1 + 1))) from fun y => absurd ((nJ_lt (a := 60) (by decide) (by omega)).mp y) (by omega)), m10, nI_add]
        refine n1 (by decide) ?_
        by_cases z3 : wkN x.2.2 + (10 * dN (sg (a + 1)) + dN (sg (a + 1 + 1))) ≤ 999
        · have := h1 (decide_eq_true ⟨z1, z2, z3⟩)
          exact y1 (nI_le z3 (by decide)) (t_goesOn (by omega) hm fun t' q1 q2 => ⟨Or.inr rfl, this t' q1 ⟨fun j p q r => q2.1 j p (by omega) (by omega) r, fun b _ _ p q => q2.2 b p q⟩⟩)
        · exact n1 (nI_ge (show 999 < _ by omega) (by omega)) ⟨Or.inl rfl, h2 (decide_eq_false fun y => z3 y.2.2)⟩
      · rw [if_pos (show (60 : Int32) < nI (10 * dN (sg (a + 1)) + dN (sg (a + 1 + 1))) from (nJ_lt (a := 60) (by decide) (by omega)).mpr (by omega))]
        exact y1 rfl ⟨Or.inl rfl, h2 (decide_eq_false fun y => z2 y.2.1)⟩
    · rw [if_pos (show nI (10 * dN (sg (a + 1)) + dN (sg (a + 1 + 1))) < 1 from (nJ_lt (b := 1) (by omega) (by decide)).mpr (by omega))]
      exact y1 rfl ⟨Or.inl rfl, h2 (decide_eq_false fun y => z1 y.1)⟩
end
section
/-! pure part: a land told in letters: all of it -/
def kdN (sg : Nat → Int32) (a : Nat) : Nat := (sg a).toNatClampNeg
theorem kd_is {sg : Nat → Int32} {a : Nat} (h : ¬ dgN (sg a) = 0) : isK (kdN sg a) ∧ sg a = nI (kdN sg a) := by
  obtain ⟨k, hk, e⟩ := kd_of h
  have : kdN sg a = k := by
    unfold kdN
    rw [e]
    exact clI (show k < 200 by rcases hk with h | h | h | h | h | h <;> omega) (by decide)
  rw [this]
  exact ⟨hk, e⟩
def Xq (sg : Nat → Int32) (x0 : SC) : Nat → SC
  | 0 => x0
  | i + 1 => nxA sg (kdN sg (PL sg i)) (PL sg i) (Xq sg x0 i)
def P2 (sg : Nat → Int32) (x0 : SC) (i : Nat) : Bool := !okA sg (kdN sg (PL sg i)) (PL sg i) (Xq sg x0 i)
theorem P2_f {sg : Nat → Int32} {x0 : SC} {i : Nat} (h : P2 sg x0 i = false) : okA sg (kdN sg (PL sg i)) (PL sg i) (Xq sg x0 i) = true := by
  unfold P2 at h
  cases z : okA sg (kdN sg (PL sg i)) (PL sg i) (Xq sg x0 i) with
  | true => rfl
  | false => rw [z] at h; cases h
theorem P2_t {sg : Nat → Int32} {x0 : SC} {i : Nat} (h : P2 sg x0 i = true) : okA sg (kdN sg (PL sg i)) (PL sg i) (Xq sg x0 i) = false := by
  unfold P2 at h
  cases z : okA sg (kdN sg (PL sg i)) (PL sg i) (Xq sg x0 i) with
  | false => rfl
  | true => rw [z] at h; cases h
/-- a good statement: its kind, its digits -/
theorem st_good {sg : Nat → Int32} {s i : Nat} (hs : s ≤ 96) (h : stP sg s i = false) : isK (kdN sg (PL sg i)) ∧ sg (PL sg i) = nI (kdN sg (PL sg i)) ∧ dgs sg (kdN sg (PL sg i)) (PL sg i) ∧ PL sg i < s := by
  obtain ⟨g1, g2⟩ := st_go h
  obtain ⟨b1, b2, b3⟩ := bp_d g2 (by omega)
  obtain ⟨k1, k2⟩ := kd_is b1
  refine ⟨k1, k2, dgs_of ?_ (by omega), g1⟩
  rw [← k2]
  exact b2
theorem dg_of {sg : Nat → Int32} {a : Nat} (hd : dgs sg (kdN sg a) a) : (kdN sg a = 104 → 10 * dN (sg (a + 1 + 2)) + dN (sg (a + 1 + 3)) ≤ 99) ∧ (kdN sg a = 108 → 10 * dN (sg (a + 1)) + dN (sg (a + 1 + 1)) ≤ 99) := by
  constructor
  · intro e
    rw [e] at hd
    have d3 := hd 2 (by decide)
    have d4 := hd 3 (by decide)
    omega
  · intro e
    rw [e] at hd
    have d1 := hd 0 (by decide)
    have d2 := hd 1 (by decide)
    rw [Nat.add_zero] at d1
    omega
theorem gX_all {sg : Nat → Int32} {s : Nat} {x0 : SC} (hs : s ≤ 96) (hx : gX x0) : ∀ i, (∀ j, j < i → stP sg s j = false ∧ P2 sg x0 j = false) → gX (Xq sg x0 i)
  | 0, _ => hx
  | i + 1, h => by
    have g := gX_all hs hx i fun j hj => h j (by omega)
    obtain ⟨q1, q2⟩ := h i (by omega)
    obtain ⟨k1, k2, k3, k4⟩ := st_good hs q1
    have d := dg_of k3
    exact gX_next g k1 (P2_f q2) d.1 d.2
/-- the class's telling, its form being good -/
theorem x_tellB {st : St} {s N : Nat} {x0 : SC} {K : Int32 → St → Prop} (hs : s ≤ 96) (h0 : 0 < s) (e : st 4 1 = nI s) (hN : N ≤ 48) (p1 : stP (sgF (st 5) s) s N = true) (p2 : ∀ i, i < N → stP (sgF (st 5) s) s i = false) (hB : s ≤ PL (sgF (st 5) s) N) (hx : gX x0)
    (hOk : (∀ j, j < N → P2 (sgF (st 5) s) x0 j = false) → K (nI N) (sv st 19 (Xq (sgF (st 5) s) x0 N).2.2)) (hF : ∀ i, i < N → (∀ j, j < i → P2 (sgF (st 5) s) x0 j = false) → P2 (sgF (st 5) s) x0 i = true → K (-2000 - nI (PL (sgF (st 5) s) i)) (sv st 19 (Xq (sgF (st 5) s) x0 i).2.2)) : w_X7_tellTo 19 (sv st 19 x0.2.2) K := by
  have e5 : ∀ c, sv st 19 c 5 = st 5 := fun c => sv_off (by decide)
  have e4 : ∀ c, sv st 19 c 4 1 = nI s := fun c => by rw [sv_off (by decide)]; exact e
  unfold w_X7_tellTo
  refine x_brokenPlace (s := s) (N := N) hs h0 (e4 _) hN (by rw [e5]; exact p1) (by rw [e5]; exact p2) (fun z => ?_) (fun _ => ?_)
  · rw [e5] at z; omega
  · refine y1 rfl ?_
    refine lo_rel (fun m i (_ : Unit) => w_X7_tellTo_L24 19 K m (nI i) (nI (PL (sgF (st 5) s) i)) (nI i) (sv st 19 (Xq (sgF (st 5) s) x0 i).2.2)) (fun i _ => ∀ j, j < i → P2 (sgF (st 5) s) x0 j = false) () (Nat.zero_le N) (fun j hj => absurd hj (Nat.not_lt_zero j)) (fun _ hI m => ?_) (fun m i _ _ hi hI hw => ?_)
    · have pl := PL_le (sgF (st 5) s) N
      rw [w_X7_tellTo_L24, w_X7_tellTo_L24q, e4]
      refine n1 (nI_ge (show N < 96 by omega) (by decide)) (y1 (nI_le hB (by omega)) (hOk hI))
    · have g := gX_all hs hx i fun j hj => ⟨p2 j (by omega), hI j hj⟩
      obtain ⟨k1, k2, k3, k4⟩ := st_good hs (p2 i hi)
      have hd := dgN_le (sgF (st 5) s (PL (sgF (st 5) s) i))
      rw [w_X7_tellTo_L24, w_X7_tellTo_L24q, e4]
      refine n1 (nI_ge (show i < 96 by omega) (by decide)) (n1 (nI_ge k4 (by omega)) (s_isRight hs e (by omega) k1 k2 k3 g ?_))
      cases eo : okA (sgF (st 5) s) (kdN (sgF (st 5) s) (PL (sgF (st 5) s) i)) (PL (sgF (st 5) s) i) (Xq (sgF (st 5) s) x0 i) with
      | false =>
        rw [if_neg (by decide)]
        refine y2 rfl ?_
        rw [w_X7_tellTo_b54]
        exact hF i hi hI (by unfold P2; rw [eo]; rfl)
      | true =>
        rw [if_pos rfl]
        refine n2 (by decide) (s_comes hs e (by omega) k1 k2 k3 g eo (s_sign hs (e4 _) (by omega) (s_digitsBehind ?_)))
        rw [e5]
        have e2 : nI (dgN (sgF (st 5) s (PL (sgF (st 5) s) i))) + 2 = nI (dgN (sgF (st 5) s (PL (sgF (st 5) s) i)) + 2) := nI_add _ 2
        rw [e2, nI_add, nI_inc]
        refine hw () fun j hj => ?_
        by_cases ej : j = i
        · subst ej
          unfold P2
          rw [eo]
          rfl
        · exact hI j (by omega)
/-! the check's reading -/
theorem TS_0 {mt : St} {s : Nat} {sg : Nat → Int32} : TS mt (u2 (u2 mt 0 17 0) 0 18 0) s 0 sg :=
  ⟨fun j x _ _ _ => by rw [u2_off x, u2_off x], fun x y z => by rw [u2_0 z, u2_0 y], u2_same, fun j hj => absurd hj (Nat.not_lt_zero j)⟩
theorem t_landA {mt : St} {s N : Nat} {K : Int32 → St → Prop} (hs : s ≤ 96) (e16 : mt 0 16 = nI s) (hN : N < 48) (p2 : ∀ i, i < N → stP (sgF (mt 9) s) s i = false) (hA : ¬ bpV (sgF (mt 9) s) (PL (sgF (mt 9) s) N) = -9) (hc : PL (sgF (mt 9) s) N < s ∨ N = 0)
    (hk : ∀ t, (∀ j, j ≠ 0 → j ≠ 10 → j ≠ 11 → j ≠ 12 → t j = mt j) → (∀ x, x ≠ 16 → x ≠ 17 → x ≠ 18 → t 0 x = mt 0 x) → t 0 16 = 0 → K (-1000 - bpV (sgF (mt 9) s) (PL (sgF (mt 9) s) N)) t) : w_X9_land mt K := by
  unfold w_X9_land
  have key := lo_rel (fun m i (t : St) => w_X9_land_L12 K (m + 1) 1 t) (fun i t => TS mt t s i (sgF (mt 9) s) ∧ t 0 17 = nI (PL (sgF (mt 9) s) i)) (u2 (u2 mt 0 17 0) 0 18 0) (Nat.zero_le N) ⟨TS_0, by rw [u2_0 (by decide), u2_same]; rfl⟩ (fun t hI m => ?_) (fun m i t _ hi hI hw => ?_)
  · obtain ⟨n, hn⟩ := key
    exact ⟨n + 1, hn⟩
  · obtain ⟨i1, i2⟩ := hI
    have pl := PL_le (sgF (mt 9) s) N
    have t16 : t 0 16 = nI s := (i1.2.1 16 (by decide) (by decide)).trans e16
    rw [w_X9_land_L12, w_X9_land_L12q, t16, i2, i1.2.2.1]
    refine n1 (by decide) ?_
    have b34 : w_X9_land_b34 (fun v1 st => w_X9_land_L12 K (m + 1) v1 st) K t := by
      rw [w_X9_land_b34]
      refine t_statement hs hN e16 i1 i2 (fun z => absurd z hA) (fun _ t' q1 q2 q3 => y1 rfl ?_)
      rw [w_X9_land_b53, w_X9_land_L12, w_X9_land_L12q]
      refine y1 rfl ?_
      rw [w_X9_land_b60]
      refine y2 rfl ?_
      have e17 : u2 (u2 t' 0 18 (t' 0 18 + 0)) 0 16 0 0 17 = bpV (sgF (mt 9) s) (PL (sgF (mt 9) s) N) := by rw [u2_0 (by decide), u2_0 (by decide)]; exact q1
      rw [e17]
      exact hk _ (fun j x y z w => by rw [u2_off x, u2_off x]; exact q2 j x y z w) (fun x y z w => by rw [u2_0 y, u2_0 w]; exact q3 x z w) u2_same
    by_cases lt : PL (sgF (mt 9) s) N < s
    · exact y1 ((nJ_lt (by omega) (by omega)).mpr lt) b34
    · refine n1 (fun y => lt ((nJ_lt (by omega) (by omega)).mp y)) ?_
      have n0 : N = 0 := hc.resolve_left lt
      exact y2 (by rw [n0]; rfl) b34
  · obtain ⟨i1, i2⟩ := hI
    obtain ⟨g1, g2⟩ := st_go (p2 i hi)
    have t16 : t 0 16 = nI s := (i1.2.1 16 (by decide) (by decide)).trans e16
    rw [w_X9_land_L12, w_X9_land_L12q, t16, i2, i1.2.2.1]
    refine n1 (by decide) (y1 ((nJ_lt (by omega) (by omega)).mpr g1) ?_)
    rw [w_X9_land_b34]
    refine t_statement hs (by omega) e16 i1 i2 (fun _ t' q1 q2 q3 => n1 (by decide) ?_) (fun z _ _ _ _ => absurd g2 z)
    · rw [w_X9_land_b53, q2, nI_inc]
      exact hw _ ⟨q3 _ (fun j x => u2_off x) (fun x y => u2_0 y) u2_same, by rw [u2_0 (by decide)]; exact q1⟩
end
section
/-! pure part: a land told in letters, alike -/
theorem CF.tr {a b c : St} (h : CF a b) (h' : CF b c) : CF a c := ⟨fun j x y z => (h'.1 j x y z).trans (h.1 j x y z), fun i x y z w => (h'.2 i x y z w).trans (h.2 i x y z w)⟩
/-- what the check's land leaves -/
def LF (mt t : St) : Prop := t 0 11 = mt 0 11 ∧ t 1 = mt 1 ∧ t 9 = mt 9 ∧ t 16 = mt 16 ∧ t 0 16 = 0 ∧ t 0 20 = mt 0 20 ∧ t 0 23 = mt 0 23 ∧ t 0 29 = mt 0 29 ∧ ∀ a, (a < 75 ∨ 225 ≤ a) → t 13 a = mt 13 a
theorem t_landB {mt : St} {s N : Nat} {K : Int32 → St → Prop} (hs : s ≤ 96) (e16 : mt 0 16 = nI s) (hN : N ≤ 48) (h1 : 0 < N) (p2 : ∀ i, i < N → stP (sgF (mt 9) s) s i = false) (hB : s ≤ PL (sgF (mt 9) s) N)
    (hk : ∀ t, TS mt t s N (sgF (mt 9) s) → w_X9_passesAll 1 1 (u2 t 0 16 0) (fun st81 => ∃ n, w_X9_land_L86 K n 0 st81)) : w_X9_land mt K := by
  unfold w_X9_land
  refine lo_rel (fun m i (t : St) => w_X9_land_L12 K m 1 t) (fun i t => TS mt t s i (sgF (mt 9) s) ∧ t 0 17 = nI (PL (sgF (mt 9) s) i)) (u2 (u2 mt 0 17 0) 0 18 0) (Nat.zero_le N) ⟨TS_0, by rw [u2_0 (by decide), u2_same]; rfl⟩ (fun t hI m => ?_) (fun m i t _ hi hI hw => ?_)
  · obtain ⟨i1, i2⟩ := hI
    have pl := PL_le (sgF (mt 9) s) N
    have t16 : t 0 16 = nI s := (i1.2.1 16 (by decide) (by decide)).trans e16
    rw [w_X9_land_L12, w_X9_land_L12q, t16, i2, i1.2.2.1]
    have nl : ¬ PL (sgF (mt 9) s) N < s := by omega
    have nz : ¬ nI N = 0 := fun z => absurd ((nI_inj0 (b := N) (by omega)).mp z) (by omega)
    refine n1 (by decide) (n1 (fun y => nl ((nJ_lt (by omega) (by omega)).mp y)) (n2 nz ?_))
    rw [w_X9_land_b60]
    exact n2 (by decide) (hk t i1)
  · obtain ⟨i1, i2⟩ := hI
    obtain ⟨g1, g2⟩ := st_go (p2 i hi)
    have t16 : t 0 16 = nI s := (i1.2.1 16 (by decide) (by decide)).trans e16
    rw [w_X9_land_L12, w_X9_land_L12q, t16, i2, i1.2.2.1]
    refine n1 (by decide) (y1 ((nJ_lt (by omega) (by omega)).mpr g1) ?_)
    rw [w_X9_land_b34]
    refine t_statement hs (by omega) e16 i1 i2 (fun _ t' q1 q2 q3 => n1 (by decide) ?_) (fun z _ _ _ _ => absurd g2 z)
    rw [w_X9_land_b53, q2, nI_inc]
    exact hw _ ⟨q3 _ (fun j x => u2_off x) (fun x y => u2_0 y) u2_same, by rw [u2_0 (by decide)]; exact q1⟩
theorem t_landC {mt t : St} {s N : Nat} {sg : Nat → Int32} {x0 : SC} {K : Int32 → St → Prop} (hs : s ≤ 96) (hN : N ≤ 48) (hT : TS mt t s N sg) (p2 : ∀ i, i < N → stP sg s i = false) (hx : gX x0) (hm : RM x0.1 x0.2.1 mt x0.2.2) (h0 : mt 0 11 = 0)
    (hOk : (∀ j, j < N → P2 sg x0 j = false) → ∀ t', RM (Xq sg x0 N).1 (Xq sg x0 N).2.1 t' (Xq sg x0 N).2.2 → LF mt t' → K (nI N) (u2 t' 0 23 0))
    (hF : ∀ i, i < N → (∀ j, j < i → P2 sg x0 j = false) → P2 sg x0 i = true → ∀ t', (∀ i, i < 75 → lvM t' i = lvM mt i) → LF mt t' → K (-2000 - nI (PL sg i)) t') :
    w_X9_passesAll 1 1 (u2 t 0 16 0) (fun st81 => ∃ n, w_X9_land_L86 K n 0 st81) := by
  obtain ⟨T1, T2, T3, T4⟩ := hT
  refine t_saves (w := 1) (by decide) fun u v1 v2 v3 => ?_
  have uj : ∀ j, j ≠ 0 → j ≠ 13 → u j = t j := fun j x y => by rw [v1 j x y, u2_off x]
  have um : ∀ j, j ≠ 0 → j ≠ 13 → j ≠ 10 → j ≠ 11 → j ≠ 12 → u j = mt j := fun j x y z w q => (uj j x y).trans (T1 j x z w q)
  have u0 : ∀ a, a ≠ 16 → a ≠ 17 → a ≠ 18 → a ≠ 21 → a ≠ 22 → u 0 a = mt 0 a := fun a x y z w q => by rw [v2 a w q, u2_0 x, T2 a y z]
  have u16 : u 0 16 = 0 := by rw [v2 16 (by decide) (by decide), u2_same]
  have u18 : u 0 18 = nI N := by rw [v2 18 (by decide) (by decide), u2_0 (by decide)]; exact T3
  have lt : ∀ i, i < 75 → lvM (u2 t 0 16 0) i = lvM mt i := fun i _ => by
    have q : ∀ j, j ≠ 0 → j ≠ 10 → j ≠ 11 → j ≠ 12 → u2 t 0 16 0 j = mt j := fun j x y z w => by rw [u2_off x]; exact T1 j x y z w
    have q0 : ∀ a, a ≠ 16 → a ≠ 17 → a ≠ 18 → u2 t 0 16 0 0 a = mt 0 a := fun a x y z => by rw [u2_0 x]; exact T2 a y z
    unfold lvM
    rw [q 2 (by decide) (by decide) (by decide) (by decide), q 3 (by decide) (by decide) (by decide) (by decide), q 4 (by decide) (by decide) (by decide) (by decide), q 5 (by decide) (by decide) (by decide) (by decide), q 6 (by decide) (by decide) (by decide) (by decide), q 7 (by decide) (by decide) (by decide) (by decide), q 8 (by decide) (by decide) (by decide) (by decide), q0 8 (by decide) (by decide) (by decide), q0 9 (by decide) (by decide) (by decide), q0 10 (by decide) (by decide) (by decide)]
  have lu : ∀ i, i < 75 → lvM u i = lvM mt i := fun i _ => by
    unfold lvM
    rw [um 2 (by decide) (by decide) (by decide) (by decide) (by decide), um 3 (by decide) (by decide) (by decide) (by decide) (by decide), um 4 (by decide) (by decide) (by decide) (by decide) (by decide), um 5 (by decide) (by decide) (by decide) (by decide) (by decide), um 6 (by decide) (by decide) (by decide) (by decide) (by decide), um 7 (by decide) (by decide) (by decide) (by decide) (by decide), um 8 (by decide) (by decide) (by decide) (by decide) (by decide), u0 8 (by decide) (by decide) (by decide) (by decide) (by decide), u0 9 (by decide) (by decide) (by decide) (by decide) (by decide), u0 10 (by decide) (by decide) (by decide) (by decide) (by decide)]
  have u11 : u 0 11 = mt 0 11 := u0 11 (by decide) (by decide) (by decide) (by decide) (by decide)
  have lf : ∀ t', CF u t' → LF mt t' := fun t' hc => by
    refine ⟨by rw [hc.2 11 (by decide) (by decide) (by decide) (by decide)]; exact u11, by rw [hc.1 1 (by decide) (by decide) (by decide)]; exact um 1 (by decide) (by decide) (by decide) (by decide) (by decide), by rw [hc.1 9 (by decide) (by decide) (by decide)]; exact um 9 (by decide) (by decide) (by decide) (by decide) (by decide), by rw [hc.1 16 (by decide) (by decide) (by decide)]; exact um 16 (by decide) (by decide) (by decide) (by decide) (by decide),
      by rw [hc.2 16 (by decide) (by decide) (by decide) (by decide)]; exact u16, by rw [hc.2 20 (by decide) (by decide) (by decide) (by decide)]; exact u0 20 (by decide) (by decide) (by decide) (by decide) (by decide), by rw [hc.2 23 (by decide) (by decide) (by decide) (by decide)]; exact u0 23 (by decide) (by decide) (by decide) (by decide) (by decide), by rw [hc.2 29 (by decide) (by decide) (by decide) (by decide)]; exact u0 29 (by decide) (by decide) (by decide) (by decide) (by decide), fun a ha => ?_⟩
    rw [hc.1 13 (by decide) (by decide) (by decide), v3, if_neg (by omega), u2_off (by decide), T1 13 (by decide) (by decide) (by decide) (by decide)]
  refine lo_rel (fun m i (t' : St) => w_X9_land_L86 K m (nI i) t') (fun i t' => CF u t' ∧ RM (Xq sg x0 i).1 (Xq sg x0 i).2.1 t' (Xq sg x0 i).2.2 ∧ ∀ j, j < i → P2 sg x0 j = false) u (Nat.zero_le N) ⟨⟨fun _ _ _ _ => rfl, fun _ _ _ _ _ => rfl⟩, RM_lv hm lu u11, fun j hj => absurd hj (Nat.not_lt_zero j)⟩ (fun t' hI m => ?_) (fun m i t' _ hi hI hw => ?_)
  · obtain ⟨i1, i2, i3⟩ := hI
    have t18 : t' 0 18 = nI N := (i1.2 18 (by decide) (by decide) (by decide) (by decide)).trans u18
    rw [w_X9_land_L86, w_X9_land_L86q, t18]
    refine y1 (nI_le (Nat.le_refl N) (by omega)) ?_
    rw [w_X9_land_b128, u2_0 (by decide), t18]
    exact hOk i3 t' i2 (lf t' i1)
  · obtain ⟨i1, i2, i3⟩ := hI
    have t18 : t' 0 18 = nI N := (i1.2 18 (by decide) (by decide) (by decide) (by decide)).trans u18
    have t11 : t' 0 11 = 0 := ((i1.2 11 (by decide) (by decide) (by decide) (by decide)).trans u11).trans h0
    obtain ⟨k1, k2, k3, k4⟩ := st_good hs (p2 i hi)
    have gi := gX_all hs hx i fun j hj => ⟨p2 j (by omega), i3 j hj⟩
    have dt := T4 i hi
    have tj : ∀ j, j = 10 ∨ j = 11 ∨ j = 12 → t' j = t j := fun j hj => by
      rw [i1.1 j (by omega) (by omega) (by omega), uj j (by omega) (by omega)]
    rw [w_X9_land_L86, w_X9_land_L86q, t18]
    refine n1 (nI_ge hi (by omega)) (t_comes (sg := sg) (k := kdN sg (PL sg i)) (a := PL sg i) (x := Xq sg x0 i) (by omega) i2 gi.2.2.1 t11 k1 ?_ ?_ k3 (fun ok t'' rm cf => n1 (by decide) ?_) (fun ok => y1 rfl ?_))
    · rw [tj 10 (by decide), dt.1]; exact k2
    · rw [tj 12 (by decide)]
      exact dt.2.2 _ k2 (by rcases k1 with h | h | h | h | h | h <;> omega)
    · rw [nI_inc]
      refine hw _ ⟨i1.tr cf, rm, fun j hj => ?_⟩
      by_cases ej : j = i
      · subst ej
        unfold P2
        rw [ok]; rfl
      · exact i3 j (by omega)
    · rw [w_X9_land_b105]
      refine t_puts (w := 1) (by decide) fun s' w1 w2 w3 => ⟨vp_in_nI (by omega) (by decide), ?_⟩
      have e11 : s' 11 (nI i).toNatClampNeg = nI (PL sg i) := by
        rw [clI (show i < 48 by omega) (by decide), w2 11 (by decide) (by decide), tj 11 (by decide)]
        exact dt.2.1
      rw [e11]
      have l1 := lf t' i1
      refine hF i hi i3 (by unfold P2; rw [ok]; rfl) s' (fun a ha => ?_) ?_
      · rw [w1 a ha, i1.1 13 (by decide) (by decide) (by decide), v3, if_pos (by omega), lt _ (by omega)]
        congr 1; omega
      · obtain ⟨a1, a2, a3, a4, a5, a6, a7, a8, a9⟩ := l1
        exact ⟨by rw [w3 11 (by decide) (by decide) (by decide) (by decide) (by decide)]; exact a1, by rw [w2 1 (by decide) (by decide)]; exact a2, by rw [w2 9 (by decide) (by decide)]; exact a3, by rw [w2 16 (by decide) (by decide)]; exact a4, by rw [w3 16 (by decide) (by decide) (by decide) (by decide) (by decide)]; exact a5,
          by rw [w3 20 (by decide) (by decide) (by decide) (by decide) (by decide)]; exact a6, by rw [w3 23 (by decide) (by decide) (by decide) (by decide) (by decide)]; exact a7, by rw [w3 29 (by decide) (by decide) (by decide) (by decide) (by decide)]; exact a8, fun a ha => by rw [w2 13 (by decide) (by decide)]; exact a9 a ha⟩
theorem R_land {st mt st' mt' : St} (h : R st mt) (hn : Rnow st' mt') (z11 : zC (cv st' 11)) (z19 : zC (cv st' 19)) (hst : ∀ j, (j < 11 ∨ 27 ≤ j) → j ≠ 4 → st' j = st j) (e1 : st' 4 1 = 0) (lf : LF mt mt') : R st' mt' := by
  obtain ⟨h1, h2, h3, h4, h5, h6, h7, h8⟩ := h
  obtain ⟨a1, a2, a3, a4, a5, a6, a7, a8, a9⟩ := lf
  have oc : ∀ k, 27 ≤ k → cv st' k = cv st k := fun k hk => cv_eq fun j _ _ => hst j (by omega) (by omega)
  refine ⟨hn, fun k hk => ?_, by rw [hst 9 (by decide) (by decide)]; exact h3, h4.tr (hst 1 (by decide) (by decide)) a2, ⟨0, by decide, e1, a5, fun i hi => absurd hi (Nat.not_lt_zero i)⟩, h6.tr (hst 6 (by decide) (by decide)) (hst 7 (by decide) (by decide)) a8 a4,
    h7.tr (by rw [hst 0 (by decide) (by decide)]) (oc 27 (by decide)) a6 (fun a ha => a9 a (Or.inl ha)), h8.tr (hst 2 (by decide) (by decide)) (fun a b i => oc _ (by have := @pI_lt a b i; omega)) a7 (fun a ha => a9 a (Or.inr ha))⟩
  obtain ⟨i, hi, rfl⟩ := hk
  by_cases e : i = 0
  · subst e; exact z11
  · by_cases e' : i = 1
    · subst e'; exact z19
    · rw [oc _ (by omega)]; exact h2 _ ⟨i, hi, rfl⟩
theorem bp_nI {sg : Nat → Int32} {a : Nat} (h : ¬ bpV sg a = -9) : ∃ j, j ≤ a + 6 ∧ bpV sg a = nI j := by
  have hd := dgN_le (sg a)
  unfold bpV at h ⊢
  by_cases z : dgN (sg a) = 0
  · exact ⟨a, by omega, if_pos z⟩
  · rw [if_neg z] at h ⊢
    by_cases z2 : fstG (ndP sg) (dgN (sg a)) (a + 1) = -9
    · rw [if_pos z2] at h ⊢
      by_cases z3 : sg (a + dgN (sg a) + 1) = 59
      · rw [if_pos z3] at h; exact absurd rfl h
      · exact ⟨_, by omega, if_neg z3⟩
    · rw [if_neg z2] at h ⊢
      rcases fstG_some (P := ndP sg) (dgN (sg a)) (a + 1) with ⟨q, -⟩ | ⟨j, q1, q2, q3, q4, q5⟩
      · exact absurd q z2
      · exact ⟨j, by omega, by assumption⟩
theorem le_m1 : ∀ j, j < 200 → (-1000 : Int32) - nI j ≤ 0 := by decide +kernel
theorem le_m2 : ∀ j, j < 400 → (-2000 : Int32) - nI j ≤ 0 := by decide +kernel
theorem nm1 : ∀ j, j < 400 → nI j ≠ -1 := by decide +kernel
theorem le_N : ∀ j, j < 49 → 0 < j → ¬ nI j ≤ 0 := by decide +kernel
theorem sg0 {f : Nat → Int32} : bpV (sgF f 0) 0 = nI 0 := rfl
theorem x_tellA {st : St} {s N : Nat} {c : Ct} {K : Int32 → St → Prop} (hs : s ≤ 96) (h0 : 0 < s) (e : st 4 1 = nI s) (hN : N ≤ 48) (p1 : stP (sgF (st 5) s) s N = true) (p2 : ∀ i, i < N → stP (sgF (st 5) s) s i = false) (hA : PL (sgF (st 5) s) N < s)
    (hK : K (-1000 - bpV (sgF (st 5) s) (PL (sgF (st 5) s) N)) (sv st 19 c)) : w_X7_tellTo 19 (sv st 19 c) K := by
  have e5 : sv st 19 c 5 = st 5 := sv_off (by decide)
  have e4 : sv st 19 c 4 1 = nI s := by rw [sv_off (by decide)]; exact e
  have nb : ¬ bpV (sgF (st 5) s) (PL (sgF (st 5) s) N) = -9 := fun z => by
    unfold stP at p1
    rw [decide_eq_false (by omega), z] at p1
    simp at p1
  unfold w_X7_tellTo
  refine x_brokenPlace (s := s) (N := N) hs h0 e4 hN (by rw [e5]; exact p1) (by rw [e5]; exact p2) (fun _ => ?_) (fun z => ?_)
  · rw [e5]
    refine n1 (fun z => ?_) hK
    obtain ⟨j, j1, j2⟩ := bp_nI nb
    have pl := PL_le (sgF (st 5) s) N
    rw [j2] at z
    exact absurd z (nm1 j (by omega))
  · rw [e5] at z; omega
theorem x_tell0 {st : St} {K : Int32 → St → Prop} (e : st 4 1 = nI 0) (hK : K (-1000 - nI 0) st) : w_X7_tellTo 19 st K := by
  unfold w_X7_tellTo w_X7_brokenPlace
  exact y2 e (n1 (by decide) hK)
theorem sim_land {st mt : St} (h : R st mt) : w_X8_land st (fun r st' => w_X9_land mt (fun r' mt' => r = r' ∧ R st' mt')) := by
  obtain ⟨n, nL, hm, g⟩ := h.get
  obtain ⟨s, hs, k2, k3, k4⟩ := h.2.2.2.2.1
  have hz := h.2.1
  obtain ⟨N, hN, p1, p2⟩ := st_ex (sg := sgF (mt 9) s) hs
  have eg : sgF (st 5) s = sgF (mt 9) s := by
    funext a
    unfold sgF
    by_cases z : a < s
    · rw [if_pos z, if_pos z, k4 a z]
    · rw [if_neg z, if_neg z]
  have hb := RM_bec hm
  have hx : gX (n, nL, bec (cv st 11)) := ⟨hb.1, hb.2.1, gC_bec g, nC_bec nC_cv⟩
  have m11 : mt 0 11 = 0 := h.1.2
  have pl := PL_le (sgF (mt 9) s) N
  -- the class's ends
  have kF : ∀ (c : Ct) (mt' : St), gX (n, nL, c) ∨ (∃ a b, gX (a, b, c)) → (∀ i, i < 75 → lvM mt' i = lvM mt i) → LF mt mt' → R (u2 (sv st 19 c) 4 1 0) mt' := fun c mt' hc lv lf => by
    have hc' : zC c ∧ nC c := by
      rcases hc with z | ⟨a, b, z⟩
      · exact ⟨z.2.2.1.1, z.2.2.2⟩
      · exact ⟨z.2.2.1.1, z.2.2.2⟩
    have o11 : cv (u2 (sv st 19 c) 4 1 0) 11 = cv st 11 := by rw [cv_u2 (by decide), cv_off (by decide)]
    refine R_land h ⟨?_, lf.1.trans m11⟩ (by rw [o11]; exact hz 11 isC_11) (by rw [cv_u2 (by decide), cv_sv hc'.2]; exact hc'.1) (fun j a b => by rw [u2_off b, sv_off (by omega)]) u2_same lf
    rw [o11]
    exact h.1.1.cg lv
  have q3l : ∀ {t : St}, (∀ j, j ≠ 0 → j ≠ 10 → j ≠ 11 → j ≠ 12 → t j = mt j) → (∀ x, x ≠ 16 → x ≠ 17 → x ≠ 18 → t 0 x = mt 0 x) → ∀ i, i < 75 → lvM t i = lvM mt i := fun {t} q q0 i _ => by
    unfold lvM
    rw [q 2 (by decide) (by decide) (by decide) (by decide), q 3 (by decide) (by decide) (by decide) (by decide), q 4 (by decide) (by decide) (by decide) (by decide), q 5 (by decide) (by decide) (by decide) (by decide), q 6 (by decide) (by decide) (by decide) (by decide), q 7 (by decide) (by decide) (by decide) (by decide), q 8 (by decide) (by decide) (by decide) (by decide), q0 8 (by decide) (by decide) (by decide), q0 9 (by decide) (by decide) (by decide), q0 10 (by decide) (by decide) (by decide)]
  have lfA : ∀ {t : St}, (∀ j, j ≠ 0 → j ≠ 10 → j ≠ 11 → j ≠ 12 → t j = mt j) → (∀ x, x ≠ 16 → x ≠ 17 → x ≠ 18 → t 0 x = mt 0 x) → t 0 16 = 0 → LF mt t := fun {t} q q0 z => ⟨q0 11 (by decide) (by decide) (by decide), q 1 (by decide) (by decide) (by decide) (by decide), q 9 (by decide) (by decide) (by decide) (by decide), q 16 (by decide) (by decide) (by decide) (by decide), z, q0 20 (by decide) (by decide) (by decide), q0 23 (by decide) (by decide) (by decide), q0 29 (by decide) (by decide) (by decide), fun a _ => by rw [q 13 (by decide) (by decide) (by decide) (by decide)]⟩
  unfold w_X8_land
  refine s_become (by decide) (hz 19 isC_19) (hz 11 isC_11) ?_
  by_cases s0 : s = 0
  · -- nothing is told
    subst s0
    have hN0 : N = 0 := by
      by_cases z : N = 0
      · exact z
      · have := (st_good hs (p2 0 (by omega))).2.2.2
        omega
    subst hN0
    refine x_tell0 (by rw [sv_off (by decide)]; exact k2) ?_
    unfold w_X7_empty
    refine y1 (le_m1 0 (by decide)) (t_landA (N := 0) hs k3 (by decide) p2 (by rw [show PL (sgF (mt 9) 0) 0 = 0 from rfl, sg0]; decide) (Or.inr rfl) fun t q1 q2 q3 => ⟨by rw [show PL (sgF (mt 9) 0) 0 = 0 from rfl, sg0], ?_⟩)
    exact kF _ t (Or.inl hx) (q3l q1 q2) (lfA q1 q2 q3)
  · by_cases z : PL (sgF (mt 9) s) N < s
    · -- broken
      have nb : ¬ bpV (sgF (mt 9) s) (PL (sgF (mt 9) s) N) = -9 := fun z' => by
        unfold stP at p1
        rw [decide_eq_false (by omega), z'] at p1
        simp at p1
      obtain ⟨j, j1, j2⟩ := bp_nI nb
      refine x_tellA hs (by omega) k2 hN (by rw [eg]; exact p1) (by rw [eg]; exact p2) (by rw [eg]; exact z) ?_
      rw [eg]
      unfold w_X7_empty
      refine y1 (by rw [j2]; exact le_m1 j (by omega)) (t_landA hs k3 ?_ p2 nb (Or.inl z) fun t q1 q2 q3 => ⟨rfl, kF _ t (Or.inl hx) (q3l q1 q2) (lfA q1 q2 q3)⟩)
      omega
    · have N0 : 0 < N := by
        by_cases y : N = 0
        · subst y; exact absurd (show PL (sgF (mt 9) s) 0 < s from Nat.pos_of_ne_zero s0) z
        · omega
      refine x_tellB (x0 := (n, nL, bec (cv st 11))) hs (by omega) k2 hN (by rw [eg]; exact p1) (by rw [eg]; exact p2) (by rw [eg]; omega) hx (fun hg => ?_) (fun i hi hg hb' => ?_)
      · rw [eg] at hg ⊢
        have gN := gX_all hs hx N fun j hj => ⟨p2 j hj, hg j hj⟩
        unfold w_X7_empty
        have o11 : ∀ c, cv (u2 (sv st 19 c) 4 1 0) 11 = cv st 11 := fun c => by rw [cv_u2 (by decide), cv_off (by decide)]
        have o19 : ∀ c, nC c → cv (u2 (sv st 19 c) 4 1 0) 19 = c := fun c hc => by rw [cv_u2 (by decide), cv_sv hc]
        refine n1 (le_N N (by omega) N0) (s_become (by decide) (by rw [o11]; exact hz 11 isC_11) (by rw [o19 _ gN.2.2.2]; exact gN.2.2.1.1) ?_)
        rw [o19 _ gN.2.2.2]
        unfold w_X5_forget
        refine t_landB hs k3 hN N0 p2 (by omega) fun t hT => t_landC hs hN hT p2 hx hb m11 (fun _ t' rm lf => ⟨rfl, R_forget ?_⟩) (fun i' hi' hg' hb'' t' lv lf => ?_)
        · have c11 : cv (sv (u2 (sv st 19 (Xq (sgF (mt 9) s) (n, nL, bec (cv st 11)) N).2.2) 4 1 0) 11 (bec (Xq (sgF (mt 9) s) (n, nL, bec (cv st 11)) N).2.2)) 11 = bec (Xq (sgF (mt 9) s) (n, nL, bec (cv st 11)) N).2.2 := cv_sv (nC_bec gN.2.2.2)
          refine R_land h (Rnow_of (by rw [c11]; exact RM_bec rm) (lf.1.trans m11) (by rw [c11]; exact gC_bec gN.2.2.1)) (by rw [c11]; exact zC_bec gN.2.2.1.1) ?_ (fun j a b => ?_) ?_ lf
          · rw [cv_off (by decide), o19 _ gN.2.2.2]; exact gN.2.2.1.1
          · rw [sv_off (by omega), u2_off b, sv_off (by omega)]
          · rw [sv_off (by decide), u2_same]
        · rw [hg i' hi'] at hb''; cases hb''
      · rw [eg] at hg hb' ⊢
        have gi := gX_all hs hx i fun j hj => ⟨p2 j (by omega), hg j hj⟩
        have pli := PL_le (sgF (mt 9) s) i
        unfold w_X7_empty
        refine y1 (le_m2 _ (by omega)) (t_landB hs k3 hN N0 p2 (by omega) fun t hT => t_landC hs hN hT p2 hx hb m11 (fun hg' => ?_) (fun i' hi' hg' hb'' t' lv lf => ?_))
        · rw [hg' i hi] at hb'; cases hb'
        · have ei : i' = i := by
            by_cases a : i' < i
            · rw [hg i' a] at hb''; cases hb''
            · by_cases b : i < i'
              · rw [hg' i b] at hb'; cases hb'
              · omega
          subst ei
          exact ⟨rfl, kF _ t' (Or.inr ⟨_, _, gi⟩) lv lf⟩
end
