theorem hd_J6_bitCount_0f7a4 : yJ6_bitCount_0f7a4.cls ≠ "java/lang/invoke/MethodHandle" ∧ yJ6_bitCount_0f7a4.cls ≠ "java/lang/invoke/VarHandle" ∧ (parseMethodDescriptor yJ6_bitCount_0f7a4.desc).map (fun d => d.parameters.length) = some 1 := by decide +kernel
set_option maxRecDepth 100000 in
set_option maxHeartbeats 4000000 in
theorem c_J6_bitCount_0f7a4 (l : Launch) (y : Sy) (x0 : Int32) (st : St) (K : Int32 → St → Prop) (hw : w_J6_bitCount_0f7a4 x0 st K) : Ci 107 enX l yJ6_bitCount_0f7a4 cJ6_bitCount_0f7a4 1 (some .int) 0 0 y [.int x0] st K := by
  refine ent (by decide) (Nat.le_of_ble_eq_true rfl) ?_
  intro p e s m below meth c C hG ls hl
  have hl : lv_has ls 1 [(0, .int x0)] := hl
  generalize ([.int x0] : List Value).toArray = args at C ⊢
  have C : Sd p s m args meth c cJ6_bitCount_0f7a4 1 RJ6 (some .int) y := C
  obtain ⟨hx, hb, hml, hown, hts, hr, hlk, hK, hN⟩ := id C
  generalize s.heap = H at hG ⊢
  generalize ([] : List Loc) = locs at hG ⊢
  unfold w_J6_bitCount_0f7a4 at hw
  refine lv_iload_n hx hb dJ6_bitCount_0f7a4_0 rfl (lv_at hl 0 rfl) ?_
  refine lv_iload_n hx hb dJ6_bitCount_0f7a4_1 rfl (lv_at hl 0 rfl) ?_
  refine lv_iconst (v := 1) hx hb dJ6_bitCount_0f7a4_2 (by decide) ?_
  refine lv_iushr (v := ((x0.toUInt32 >>> ((1 : Int32).toUInt32 &&& Int32.toUInt32 31)).toInt32)) hx hb dJ6_bitCount_0f7a4_3 rfl ?_
  refine lv_ldcw (v := 1431655765) hx hb hown (hts _ qK_J6_265) dJ6_bitCount_0f7a4_4 ?_
  refine lv_iand hx hb dJ6_bitCount_0f7a4_7 ?_
  refine lv_isub hx hb dJ6_bitCount_0f7a4_8 ?_
  refine lv_istore_n (lv' := [(0, .int (x0 - (((x0.toUInt32 >>> ((1 : Int32).toUInt32 &&& Int32.toUInt32 31)).toInt32) &&& 1431655765)))]) hx hb dJ6_bitCount_0f7a4_9 rfl hl (Nat.le_of_ble_eq_true rfl) rfl (fun ls hl => ?_)
  refine lv_iload_n hx hb dJ6_bitCount_0f7a4_10 rfl (lv_at hl 0 rfl) ?_
  refine lv_ldcw (v := 858993459) hx hb hown (hts _ qK_J6_266) dJ6_bitCount_0f7a4_11 ?_
  refine lv_iand hx hb dJ6_bitCount_0f7a4_14 ?_
  refine lv_iload_n hx hb dJ6_bitCount_0f7a4_15 rfl (lv_at hl 0 rfl) ?_
  refine lv_iconst (v := 2) hx hb dJ6_bitCount_0f7a4_16 (by decide) ?_
  refine lv_iushr (v := (((x0 - (((x0.toUInt32 >>> ((1 : Int32).toUInt32 &&& Int32.toUInt32 31)).toInt32) &&& 1431655765)).toUInt32 >>> ((2 : Int32).toUInt32 &&& Int32.toUInt32 31)).toInt32)) hx hb dJ6_bitCount_0f7a4_17 rfl ?_
  refine lv_ldcw (v := 858993459) hx hb hown (hts _ qK_J6_266) dJ6_bitCount_0f7a4_18 ?_
  refine lv_iand hx hb dJ6_bitCount_0f7a4_21 ?_
  refine lv_iadd hx hb dJ6_bitCount_0f7a4_22 ?_
  refine lv_istore_n (lv' := [(0, .int (((x0 - (((x0.toUInt32 >>> ((1 : Int32).toUInt32 &&& Int32.toUInt32 31)).toInt32) &&& 1431655765)) &&& 858993459) + ((((x0 - (((x0.toUInt32 >>> ((1 : Int32).toUInt32 &&& Int32.toUInt32 31)).toInt32) &&& 1431655765)).toUInt32 >>> ((2 : Int32).toUInt32 &&& Int32.toUInt32 31)).toInt32) &&& 858993459)))]) hx hb dJ6_bitCount_0f7a4_23 rfl hl (Nat.le_of_ble_eq_true rfl) rfl (fun ls hl => ?_)
  refine lv_iload_n hx hb dJ6_bitCount_0f7a4_24 rfl (lv_at hl 0 rfl) ?_
  refine lv_iload_n hx hb dJ6_bitCount_0f7a4_25 rfl (lv_at hl 0 rfl) ?_
  refine lv_iconst (v := 4) hx hb dJ6_bitCount_0f7a4_26 (by decide) ?_
  refine lv_iushr (v := (((((x0 - (((x0.toUInt32 >>> ((1 : Int32).toUInt32 &&& Int32.toUInt32 31)).toInt32) &&& 1431655765)) &&& 858993459) + ((((x0 - (((x0.toUInt32 >>> ((1 : Int32).toUInt32 &&& Int32.toUInt32 31)).toInt32) &&& 1431655765)).toUInt32 >>> ((2 : Int32).toUInt32 &&& Int32.toUInt32 31)).toInt32) &&& 858993459)).toUInt32 >>> ((4 : Int32).toUInt32 &&& Int32.toUInt32 31)).toInt32)) hx hb dJ6_bitCount_0f7a4_27 rfl ?_
  refine lv_iadd hx hb dJ6_bitCount_0f7a4_28 ?_
  refine lv_ldcw (v := 252645135) hx hb hown (hts _ qK_J6_267) dJ6_bitCount_0f7a4_29 ?_
  refine lv_iand hx hb dJ6_bitCount_0f7a4_32 ?_
  refine lv_istore_n (lv' := [(0, .int (((((x0 - (((x0.toUInt32 >>> ((1 : Int32).toUInt32 &&& Int32.toUInt32 31)).toInt32) &&& 1431655765)) &&& 858993459) + ((((x0 - (((x0.toUInt32 >>> ((1 : Int32).toUInt32 &&& Int32.toUInt32 31)).toInt32) &&& 1431655765)).toUInt32 >>> ((2 : Int32).toUInt32 &&& Int32.toUInt32 31)).toInt32) &&& 858993459)) + (((((x0 - (((x0.toUInt32 >>> ((1 : Int32).toUInt32 &&& Int32.toUInt32 31)).toInt32) &&& 1431655765)) &&& 858993459) + ((((x0 - (((x0.toUInt32 >>> ((1 : Int32).toUInt32 &&& Int32.toUInt32 31)).toInt32) &&& 1431655765)).toUInt32 >>> ((2 : Int32).toUInt32 &&& Int32.toUInt32 31)).toInt32) &&& 858993459)).toUInt32 >>> ((4 : Int32).toUInt32 &&& Int32.toUInt32 31)).toInt32)) &&& 252645135))]) hx hb dJ6_bitCount_0f7a4_33 rfl hl (Nat.le_of_ble_eq_true rfl) rfl (fun ls hl => ?_)
  refine lv_iload_n hx hb dJ6_bitCount_0f7a4_34 rfl (lv_at hl 0 rfl) ?_
  refine lv_iload_n hx hb dJ6_bitCount_0f7a4_35 rfl (lv_at hl 0 rfl) ?_
  refine lv_bipush (v := 8) hx hb dJ6_bitCount_0f7a4_36 (by decide) ?_
  refine lv_iushr (v := (((((((x0 - (((x0.toUInt32 >>> ((1 : Int32).toUInt32 &&& Int32.toUInt32 31)).toInt32) &&& 1431655765)) &&& 858993459) + ((((x0 - (((x0.toUInt32 >>> ((1 : Int32).toUInt32 &&& Int32.toUInt32 31)).toInt32) &&& 1431655765)).toUInt32 >>> ((2 : Int32).toUInt32 &&& Int32.toUInt32 31)).toInt32) &&& 858993459)) + (((((x0 - (((x0.toUInt32 >>> ((1 : Int32).toUInt32 &&& Int32.toUInt32 31)).toInt32) &&& 1431655765)) &&& 858993459) + ((((x0 - (((x0.toUInt32 >>> ((1 : Int32).toUInt32 &&& Int32.toUInt32 31)).toInt32) &&& 1431655765)).toUInt32 >>> ((2 : Int32).toUInt32 &&& Int32.toUInt32 31)).toInt32) &&& 858993459)).toUInt32 >>> ((4 : Int32).toUInt32 &&& Int32.toUInt32 31)).toInt32)) &&& 252645135).toUInt32 >>> ((8 : Int32).toUInt32 &&& Int32.toUInt32 31)).toInt32)) hx hb dJ6_bitCount_0f7a4_38 rfl ?_
  refine lv_iadd hx hb dJ6_bitCount_0f7a4_39 ?_
  refine lv_istore_n (lv' := [(0, .int ((((((x0 - (((x0.toUInt32 >>> ((1 : Int32).toUInt32 &&& Int32.toUInt32 31)).toInt32) &&& 1431655765)) &&& 858993459) + ((((x0 - (((x0.toUInt32 >>> ((1 : Int32).toUInt32 &&& Int32.toUInt32 31)).toInt32) &&& 1431655765)).toUInt32 >>> ((2 : Int32).toUInt32 &&& Int32.toUInt32 31)).toInt32) &&& 858993459)) + (((((x0 - (((x0.toUInt32 >>> ((1 : Int32).toUInt32 &&& Int32.toUInt32 31)).toInt32) &&& 1431655765)) &&& 858993459) + ((((x0 - (((x0.toUInt32 >>> ((1 : Int32).toUInt32 &&& Int32.toUInt32 31)).toInt32) &&& 1431655765)).toUInt32 >>> ((2 : Int32).toUInt32 &&& Int32.toUInt32 31)).toInt32) &&& 858993459)).toUInt32 >>> ((4 : Int32).toUInt32 &&& Int32.toUInt32 31)).toInt32)) &&& 252645135) + (((((((x0 - (((x0.toUInt32 >>> ((1 : Int32).toUInt32 &&& Int32.toUInt32 31)).toInt32) &&& 1431655765)) &&& 858993459) + ((((x0 - (((x0.toUInt32 >>> ((1 : Int32).toUInt32 &&& Int32.toUInt32 31)).toInt32) &&& 1431655765)).toUInt32 >>> ((2 : Int32).toUInt32 &&& Int32.toUInt32 31)).toInt32) &&& 858993459)) + (((((x0 - (((x0.toUInt32 >>> ((1 : Int32).toUInt32 &&& Int32.toUInt32 31)).toInt32) &&& 1431655765)) &&& 858993459) + ((((x0 - (((x0.toUInt32 >>> ((1 : Int32).toUInt32 &&& Int32.toUInt32 31)).toInt32) &&& 1431655765)).toUInt32 >>> ((2 : Int32).toUInt32 &&& Int32.toUInt32 31)).toInt32) &&& 858993459)).toUInt32 >>> ((4 : Int32).toUInt32 &&& Int32.toUInt32 31)).toInt32)) &&& 252645135).toUInt32 >>> ((8 : Int32).toUInt32 &&& Int32.toUInt32 31)).toInt32)))]) hx hb dJ6_bitCount_0f7a4_40 rfl hl (Nat.le_of_ble_eq_true rfl) rfl (fun ls hl => ?_)
  refine lv_iload_n hx hb dJ6_bitCount_0f7a4_41 rfl (lv_at hl 0 rfl) ?_
  refine lv_iload_n hx hb dJ6_bitCount_0f7a4_42 rfl (lv_at hl 0 rfl) ?_
  refine lv_bipush (v := 16) hx hb dJ6_bitCount_0f7a4_43 (by decide) ?_
  refine lv_iushr (v := ((((((((x0 - (((x0.toUInt32 >>> ((1 : Int32).toUInt32 &&& Int32.toUInt32 31)).toInt32) &&& 1431655765)) &&& 858993459) + ((((x0 - (((x0.toUInt32 >>> ((1 : Int32).toUInt32 &&& Int32.toUInt32 31)).toInt32) &&& 1431655765)).toUInt32 >>> ((2 : Int32).toUInt32 &&& Int32.toUInt32 31)).toInt32) &&& 858993459)) + (((((x0 - (((x0.toUInt32 >>> ((1 : Int32).toUInt32 &&& Int32.toUInt32 31)).toInt32) &&& 1431655765)) &&& 858993459) + ((((x0 - (((x0.toUInt32 >>> ((1 : Int32).toUInt32 &&& Int32.toUInt32 31)).toInt32) &&& 1431655765)).toUInt32 >>> ((2 : Int32).toUInt32 &&& Int32.toUInt32 31)).toInt32) &&& 858993459)).toUInt32 >>> ((4 : Int32).toUInt32 &&& Int32.toUInt32 31)).toInt32)) &&& 252645135) + (((((((x0 - (((x0.toUInt32 >>> ((1 : Int32).toUInt32 &&& Int32.toUInt32 31)).toInt32) &&& 1431655765)) &&& 858993459) + ((((x0 - (((x0.toUInt32 >>> ((1 : Int32).toUInt32 &&& Int32.toUInt32 31)).toInt32) &&& 1431655765)).toUInt32 >>> ((2 : Int32).toUInt32 &&& Int32.toUInt32 31)).toInt32) &&& 858993459)) + (((((x0 - (((x0.toUInt32 >>> ((1 : Int32).toUInt32 &&& Int32.toUInt32 31)).toInt32) &&& 1431655765)) &&& 858993459) + ((((x0 - (((x0.toUInt32 >>> ((1 : Int32).toUInt32 &&& Int32.toUInt32 31)).toInt32) &&& 1431655765)).toUInt32 >>> ((2 : Int32).toUInt32 &&& Int32.toUInt32 31)).toInt32) &&& 858993459)).toUInt32 >>> ((4 : Int32).toUInt32 &&& Int32.toUInt32 31)).toInt32)) &&& 252645135).toUInt32 >>> ((8 : Int32).toUInt32 &&& Int32.toUInt32 31)).toInt32)).toUInt32 >>> ((16 : Int32).toUInt32 &&& Int32.toUInt32 31)).toInt32)) hx hb dJ6_bitCount_0f7a4_45 rfl ?_
  refine lv_iadd hx hb dJ6_bitCount_0f7a4_46 ?_
  refine lv_istore_n (lv' := [(0, .int (((((((x0 - (((x0.toUInt32 >>> ((1 : Int32).toUInt32 &&& Int32.toUInt32 31)).toInt32) &&& 1431655765)) &&& 858993459) + ((((x0 - (((x0.toUInt32 >>> ((1 : Int32).toUInt32 &&& Int32.toUInt32 31)).toInt32) &&& 1431655765)).toUInt32 >>> ((2 : Int32).toUInt32 &&& Int32.toUInt32 31)).toInt32) &&& 858993459)) + (((((x0 - (((x0.toUInt32 >>> ((1 : Int32).toUInt32 &&& Int32.toUInt32 31)).toInt32) &&& 1431655765)) &&& 858993459) + ((((x0 - (((x0.toUInt32 >>> ((1 : Int32).toUInt32 &&& Int32.toUInt32 31)).toInt32) &&& 1431655765)).toUInt32 >>> ((2 : Int32).toUInt32 &&& Int32.toUInt32 31)).toInt32) &&& 858993459)).toUInt32 >>> ((4 : Int32).toUInt32 &&& Int32.toUInt32 31)).toInt32)) &&& 252645135) + (((((((x0 - (((x0.toUInt32 >>> ((1 : Int32).toUInt32 &&& Int32.toUInt32 31)).toInt32) &&& 1431655765)) &&& 858993459) + ((((x0 - (((x0.toUInt32 >>> ((1 : Int32).toUInt32 &&& Int32.toUInt32 31)).toInt32) &&& 1431655765)).toUInt32 >>> ((2 : Int32).toUInt32 &&& Int32.toUInt32 31)).toInt32) &&& 858993459)) + (((((x0 - (((x0.toUInt32 >>> ((1 : Int32).toUInt32 &&& Int32.toUInt32 31)).toInt32) &&& 1431655765)) &&& 858993459) + ((((x0 - (((x0.toUInt32 >>> ((1 : Int32).toUInt32 &&& Int32.toUInt32 31)).toInt32) &&& 1431655765)).toUInt32 >>> ((2 : Int32).toUInt32 &&& Int32.toUInt32 31)).toInt32) &&& 858993459)).toUInt32 >>> ((4 : Int32).toUInt32 &&& Int32.toUInt32 31)).toInt32)) &&& 252645135).toUInt32 >>> ((8 : Int32).toUInt32 &&& Int32.toUInt32 31)).toInt32)) + ((((((((x0 - (((x0.toUInt32 >>> ((1 : Int32).toUInt32 &&& Int32.toUInt32 31)).toInt32) &&& 1431655765)) &&& 858993459) + ((((x0 - (((x0.toUInt32 >>> ((1 : Int32).toUInt32 &&& Int32.toUInt32 31)).toInt32) &&& 1431655765)).toUInt32 >>> ((2 : Int32).toUInt32 &&& Int32.toUInt32 31)).toInt32) &&& 858993459)) + (((((x0 - (((x0.toUInt32 >>> ((1 : Int32).toUInt32 &&& Int32.toUInt32 31)).toInt32) &&& 1431655765)) &&& 858993459) + ((((x0 - (((x0.toUInt32 >>> ((1 : Int32).toUInt32 &&& Int32.toUInt32 31)).toInt32) &&& 1431655765)).toUInt32 >>> ((2 : Int32).toUInt32 &&& Int32.toUInt32 31)).toInt32) &&& 858993459)).toUInt32 >>> ((4 : Int32).toUInt32 &&& Int32.toUInt32 31)).toInt32)) &&& 252645135) + (((((((x0 - (((x0.toUInt32 >>> ((1 : Int32).toUInt32 &&& Int32.toUInt32 31)).toInt32) &&& 1431655765)) &&& 858993459) + ((((x0 - (((x0.toUInt32 >>> ((1 : Int32).toUInt32 &&& Int32.toUInt32 31)).toInt32) &&& 1431655765)).toUInt32 >>> ((2 : Int32).toUInt32 &&& Int32.toUInt32 31)).toInt32) &&& 858993459)) + (((((x0 - (((x0.toUInt32 >>> ((1 : Int32).toUInt32 &&& Int32.toUInt32 31)).toInt32) &&& 1431655765)) &&& 858993459) + ((((x0 - (((x0.toUInt32 >>> ((1 : Int32).toUInt32 &&& Int32.toUInt32 31)).toInt32) &&& 1431655765)).toUInt32 >>> ((2 : Int32).toUInt32 &&& Int32.toUInt32 31)).toInt32) &&& 858993459)).toUInt32 >>> ((4 : Int32).toUInt32 &&& Int32.toUInt32 31)).toInt32)) &&& 252645135).toUInt32 >>> ((8 : Int32).toUInt32 &&& Int32.toUInt32 31)).toInt32)).toUInt32 >>> ((16 : Int32).toUInt32 &&& Int32.toUInt32 31)).toInt32)))]) hx hb dJ6_bitCount_0f7a4_47 rfl hl (Nat.le_of_ble_eq_true rfl) rfl (fun ls hl => ?_)
  refine lv_iload_n hx hb dJ6_bitCount_0f7a4_48 rfl (lv_at hl 0 rfl) ?_
  refine lv_bipush (v := 63) hx hb dJ6_bitCount_0f7a4_49 (by decide) ?_
  refine lv_iand hx hb dJ6_bitCount_0f7a4_51 ?_
  exact r_iret hx hb hr hlk hK hG rfl hw dJ6_bitCount_0f7a4_52
theorem hd_X1_hasKeeper : yX1_hasKeeper.cls ≠ "java/lang/invoke/MethodHandle" ∧ yX1_hasKeeper.cls ≠ "java/lang/invoke/VarHandle" ∧ (parseMethodDescriptor yX1_hasKeeper.desc).map (fun d => d.parameters.length) = some 1 := by decide +kernel
set_option maxRecDepth 100000 in
set_option maxHeartbeats 4000000 in
theorem c_X1_hasKeeper (l : Launch) (y : Sy) (k0 : Nat) (h0 : isC k0) (x1 : Int32) (st : St) (K : Int32 → St → Prop) (hw : w_X1_hasKeeper k0 x1 st K) : Ci 107 enX l yX1_hasKeeper cX1_hasKeeper 2 (some .boolean) 0 0 y [.ref (ad y k0), .int x1] st K := by
  refine ent (by decide) (Nat.le_of_ble_eq_true rfl) ?_
  intro p e s m below meth c C hG ls hl
  have hl : lv_has ls 2 [(0, .ref (ad y k0)), (1, .int x1)] := hl
  generalize ([.ref (ad y k0), .int x1] : List Value).toArray = args at C ⊢
  have C : Sd p s m args meth c cX1_hasKeeper 2 RX1 (some .boolean) y := C
  obtain ⟨hx, hb, hml, hown, hts, hr, hlk, hK, hN⟩ := id C
  generalize s.heap = H at hG ⊢
  generalize ([] : List Loc) = locs at hG ⊢
  unfold w_X1_hasKeeper at hw
  refine lv_iload_n hx hb dX1_hasKeeper_0 rfl (lv_at hl 1 rfl) ?_
  refine lv_if_lt (tgt := 16) hx hb dX1_hasKeeper_1 (by decide) (fun hc => ?_) (fun hc => ?_)
  · replace hw := hw.1 hc
    refine lv_iconst (v := 0) hx hb dX1_hasKeeper_16 (by decide) ?_
    exact r_iret hx hb hr hlk hK hG rfl hw dX1_hasKeeper_17
  · replace hw := hw.2 hc
    refine lv_iload_n hx hb dX1_hasKeeper_4 rfl (lv_at hl 1 rfl) ?_
    refine lv_aload_n hx hb dX1_hasKeeper_5 rfl (lv_at hl 0 rfl) ?_
    refine r_get (C := RX1) (T := TX1) (Nf := 11) hx hb hts hown hK hG (isC.lt h0) (isC.e h0 y _) rfl inX1 7 (by decide) qF_X1_43 rfl dX1_hasKeeper_6 ?_
    refine lv_icmp_ge (tgt := 16) hx hb dX1_hasKeeper_9 (by decide) (fun hc => ?_) (fun hc => ?_)
    · replace hw := hw.1 hc
      refine lv_iconst (v := 0) hx hb dX1_hasKeeper_16 (by decide) ?_
      exact r_iret hx hb hr hlk hK hG rfl hw dX1_hasKeeper_17
    · replace hw := hw.2 hc
      refine lv_iconst (v := 1) hx hb dX1_hasKeeper_12 (by decide) ?_
      refine lv_goto (tgt := 17) hx hb dX1_hasKeeper_13 (by decide) ?_
      exact r_iret hx hb hr hlk hK hG rfl hw dX1_hasKeeper_17
theorem hd_X8_at : yX8_at.cls ≠ "java/lang/invoke/MethodHandle" ∧ yX8_at.cls ≠ "java/lang/invoke/VarHandle" ∧ (parseMethodDescriptor yX8_at.desc).map (fun d => d.parameters.length) = some 2 := by decide +kernel
set_option maxRecDepth 100000 in
set_option maxHeartbeats 4000000 in
theorem c_X8_at (l : Launch) (y : Sy) (k0 : Nat) (n0 : Nat) (h0 : isA k0 n0) (x1 : Int32) (st : St) (K : Int32 → St → Prop) (hw : w_X8_at k0 n0 x1 st K) : Ci 107 enX l yX8_at cX8_at 2 (some .int) 0 0 y [.ref (ad y k0), .int x1] st K := by
  refine ent (by decide) (Nat.le_of_ble_eq_true rfl) ?_
  intro p e s m below meth c C hG ls hl
  have hl : lv_has ls 2 [(0, .ref (ad y k0)), (1, .int x1)] := hl
  generalize ([.ref (ad y k0), .int x1] : List Value).toArray = args at C ⊢
  have C : Sd p s m args meth c cX8_at 2 RX8 (some .int) y := C
  obtain ⟨hx, hb, hml, hown, hts, hr, hlk, hK, hN⟩ := id C
  generalize s.heap = H at hG ⊢
  generalize ([] : List Loc) = locs at hG ⊢
  unfold w_X8_at at hw
  refine lv_aload_n hx hb dX8_at_0 rfl (lv_at hl 0 rfl) ?_
  refine lv_ifnull hx hb dX8_at_1 ?_
  refine lv_iload_n hx hb dX8_at_4 rfl (lv_at hl 1 rfl) ?_
  refine lv_if_lt (tgt := 20) hx hb dX8_at_5 (by decide) (fun hc => ?_) (fun hc => ?_)
  · replace hw := hw.1 hc
    refine lv_iconst (v := 0) hx hb dX8_at_20 (by decide) ?_
    exact r_iret hx hb hr hlk hK hG rfl hw dX8_at_21
  · replace hw := hw.2 hc
    refine lv_iload_n hx hb dX8_at_8 rfl (lv_at hl 1 rfl) ?_
    refine lv_aload_n hx hb dX8_at_9 rfl (lv_at hl 0 rfl) ?_
    refine r_alen (v := (nI n0)) hx hb hK hG (h0).1 ((h0).2 y _) rfl dX8_at_10 ?_
    refine lv_icmp_ge (tgt := 20) hx hb dX8_at_11 (by decide) (fun hc => ?_) (fun hc => ?_)
    · replace hw := hw.1 hc
      refine lv_iconst (v := 0) hx hb dX8_at_20 (by decide) ?_
      exact r_iret hx hb hr hlk hK hG rfl hw dX8_at_21
    · replace hw := hw.2 hc
      refine lv_aload_n hx hb dX8_at_14 rfl (lv_at hl 0 rfl) ?_
      refine lv_iload_n hx hb dX8_at_15 rfl (lv_at hl 1 rfl) ?_
      obtain ⟨hi, hw⟩ := hw
      refine r_iald hx hb hK hG (h0).1 ((h0).2 y _) hi dX8_at_16 ?_
      refine lv_goto (tgt := 21) hx hb dX8_at_17 (by decide) ?_
      exact r_iret hx hb hr hlk hK hG rfl hw dX8_at_21
theorem hd_X8_bit : yX8_bit.cls ≠ "java/lang/invoke/MethodHandle" ∧ yX8_bit.cls ≠ "java/lang/invoke/VarHandle" ∧ (parseMethodDescriptor yX8_bit.desc).map (fun d => d.parameters.length) = some 2 := by decide +kernel
set_option maxRecDepth 100000 in
set_option maxHeartbeats 4000000 in
theorem c_X8_bit (l : Launch) (y : Sy) (x0 : Int32) (x1 : Int32) (st : St) (K : Int32 → St → Prop) (hw : w_X8_bit x0 x1 st K) : Ci 107 enX l yX8_bit cX8_bit 2 (some .int) 0 0 y [.int x0, .int x1] st K := by
  refine ent (by decide) (Nat.le_of_ble_eq_true rfl) ?_
  intro p e s m below meth c C hG ls hl
  have hl : lv_has ls 2 [(0, .int x0), (1, .int x1)] := hl
  generalize ([.int x0, .int x1] : List Value).toArray = args at C ⊢
  have C : Sd p s m args meth c cX8_bit 2 RX8 (some .int) y := C
  obtain ⟨hx, hb, hml, hown, hts, hr, hlk, hK, hN⟩ := id C
  generalize s.heap = H at hG ⊢
  generalize ([] : List Loc) = locs at hG ⊢
  unfold w_X8_bit at hw
  refine lv_iload_n hx hb dX8_bit_0 rfl (lv_at hl 1 rfl) ?_
  refine lv_if_lt (tgt := 18) hx hb dX8_bit_1 (by decide) (fun hc => ?_) (fun hc => ?_)
  · replace hw := hw.1 hc
    refine lv_iconst (v := 0) hx hb dX8_bit_18 (by decide) ?_
    exact r_iret hx hb hr hlk hK hG rfl hw dX8_bit_19
  · replace hw := hw.2 hc
    refine lv_iload_n hx hb dX8_bit_4 rfl (lv_at hl 1 rfl) ?_
    refine lv_bipush (v := 31) hx hb dX8_bit_5 (by decide) ?_
    refine lv_icmp_ge (tgt := 18) hx hb dX8_bit_7 (by decide) (fun hc => ?_) (fun hc => ?_)
    · replace hw := hw.1 hc
      refine lv_iconst (v := 0) hx hb dX8_bit_18 (by decide) ?_
      exact r_iret hx hb hr hlk hK hG rfl hw dX8_bit_19
    · replace hw := hw.2 hc
      refine lv_iload_n hx hb dX8_bit_10 rfl (lv_at hl 0 rfl) ?_
      refine lv_iload_n hx hb dX8_bit_11 rfl (lv_at hl 1 rfl) ?_
      refine lv_ishr hx hb dX8_bit_12 ?_
      refine lv_iconst (v := 1) hx hb dX8_bit_13 (by decide) ?_
      refine lv_iand hx hb dX8_bit_14 ?_
      refine lv_goto (tgt := 19) hx hb dX8_bit_15 (by decide) ?_
      exact r_iret hx hb hr hlk hK hG rfl hw dX8_bit_19
theorem hd_X1_isOpen : yX1_isOpen.cls ≠ "java/lang/invoke/MethodHandle" ∧ yX1_isOpen.cls ≠ "java/lang/invoke/VarHandle" ∧ (parseMethodDescriptor yX1_isOpen.desc).map (fun d => d.parameters.length) = some 1 := by decide +kernel
set_option maxRecDepth 100000 in
set_option maxHeartbeats 4000000 in
theorem c_X1_isOpen (l : Launch) (y : Sy) (k0 : Nat) (h0 : isC k0) (x1 : Int32) (st : St) (K : Int32 → St → Prop) (hw : w_X1_isOpen k0 x1 st K) : Ci 107 enX l yX1_isOpen cX1_isOpen 2 (some .boolean) 1 21 y [.ref (ad y k0), .int x1] st K := by
  refine ent (by decide) (Nat.le_of_ble_eq_true rfl) ?_
  intro p e s m below meth c C hG ls hl
  have hl : lv_has ls 2 [(0, .ref (ad y k0)), (1, .int x1)] := hl
  generalize ([.ref (ad y k0), .int x1] : List Value).toArray = args at C ⊢
  have C : Sd p s m args meth c cX1_isOpen 2 RX1 (some .boolean) y := C
  obtain ⟨hx, hb, hml, hown, hts, hr, hlk, hK, hN⟩ := id C
  generalize s.heap = H at hG ⊢
  generalize ([] : List Loc) = locs at hG ⊢
  unfold w_X1_isOpen at hw
  refine lv_aload_n hx hb dX1_isOpen_0 rfl (lv_at hl 0 rfl) ?_
  refine r_get (C := RX1) (T := TX1) (Nf := 11) hx hb hts hown hK hG (isC.lt h0) (isC.e h0 y _) rfl inX1 9 (by decide) qF_X1_50 rfl dX1_isOpen_1 ?_
  refine lv_iload_n hx hb dX1_isOpen_4 rfl (lv_at hl 1 rfl) ?_
  refine r_ki (r_run_N (As := [.int (st k0 9), .int x1]) (rest := []) hx hb hml hown hts hK hN hG (c_X8_bit l y (st k0 9) x1 st _ hw) qM_X1_82 qT_X8_bit qN_X8 qC_X8_bit hd_X8_bit ⟨Nat.le_of_ble_eq_true rfl, Nat.le_of_ble_eq_true rfl⟩ hl.1 rfl (Nat.le_of_ble_eq_true rfl) dX1_isOpen_5) hG (fun r5 st5 H locs hw hG => ?_)
  refine lv_iconst (v := 1) hx hb dX1_isOpen_8 (by decide) ?_
  refine lv_icmp_ne (tgt := 16) hx hb dX1_isOpen_9 (by decide) (fun hc => ?_) (fun hc => ?_)
  · replace hw := hw.1 hc
    refine lv_iconst (v := 0) hx hb dX1_isOpen_16 (by decide) ?_
    exact r_iret hx hb hr hlk hK hG rfl hw dX1_isOpen_17
  · replace hw := hw.2 hc
    refine lv_iconst (v := 1) hx hb dX1_isOpen_12 (by decide) ?_
    refine lv_goto (tgt := 17) hx hb dX1_isOpen_13 (by decide) ?_
    exact r_iret hx hb hr hlk hK hG rfl hw dX1_isOpen_17
theorem hd_X1_hateOf : yX1_hateOf.cls ≠ "java/lang/invoke/MethodHandle" ∧ yX1_hateOf.cls ≠ "java/lang/invoke/VarHandle" ∧ (parseMethodDescriptor yX1_hateOf.desc).map (fun d => d.parameters.length) = some 2 := by decide +kernel
set_option maxRecDepth 100000 in
set_option maxHeartbeats 4000000 in
theorem c_X1_hateOf (l : Launch) (y : Sy) (k0 : Nat) (h0 : isC k0) (x1 : Int32) (x2 : Int32) (st : St) (K : Int32 → St → Prop) (hw : w_X1_hateOf k0 x1 x2 st K) : Ci 107 enX l yX1_hateOf cX1_hateOf 3 (some .int) 1 21 y [.ref (ad y k0), .int x1, .int x2] st K := by
  refine ent (by decide) (Nat.le_of_ble_eq_true rfl) ?_
  intro p e s m below meth c C hG ls hl
  have hl : lv_has ls 3 [(0, .ref (ad y k0)), (1, .int x1), (2, .int x2)] := hl
  generalize ([.ref (ad y k0), .int x1, .int x2] : List Value).toArray = args at C ⊢
  have C : Sd p s m args meth c cX1_hateOf 3 RX1 (some .int) y := C
  obtain ⟨hx, hb, hml, hown, hts, hr, hlk, hK, hN⟩ := id C
  generalize s.heap = H at hG ⊢
  generalize ([] : List Loc) = locs at hG ⊢
  unfold w_X1_hateOf at hw
  refine lv_aload_n hx hb dX1_hateOf_0 rfl (lv_at hl 0 rfl) ?_
  refine r_get (C := RX1) (T := TX1) (Nf := 11) hx hb hts hown hK hG (isC.lt h0) (isC.e h0 y _) rfl inX1 3 (by decide) qF_X1_21 rfl dX1_hateOf_1 ?_
  refine lv_iload_n hx hb dX1_hateOf_4 rfl (lv_at hl 1 rfl) ?_
  refine lv_iload_n hx hb dX1_hateOf_5 rfl (lv_at hl 2 rfl) ?_
  refine va_mmin hx hb (hml.trans hl.1.symm) hown (hts _ qM_X1_85) (hts _ qT_Lib_Math_min_name) (hts _ qN_J9) (hts _ qC_Lib_Math_min_name) (Nat.le_of_ble_eq_true rfl) (Nat.le_of_ble_eq_true rfl) (Nat.zero_le _) (Nat.zero_le _) dX1_hateOf_6 ?_
  refine lv_bipush (v := 6) hx hb dX1_hateOf_9 (by decide) ?_
  refine lv_imul hx hb dX1_hateOf_11 ?_
  refine lv_iload_n hx hb dX1_hateOf_12 rfl (lv_at hl 1 rfl) ?_
  refine lv_iload_n hx hb dX1_hateOf_13 rfl (lv_at hl 2 rfl) ?_
  refine va_mmax hx hb (hml.trans hl.1.symm) hown (hts _ qM_X1_90) (hts _ qT_Lib_Math_max_name) (hts _ qN_J9) (hts _ qC_Lib_Math_max_name) (Nat.le_of_ble_eq_true rfl) (Nat.le_of_ble_eq_true rfl) (Nat.zero_le _) (Nat.zero_le _) dX1_hateOf_14 ?_
  refine lv_iadd hx hb dX1_hateOf_17 ?_
  refine r_ki (r_run_N (As := [.ref (ad y (k0 + 4)), .int (((if x2 < x1 then x2 else x1) * 6) + (if x1 < x2 then x2 else x1))]) (rest := []) hx hb hml hown hts hK hN hG (c_X8_at l y (k0 + 4) 36 (isC.a4 h0) (((if x2 < x1 then x2 else x1) * 6) + (if x1 < x2 then x2 else x1)) st _ hw) qM_X1_66 qT_X8_at qN_X8 qC_X8_at hd_X8_at ⟨Nat.le_of_ble_eq_true rfl, Nat.le_of_ble_eq_true rfl⟩ hl.1 rfl (Nat.le_of_ble_eq_true rfl) dX1_hateOf_18) hG (fun r18 st18 H locs hw hG => ?_)
  exact r_iret hx hb hr hlk hK hG rfl hw dX1_hateOf_21
set_option maxRecDepth 100000 in
set_option maxHeartbeats 4000000 in
theorem z_X1_allHate_b39 {p : Program} {e : Env} {s : State} {m : MethodId} {args : Array Value} {below : List Frame} {meth : Method} {c : Code} (l : Launch) (y : Sy) (k0 : Nat) (h0 : isC k0) (C : Sd p s m args meth c cX1_allHate 4 RX1 (some .int) y) (c4 : Int32 → Int32 → St → Prop) (K : Int32 → St → Prop) (hc4 : ∀ (v1 : Int32) (v2 : Int32) (st : St) (H : Heap) (locs : List Loc) (ls : Array Slot), gH 107 enX y st s H locs → lv_has ls 4 [(0, .ref (ad y k0)), (1, .int v1), (2, .int v2)] → c4 v1 v2 st → W p l e (rmm 2 43) s m args below meth c H locs 0 0 (MQ below (va_Qi K (gB 107 enX y) (gA 107 y)) args s 0 0 (gA 107 y)) (F0 m 4 ls [])) (v1 : Int32) (v2 : Int32) (st : St) {H : Heap} {locs : List Loc} {ls : Array Slot} (hG : gH 107 enX y st s H locs) (hl : lv_has ls 4 [(0, .ref (ad y k0)), (1, .int v1), (2, .int v2)]) (hw : w_X1_allHate_b39 k0 c4 K v1 v2 st) : W p l e (rmm 2 43) s m args below meth c H locs 0 0 (MQ below (va_Qi K (gB 107 enX y) (gA 107 y)) args s 0 0 (gA 107 y)) (F0 m 39 ls []) := by
  obtain ⟨hx, hb, hml, hown, hts, hr, hlk, hK, hN⟩ := id C
  unfold w_X1_allHate_b39 at hw
  refine lv_iinc (v := (v2 + 1)) (lv' := [(2, .int (v2 + 1)), (0, .ref (ad y k0)), (1, .int v1)]) hx hb dX1_allHate_39 hl (k := 2) rfl rfl (Nat.le_of_ble_eq_true rfl) rfl (fun ls hl => ?_)
  refine lv_goto (tgt := 4) hx hb dX1_allHate_42 (by decide) ?_
  exact hc4 v1 (v2 + 1) st H locs _ hG (lv_sub hl [1, 2, 0] rfl) hw
set_option maxRecDepth 100000 in
set_option maxHeartbeats 4000000 in
theorem z_X1_allHate_L16 {p : Program} {e : Env} {s : State} {m : MethodId} {args : Array Value} {below : List Frame} {meth : Method} {c : Code} (l : Launch) (y : Sy) (k0 : Nat) (h0 : isC k0) (C : Sd p s m args meth c cX1_allHate 4 RX1 (some .int) y) (c4 : Int32 → Int32 → St → Prop) (K : Int32 → St → Prop) (hc4 : ∀ (v1 : Int32) (v2 : Int32) (st : St) (H : Heap) (locs : List Loc) (ls : Array Slot), gH 107 enX y st s H locs → lv_has ls 4 [(0, .ref (ad y k0)), (1, .int v1), (2, .int v2)] → c4 v1 v2 st → W p l e (rmm 2 43) s m args below meth c H locs 0 0 (MQ below (va_Qi K (gB 107 enX y) (gA 107 y)) args s 0 0 (gA 107 y)) (F0 m 4 ls [])) : ∀ (n : Nat) (v1 : Int32) (v2 : Int32) (v3 : Int32) (st : St) (H : Heap) (locs : List Loc) (ls : Array Slot), gH 107 enX y st s H locs → lv_has ls 4 [(0, .ref (ad y k0)), (1, .int v1), (2, .int v2), (3, .int v3)] → w_X1_allHate_L16 k0 c4 K n v1 v2 v3 st → W p l e (rmm 2 43) s m args below meth c H locs 0 0 (MQ below (va_Qi K (gB 107 enX y) (gA 107 y)) args s 0 0 (gA 107 y)) (F0 m 16 ls []) := by
  obtain ⟨hx, hb, hml, hown, hts, hr, hlk, hK, hN⟩ := id C
  intro n
  induction n with
  | zero => intro v1 v2 v3 st H locs ls hG hl hw; exact False.elim hw
  | succ n hc16 =>
    intro v1 v2 v3 st H locs ls hG hl hw
    have hw : w_X1_allHate_L16q k0 c4 K (fun v1 v2 v3 st => w_X1_allHate_L16 k0 c4 K n v1 v2 v3 st) v1 v2 v3 st := hw
    unfold w_X1_allHate_L16q at hw
    refine lv_iload_n hx hb dX1_allHate_16 rfl (lv_at hl 3 rfl) ?_
    refine lv_aload_n hx hb dX1_allHate_17 rfl (lv_at hl 0 rfl) ?_
    refine r_get (C := RX1) (T := TX1) (Nf := 11) hx hb hts hown hK hG (isC.lt h0) (isC.e h0 y _) rfl inX1 7 (by decide) qF_X1_43 rfl dX1_allHate_18 ?_
    refine lv_icmp_ge (tgt := 39) hx hb dX1_allHate_21 (by decide) (fun hc => ?_) (fun hc => ?_)
    · replace hw := hw.1 hc
      exact z_X1_allHate_b39 l y k0 h0 C c4 K hc4 v1 v2 st hG (lv_sub hl [0, 1, 2] rfl) hw
    · replace hw := hw.2 hc
      refine lv_iload_n hx hb dX1_allHate_24 rfl (lv_at hl 1 rfl) ?_
      refine lv_aload_n hx hb dX1_allHate_25 rfl (lv_at hl 0 rfl) ?_
      refine lv_iload_n hx hb dX1_allHate_26 rfl (lv_at hl 2 rfl) ?_
      refine lv_iload_n hx hb dX1_allHate_27 rfl (lv_at hl 3 rfl) ?_
      refine r_ki (r_run_V (k := k0) (As := [.int v2, .int v3]) (rest := [.int v1]) hx hb hml hown hts hK hN hG (c_X1_hateOf l y k0 h0 v2 v3 st _ hw) (isC.lt h0) (isC.e h0 y _) rfl rfl qM_X1_93 qI_X1_hateOf qS_X1_hateOf qN_X1 qC_X1_hateOf hd_X1_hateOf ⟨Nat.le_of_ble_eq_true rfl, Nat.le_of_ble_eq_true rfl⟩ hl.1 rfl (Nat.le_of_ble_eq_true rfl) dX1_allHate_28) hG (fun r28 st28 H locs hw hG => ?_)
      refine lv_iadd hx hb dX1_allHate_31 ?_
      refine lv_istore_n (lv' := [(1, .int (v1 + r28)), (0, .ref (ad y k0)), (2, .int v2), (3, .int v3)]) hx hb dX1_allHate_32 rfl hl (Nat.le_of_ble_eq_true rfl) rfl (fun ls hl => ?_)
      refine lv_iinc (v := (v3 + 1)) (lv' := [(3, .int (v3 + 1)), (1, .int (v1 + r28)), (0, .ref (ad y k0)), (2, .int v2)]) hx hb dX1_allHate_33 hl (k := 3) rfl rfl (Nat.le_of_ble_eq_true rfl) rfl (fun ls hl => ?_)
      refine lv_goto (tgt := 16) hx hb dX1_allHate_36 (by decide) ?_
      exact hc16 (v1 + r28) v2 (v3 + 1) st28 H locs _ hG (lv_sub hl [2, 1, 3, 0] rfl) hw
set_option maxRecDepth 100000 in
set_option maxHeartbeats 4000000 in
theorem z_X1_allHate_L4 {p : Program} {e : Env} {s : State} {m : MethodId} {args : Array Value} {below : List Frame} {meth : Method} {c : Code} (l : Launch) (y : Sy) (k0 : Nat) (h0 : isC k0) (C : Sd p s m args meth c cX1_allHate 4 RX1 (some .int) y)  (K : Int32 → St → Prop)  : ∀ (n : Nat) (v1 : Int32) (v2 : Int32) (st : St) (H : Heap) (locs : List Loc) (ls : Array Slot), gH 107 enX y st s H locs → lv_has ls 4 [(0, .ref (ad y k0)), (1, .int v1), (2, .int v2)] → w_X1_allHate_L4 k0  K n v1 v2 st → W p l e (rmm 2 43) s m args below meth c H locs 0 0 (MQ below (va_Qi K (gB 107 enX y) (gA 107 y)) args s 0 0 (gA 107 y)) (F0 m 4 ls []) := by
  obtain ⟨hx, hb, hml, hown, hts, hr, hlk, hK, hN⟩ := id C
  intro n
  induction n with
  | zero => intro v1 v2 st H locs ls hG hl hw; exact False.elim hw
  | succ n hc4 =>
    intro v1 v2 st H locs ls hG hl hw
    have hw : w_X1_allHate_L4q k0  K (fun v1 v2 st => w_X1_allHate_L4 k0  K n v1 v2 st) v1 v2 st := hw
    unfold w_X1_allHate_L4q at hw
    refine lv_iload_n hx hb dX1_allHate_4 rfl (lv_at hl 2 rfl) ?_
    refine lv_aload_n hx hb dX1_allHate_5 rfl (lv_at hl 0 rfl) ?_
    refine r_get (C := RX1) (T := TX1) (Nf := 11) hx hb hts hown hK hG (isC.lt h0) (isC.e h0 y _) rfl inX1 7 (by decide) qF_X1_43 rfl dX1_allHate_6 ?_
    refine lv_icmp_ge (tgt := 45) hx hb dX1_allHate_9 (by decide) (fun hc => ?_) (fun hc => ?_)
    · replace hw := hw.1 hc
      refine lv_iload_n hx hb dX1_allHate_45 rfl (lv_at hl 1 rfl) ?_
      exact r_iret hx hb hr hlk hK hG rfl hw dX1_allHate_46
    · replace hw := hw.2 hc
      refine lv_iload_n hx hb dX1_allHate_12 rfl (lv_at hl 2 rfl) ?_
      refine lv_iconst (v := 1) hx hb dX1_allHate_13 (by decide) ?_
      refine lv_iadd hx hb dX1_allHate_14 ?_
      refine lv_istore_n (lv' := [(3, .int (v2 + 1)), (0, .ref (ad y k0)), (1, .int v1), (2, .int v2)]) hx hb dX1_allHate_15 rfl hl (Nat.le_of_ble_eq_true rfl) rfl (fun ls hl => ?_)
      obtain ⟨n, hw⟩ := hw
      exact z_X1_allHate_L16 l y k0 h0 C (fun v1 v2 st => w_X1_allHate_L4 k0  K n v1 v2 st) K hc4 n v1 v2 (v2 + 1) st H locs _ hG (lv_sub hl [1, 2, 3, 0] rfl) hw
theorem hd_X1_allHate : yX1_allHate.cls ≠ "java/lang/invoke/MethodHandle" ∧ yX1_allHate.cls ≠ "java/lang/invoke/VarHandle" ∧ (parseMethodDescriptor yX1_allHate.desc).map (fun d => d.parameters.length) = some 0 := by decide +kernel
set_option maxRecDepth 100000 in
set_option maxHeartbeats 4000000 in
theorem c_X1_allHate (l : Launch) (y : Sy) (k0 : Nat) (h0 : isC k0) (st : St) (K : Int32 → St → Prop) (hw : w_X1_allHate k0 st K) : Ci 107 enX l yX1_allHate cX1_allHate 4 (some .int) 2 43 y [.ref (ad y k0)] st K := by
  refine ent (by decide) (Nat.le_of_ble_eq_true rfl) ?_
  intro p e s m below meth c C hG ls hl
  have hl : lv_has ls 4 [(0, .ref (ad y k0))] := hl
  generalize ([.ref (ad y k0)] : List Value).toArray = args at C ⊢
  have C : Sd p s m args meth c cX1_allHate 4 RX1 (some .int) y := C
  obtain ⟨hx, hb, hml, hown, hts, hr, hlk, hK, hN⟩ := id C
  generalize s.heap = H at hG ⊢
  generalize ([] : List Loc) = locs at hG ⊢
  unfold w_X1_allHate at hw
  refine lv_iconst (v := 0) hx hb dX1_allHate_0 (by decide) ?_
  refine lv_istore_n (lv' := [(1, .int 0), (0, .ref (ad y k0))]) hx hb dX1_allHate_1 rfl hl (Nat.le_of_ble_eq_true rfl) rfl (fun ls hl => ?_)
  refine lv_iconst (v := 0) hx hb dX1_allHate_2 (by decide) ?_
  refine lv_istore_n (lv' := [(2, .int 0), (1, .int 0), (0, .ref (ad y k0))]) hx hb dX1_allHate_3 rfl hl (Nat.le_of_ble_eq_true rfl) rfl (fun ls hl => ?_)
  obtain ⟨n, hw⟩ := hw
  exact z_X1_allHate_L4 l y k0 h0 C  K  n 0 0 st H locs _ hG (lv_sub hl [2, 1, 0] rfl) hw
theorem hd_X8_put : yX8_put.cls ≠ "java/lang/invoke/MethodHandle" ∧ yX8_put.cls ≠ "java/lang/invoke/VarHandle" ∧ (parseMethodDescriptor yX8_put.desc).map (fun d => d.parameters.length) = some 3 := by decide +kernel
set_option maxRecDepth 100000 in
set_option maxHeartbeats 4000000 in
theorem c_X8_put (l : Launch) (y : Sy) (k0 : Nat) (n0 : Nat) (h0 : isA k0 n0) (x1 : Int32) (x2 : Int32) (st : St) (K : St → Prop) (hw : w_X8_put k0 n0 x1 x2 st K) : Cv 107 enX l yX8_put cX8_put 3 none 0 0 y [.ref (ad y k0), .int x1, .int x2] st K := by
  refine ent (by decide) (Nat.le_of_ble_eq_true rfl) ?_
  intro p e s m below meth c C hG ls hl
  have hl : lv_has ls 3 [(0, .ref (ad y k0)), (1, .int x1), (2, .int x2)] := hl
  generalize ([.ref (ad y k0), .int x1, .int x2] : List Value).toArray = args at C ⊢
  have C : Sd p s m args meth c cX8_put 3 RX8 none y := C
  obtain ⟨hx, hb, hml, hown, hts, hr, hlk, hK, hN⟩ := id C
  generalize s.heap = H at hG ⊢
  generalize ([] : List Loc) = locs at hG ⊢
  unfold w_X8_put at hw
  refine lv_aload_n hx hb dX8_put_0 rfl (lv_at hl 0 rfl) ?_
  refine lv_ifnull hx hb dX8_put_1 ?_
  refine lv_iload_n hx hb dX8_put_4 rfl (lv_at hl 1 rfl) ?_
  refine lv_if_lt (tgt := 18) hx hb dX8_put_5 (by decide) (fun hc => ?_) (fun hc => ?_)
  · replace hw := hw.1 hc
    exact r_vret hx hb hr hlk hK hG hw dX8_put_18
  · replace hw := hw.2 hc
    refine lv_iload_n hx hb dX8_put_8 rfl (lv_at hl 1 rfl) ?_
    refine lv_aload_n hx hb dX8_put_9 rfl (lv_at hl 0 rfl) ?_
    refine r_alen (v := (nI n0)) hx hb hK hG (h0).1 ((h0).2 y _) rfl dX8_put_10 ?_
    refine lv_icmp_ge (tgt := 18) hx hb dX8_put_11 (by decide) (fun hc => ?_) (fun hc => ?_)
    · replace hw := hw.1 hc
      exact r_vret hx hb hr hlk hK hG hw dX8_put_18
    · replace hw := hw.2 hc
      refine lv_aload_n hx hb dX8_put_14 rfl (lv_at hl 0 rfl) ?_
      refine lv_iload_n hx hb dX8_put_15 rfl (lv_at hl 1 rfl) ?_
      refine lv_iload_n hx hb dX8_put_16 rfl (lv_at hl 2 rfl) ?_
      obtain ⟨hi, hw⟩ := hw
      refine r_iast hx hb hK hG (h0).1 (fun f => (h0).2 y f) hi dX8_put_17 (fun H locs hG => ?_)
      exact r_vret hx hb hr hlk hK hG hw dX8_put_18
theorem hd_X1_setHate : yX1_setHate.cls ≠ "java/lang/invoke/MethodHandle" ∧ yX1_setHate.cls ≠ "java/lang/invoke/VarHandle" ∧ (parseMethodDescriptor yX1_setHate.desc).map (fun d => d.parameters.length) = some 3 := by decide +kernel
set_option maxRecDepth 100000 in
set_option maxHeartbeats 4000000 in
theorem c_X1_setHate (l : Launch) (y : Sy) (k0 : Nat) (h0 : isC k0) (x1 : Int32) (x2 : Int32) (x3 : Int32) (st : St) (K : St → Prop) (hw : w_X1_setHate k0 x1 x2 x3 st K) : Cv 107 enX l yX1_setHate cX1_setHate 5 none 1 22 y [.ref (ad y k0), .int x1, .int x2, .int x3] st K := by
  refine ent (by decide) (Nat.le_of_ble_eq_true rfl) ?_
  intro p e s m below meth c C hG ls hl
  have hl : lv_has ls 5 [(0, .ref (ad y k0)), (1, .int x1), (2, .int x2), (3, .int x3)] := hl
  generalize ([.ref (ad y k0), .int x1, .int x2, .int x3] : List Value).toArray = args at C ⊢
  have C : Sd p s m args meth c cX1_setHate 5 RX1 none y := C
  obtain ⟨hx, hb, hml, hown, hts, hr, hlk, hK, hN⟩ := id C
  generalize s.heap = H at hG ⊢
  generalize ([] : List Loc) = locs at hG ⊢
  unfold w_X1_setHate at hw
  refine lv_iconst (v := 0) hx hb dX1_setHate_0 (by decide) ?_
  refine lv_bipush (v := 99) hx hb dX1_setHate_1 (by decide) ?_
  refine lv_iload_n hx hb dX1_setHate_3 rfl (lv_at hl 3 rfl) ?_
  refine va_mmin hx hb (hml.trans hl.1.symm) hown (hts _ qM_X1_85) (hts _ qT_Lib_Math_min_name) (hts _ qN_J9) (hts _ qC_Lib_Math_min_name) (Nat.le_of_ble_eq_true rfl) (Nat.le_of_ble_eq_true rfl) (Nat.zero_le _) (Nat.zero_le _) dX1_setHate_4 ?_
  refine va_mmax hx hb (hml.trans hl.1.symm) hown (hts _ qM_X1_90) (hts _ qT_Lib_Math_max_name) (hts _ qN_J9) (hts _ qC_Lib_Math_max_name) (Nat.le_of_ble_eq_true rfl) (Nat.le_of_ble_eq_true rfl) (Nat.zero_le _) (Nat.zero_le _) dX1_setHate_7 ?_
  refine lv_istore (lv' := [(4, .int (if 0 < (if x3 < 99 then x3 else 99) then (if x3 < 99 then x3 else 99) else 0)), (0, .ref (ad y k0)), (1, .int x1), (2, .int x2), (3, .int x3)]) hx hb dX1_setHate_10 hl (Nat.le_of_ble_eq_true rfl) rfl (fun ls hl => ?_)
  refine lv_aload_n hx hb dX1_setHate_12 rfl (lv_at hl 1 rfl) ?_
  refine r_get (C := RX1) (T := TX1) (Nf := 11) hx hb hts hown hK hG (isC.lt h0) (isC.e h0 y _) rfl inX1 3 (by decide) qF_X1_21 rfl dX1_setHate_13 ?_
  refine lv_iload_n hx hb dX1_setHate_16 rfl (lv_at hl 2 rfl) ?_
  refine lv_iload_n hx hb dX1_setHate_17 rfl (lv_at hl 3 rfl) ?_
  refine va_mmin hx hb (hml.trans hl.1.symm) hown (hts _ qM_X1_85) (hts _ qT_Lib_Math_min_name) (hts _ qN_J9) (hts _ qC_Lib_Math_min_name) (Nat.le_of_ble_eq_true rfl) (Nat.le_of_ble_eq_true rfl) (Nat.zero_le _) (Nat.zero_le _) dX1_setHate_18 ?_
  refine lv_bipush (v := 6) hx hb dX1_setHate_21 (by decide) ?_
  refine lv_imul hx hb dX1_setHate_23 ?_
  refine lv_iload_n hx hb dX1_setHate_24 rfl (lv_at hl 2 rfl) ?_
  refine lv_iload_n hx hb dX1_setHate_25 rfl (lv_at hl 3 rfl) ?_
  refine va_mmax hx hb (hml.trans hl.1.symm) hown (hts _ qM_X1_90) (hts _ qT_Lib_Math_max_name) (hts _ qN_J9) (hts _ qC_Lib_Math_max_name) (Nat.le_of_ble_eq_true rfl) (Nat.le_of_ble_eq_true rfl) (Nat.zero_le _) (Nat.zero_le _) dX1_setHate_26 ?_
  refine lv_iadd hx hb dX1_setHate_29 ?_
  refine lv_iload hx hb dX1_setHate_30 (lv_at hl 0 rfl) ?_
  refine r_kv (r_run_N (As := [.ref (ad y (k0 + 4)), .int (((if x2 < x1 then x2 else x1) * 6) + (if x1 < x2 then x2 else x1)), .int (if 0 < (if x3 < 99 then x3 else 99) then (if x3 < 99 then x3 else 99) else 0)]) (rest := []) hx hb hml hown hts hK hN hG (c_X8_put l y (k0 + 4) 36 (isC.a4 h0) (((if x2 < x1 then x2 else x1) * 6) + (if x1 < x2 then x2 else x1)) (if 0 < (if x3 < 99 then x3 else 99) then (if x3 < 99 then x3 else 99) else 0) st _ hw) qM_X1_96 qT_X8_put qN_X8 qC_X8_put hd_X8_put ⟨Nat.le_of_ble_eq_true rfl, Nat.le_of_ble_eq_true rfl⟩ hl.1 rfl (Nat.le_of_ble_eq_true rfl) dX1_setHate_32) hG (fun st32 H locs hw hG => ?_)
  exact r_vret hx hb hr hlk hK hG hw dX1_setHate_35
theorem hd_X8_twoName : yX8_twoName.cls ≠ "java/lang/invoke/MethodHandle" ∧ yX8_twoName.cls ≠ "java/lang/invoke/VarHandle" ∧ (parseMethodDescriptor yX8_twoName.desc).map (fun d => d.parameters.length) = some 2 := by decide +kernel
set_option maxRecDepth 100000 in
set_option maxHeartbeats 4000000 in
theorem c_X8_twoName (l : Launch) (y : Sy) (x0 : Int32) (x1 : Int32) (st : St) (K : Int32 → St → Prop) (hw : w_X8_twoName x0 x1 st K) : Ci 107 enX l yX8_twoName cX8_twoName 2 (some .int) 1 21 y [.int x0, .int x1] st K := by
  refine ent (by decide) (Nat.le_of_ble_eq_true rfl) ?_
  intro p e s m below meth c C hG ls hl
  have hl : lv_has ls 2 [(0, .int x0), (1, .int x1)] := hl
  generalize ([.int x0, .int x1] : List Value).toArray = args at C ⊢
  have C : Sd p s m args meth c cX8_twoName 2 RX8 (some .int) y := C
  obtain ⟨hx, hb, hml, hown, hts, hr, hlk, hK, hN⟩ := id C
  generalize s.heap = H at hG ⊢
  generalize ([] : List Loc) = locs at hG ⊢
  unfold w_X8_twoName at hw
  refine lv_bipush (v := 10) hx hb dX8_twoName_0 (by decide) ?_
  refine lv_iload_n hx hb dX8_twoName_2 rfl (lv_at hl 0 rfl) ?_
  refine lv_iload_n hx hb dX8_twoName_3 rfl (lv_at hl 1 rfl) ?_
  refine va_mmin hx hb (hml.trans hl.1.symm) hown (hts _ qM_X8_360) (hts _ qT_Lib_Math_min_name) (hts _ qN_J9) (hts _ qC_Lib_Math_min_name) (Nat.le_of_ble_eq_true rfl) (Nat.le_of_ble_eq_true rfl) (Nat.zero_le _) (Nat.zero_le _) dX8_twoName_4 ?_
  refine lv_imul hx hb dX8_twoName_7 ?_
  refine lv_iload_n hx hb dX8_twoName_8 rfl (lv_at hl 0 rfl) ?_
  refine lv_iload_n hx hb dX8_twoName_9 rfl (lv_at hl 1 rfl) ?_
  refine va_mmax hx hb (hml.trans hl.1.symm) hown (hts _ qM_X8_338) (hts _ qT_Lib_Math_max_name) (hts _ qN_J9) (hts _ qC_Lib_Math_max_name) (Nat.le_of_ble_eq_true rfl) (Nat.le_of_ble_eq_true rfl) (Nat.zero_le _) (Nat.zero_le _) dX8_twoName_10 ?_
  refine lv_iadd hx hb dX8_twoName_13 ?_
  exact r_iret hx hb hr hlk hK hG rfl hw dX8_twoName_14
