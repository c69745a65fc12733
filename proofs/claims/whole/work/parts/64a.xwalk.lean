set_option maxRecDepth 100000 in
set_option maxHeartbeats 4000000 in
theorem z_X0_power_L5 {p : Program} {e : Env} {s : State} {m : MethodId} {args : Array Value} {below : List Frame} {meth : Method} {c : Code} (l : Launch) (y : Sy) (x0 : Int32) (x1 : Int32) (C : Sd p s m args meth c cX0_power 5 RX0 (some .long) y)  (K : Int64 → St → Prop)  : ∀ (n : Nat) (v2 : Int64) (v4 : Int32) (st : St) (H : Heap) (locs : List Loc) (ls : Array Slot), gH 107 enX y st s H locs → lv_has ls 5 [(0, .int x0), (1, .int x1), (2, .long v2), (4, .int v4)] → w_X0_power_L5 x0 x1  K n v2 v4 st → W p l e (rmm 0 0) s m args below meth c H locs 0 0 (MQ below (va_Ql K (gB 107 enX y) (gA 107 y)) args s 0 0 (gA 107 y)) (F0 m 5 ls []) := by
  obtain ⟨hx, hb, hml, hown, hts, hr, hlk, hK, hN⟩ := id C
  intro n
  induction n with
  | zero => intro v2 v4 st H locs ls hG hl hw; exact False.elim hw
  | succ n hc5 =>
    intro v2 v4 st H locs ls hG hl hw
    have hw : w_X0_power_L5q x0 x1  K (fun v2 v4 st => w_X0_power_L5 x0 x1  K n v2 v4 st) v2 v4 st := hw
    unfold w_X0_power_L5q at hw
    refine lv_iload hx hb dX0_power_5 (lv_at hl 3 rfl) ?_
    refine lv_iload_n hx hb dX0_power_7 rfl (lv_at hl 1 rfl) ?_
    refine lv_icmp_ge (tgt := 22) hx hb dX0_power_8 (by decide) (fun hc => ?_) (fun hc => ?_)
    · replace hw := hw.1 hc
      refine lv_lload_n hx hb dX0_power_22 rfl (lv_at hl 2 rfl) ?_
      exact r_lret hx hb hr hlk hK hG hw dX0_power_23
    · replace hw := hw.2 hc
      refine lv_lload_n hx hb dX0_power_11 rfl (lv_at hl 2 rfl) ?_
      refine lv_iload_n hx hb dX0_power_12 rfl (lv_at hl 0 rfl) ?_
      refine lv_i2l (v := (x0).toInt64) hx hb dX0_power_13 rfl ?_
      refine lv_lmul hx hb dX0_power_14 ?_
      refine lv_lstore_n (lv' := [(2, .long (v2 * ((x0).toInt64))), (0, .int x0), (1, .int x1), (4, .int v4)]) hx hb dX0_power_15 rfl hl (Nat.le_of_ble_eq_true rfl) rfl (fun ls hl => ?_)
      refine lv_iinc (v := (v4 + 1)) (lv' := [(4, .int (v4 + 1)), (2, .long (v2 * ((x0).toInt64))), (0, .int x0), (1, .int x1)]) hx hb dX0_power_16 hl (k := 3) rfl rfl (Nat.le_of_ble_eq_true rfl) rfl (fun ls hl => ?_)
      refine lv_goto (tgt := 5) hx hb dX0_power_19 (by decide) ?_
      exact hc5 (v2 * ((x0).toInt64)) (v4 + 1) st H locs _ hG (lv_sub hl [2, 3, 1, 0] rfl) hw
theorem hd_X0_power : yX0_power.cls ≠ "java/lang/invoke/MethodHandle" ∧ yX0_power.cls ≠ "java/lang/invoke/VarHandle" ∧ (parseMethodDescriptor yX0_power.desc).map (fun d => d.parameters.length) = some 2 := by decide +kernel
set_option maxRecDepth 100000 in
set_option maxHeartbeats 4000000 in
theorem c_X0_power (l : Launch) (y : Sy) (x0 : Int32) (x1 : Int32) (st : St) (K : Int64 → St → Prop) (hw : w_X0_power x0 x1 st K) : Cl 107 enX l yX0_power cX0_power 5 (some .long) 0 0 y [.int x0, .int x1] st K := by
  refine ent (by decide) (Nat.le_of_ble_eq_true rfl) ?_
  intro p e s m below meth c C hG ls hl
  have hl : lv_has ls 5 [(0, .int x0), (1, .int x1)] := hl
  generalize ([.int x0, .int x1] : List Value).toArray = args at C ⊢
  have C : Sd p s m args meth c cX0_power 5 RX0 (some .long) y := C
  obtain ⟨hx, hb, hml, hown, hts, hr, hlk, hK, hN⟩ := id C
  generalize s.heap = H at hG ⊢
  generalize ([] : List Loc) = locs at hG ⊢
  unfold w_X0_power at hw
  refine lv_lconst (v := 1) hx hb dX0_power_0 (by decide) ?_
  refine lv_lstore_n (lv' := [(2, .long 1), (0, .int x0), (1, .int x1)]) hx hb dX0_power_1 rfl hl (Nat.le_of_ble_eq_true rfl) rfl (fun ls hl => ?_)
  refine lv_iconst (v := 0) hx hb dX0_power_2 (by decide) ?_
  refine lv_istore (lv' := [(4, .int 0), (2, .long 1), (0, .int x0), (1, .int x1)]) hx hb dX0_power_3 hl (Nat.le_of_ble_eq_true rfl) rfl (fun ls hl => ?_)
  obtain ⟨n5, hw⟩ := hw
  exact z_X0_power_L5 l y x0 x1 C  K  n5 1 0 st H locs _ hG (lv_sub hl [2, 3, 1, 0] rfl) hw
theorem hd_J6_bitCount_0f7a4 : yJ6_bitCount_0f7a4.cls ≠ "java/lang/invoke/MethodHandle" ∧ yJ6_bitCount_0f7a4.cls ≠ "java/lang/invoke/VarHandle" ∧ (parseMethodDescriptor yJ6_bitCount_0f7a4.desc).map (fun d => d.parameters.length) = some 1 := by decide +kernel
set_option maxRecDepth 100000 in
set_option maxHeartbeats 4000000 in
theorem c_J6_bitCount_0f7a4 (l : Launch) (y : Sy) (x0 : Int32) (st : St) (K : Int32 → St → Prop) (hw : w_J6_bitCount_0f7a4 x0 st K) : Ci 107 enX l yJ6_bitCount_0f7a4 cJ6_bitCount_0f7a4 1 (some .int) 0 0 y [.int x0] st K := by
  refine ent (by decide) (Nat.le_of_ble_eq_true rfl) ?_
  intro p e s m below meth c C hG ls hl
  have hl : lv_has ls 1 [(0, .int x0)] := hl
  generalize ([.int x0] : List Value).toArray = args at C ⊢
  have C : Sd p s m args meth c cJ6_bitCount_0f7a4 1 RJ6 (some .int) y := C
  obtain ⟨hx, hb, hml, hown, hts, hr, hlk, hK, hN⟩ := id C
  generalize s.heap = H at hG ⊢
  generalize ([] : List Loc) = locs at hG ⊢
  unfold w_J6_bitCount_0f7a4 at hw
  refine lv_iload_n hx hb dJ6_bitCount_0f7a4_0 rfl (lv_at hl 0 rfl) ?_
  refine lv_iload_n hx hb dJ6_bitCount_0f7a4_1 rfl (lv_at hl 0 rfl) ?_
  refine lv_iconst (v := 1) hx hb dJ6_bitCount_0f7a4_2 (by decide) ?_
  refine lv_iushr (v := ((x0.toUInt32 >>> ((1 : Int32).toUInt32 &&& Int32.toUInt32 31)).toInt32)) hx hb dJ6_bitCount_0f7a4_3 rfl ?_
  refine lv_ldcw (v := 1431655765) hx hb hown (hts _ qK_J6_265) dJ6_bitCount_0f7a4_4 ?_
  refine lv_iand hx hb dJ6_bitCount_0f7a4_7 ?_
  refine lv_isub hx hb dJ6_bitCount_0f7a4_8 ?_
  refine lv_istore_n (lv' := [(0, .int (x0 - (((x0.toUInt32 >>> ((1 : Int32).toUInt32 &&& Int32.toUInt32 31)).toInt32) &&& 1431655765)))]) hx hb dJ6_bitCount_0f7a4_9 rfl hl (Nat.le_of_ble_eq_true rfl) rfl (fun ls hl => ?_)
  refine lv_iload_n hx hb dJ6_bitCount_0f7a4_10 rfl (lv_at hl 0 rfl) ?_
  refine lv_ldcw (v := 858993459) hx hb hown (hts _ qK_J6_266) dJ6_bitCount_0f7a4_11 ?_
  refine lv_iand hx hb dJ6_bitCount_0f7a4_14 ?_
  refine lv_iload_n hx hb dJ6_bitCount_0f7a4_15 rfl (lv_at hl 0 rfl) ?_
  refine lv_iconst (v := 2) hx hb dJ6_bitCount_0f7a4_16 (by decide) ?_
  refine lv_iushr (v := (((x0 - (((x0.toUInt32 >>> ((1 : Int32).toUInt32 &&& Int32.toUInt32 31)).toInt32) &&& 1431655765)).toUInt32 >>> ((2 : Int32).toUInt32 &&& Int32.toUInt32 31)).toInt32)) hx hb dJ6_bitCount_0f7a4_17 rfl ?_
  refine lv_ldcw (v := 858993459) hx hb hown (hts _ qK_J6_266) dJ6_bitCount_0f7a4_18 ?_
  refine lv_iand hx hb dJ6_bitCount_0f7a4_21 ?_
  refine lv_iadd hx hb dJ6_bitCount_0f7a4_22 ?_
  refine lv_istore_n (lv' := [(0, .int (((x0 - (((x0.toUInt32 >>> ((1 : Int32).toUInt32 &&& Int32.toUInt32 31)).toInt32) &&& 1431655765)) &&& 858993459) + ((((x0 - (((x0.toUInt32 >>> ((1 : Int32).toUInt32 &&& Int32.toUInt32 31)).toInt32) &&& 1431655765)).toUInt32 >>> ((2 : Int32).toUInt32 &&& Int32.toUInt32 31)).toInt32) &&& 858993459)))]) hx hb dJ6_bitCount_0f7a4_23 rfl hl (Nat.le_of_ble_eq_true rfl) rfl (fun ls hl => ?_)
  refine lv_iload_n hx hb dJ6_bitCount_0f7a4_24 rfl (lv_at hl 0 rfl) ?_
  refine lv_iload_n hx hb dJ6_bitCount_0f7a4_25 rfl (lv_at hl 0 rfl) ?_
  refine lv_iconst (v := 4) hx hb dJ6_bitCount_0f7a4_26 (by decide) ?_
  refine lv_iushr (v := (((((x0 - (((x0.toUInt32 >>> ((1 : Int32).toUInt32 &&& Int32.toUInt32 31)).toInt32) &&& 1431655765)) &&& 858993459) + ((((x0 - (((x0.toUInt32 >>> ((1 : Int32).toUInt32 &&& Int32.toUInt32 31)).toInt32) &&& 1431655765)).toUInt32 >>> ((2 : Int32).toUInt32 &&& Int32.toUInt32 31)).toInt32) &&& 858993459)).toUInt32 >>> ((4 : Int32).toUInt32 &&& Int32.toUInt32 31)).toInt32)) hx hb dJ6_bitCount_0f7a4_27 rfl ?_
  refine lv_iadd hx hb dJ6_bitCount_0f7a4_28 ?_
  refine lv_ldcw (v := 252645135) hx hb hown (hts _ qK_J6_267) dJ6_bitCount_0f7a4_29 ?_
  refine lv_iand hx hb dJ6_bitCount_0f7a4_32 ?_
  refine lv_istore_n (lv' := [(0, .int (((((x0 - (((x0.toUInt32 >>> ((1 : Int32).toUInt32 &&& Int32.toUInt32 31)).toInt32) &&& 1431655765)) &&& 858993459) + ((((x0 - (((x0.toUInt32 >>> ((1 : Int32).toUInt32 &&& Int32.toUInt32 31)).toInt32) &&& 1431655765)).toUInt32 >>> ((2 : Int32).toUInt32 &&& Int32.toUInt32 31)).toInt32) &&& 858993459)) + (((((x0 - (((x0.toUInt32 >>> ((1 : Int32).toUInt32 &&& Int32.toUInt32 31)).toInt32) &&& 1431655765)) &&& 858993459) + ((((x0 - (((x0.toUInt32 >>> ((1 : Int32).toUInt32 &&& Int32.toUInt32 31)).toInt32) &&& 1431655765)).toUInt32 >>> ((2 : Int32).toUInt32 &&& Int32.toUInt32 31)).toInt32) &&& 858993459)).toUInt32 >>> ((4 : Int32).toUInt32 &&& Int32.toUInt32 31)).toInt32)) &&& 252645135))]) hx hb dJ6_bitCount_0f7a4_33 rfl hl (Nat.le_of_ble_eq_true rfl) rfl (fun ls hl => ?_)
  refine lv_iload_n hx hb dJ6_bitCount_0f7a4_34 rfl (lv_at hl 0 rfl) ?_
  refine lv_iload_n hx hb dJ6_bitCount_0f7a4_35 rfl (lv_at hl 0 rfl) ?_
  refine lv_bipush (v := 8) hx hb dJ6_bitCount_0f7a4_36 (by decide) ?_
  refine lv_iushr (v := (((((((x0 - (((x0.toUInt32 >>> ((1 : Int32).toUInt32 &&& Int32.toUInt32 31)).toInt32) &&& 1431655765)) &&& 858993459) + ((((x0 - (((x0.toUInt32 >>> ((1 : Int32).toUInt32 &&& Int32.toUInt32 31)).toInt32) &&& 1431655765)).toUInt32 >>> ((2 : Int32).toUInt32 &&& Int32.toUInt32 31)).toInt32) &&& 858993459)) + (((((x0 - (((x0.toUInt32 >>> ((1 : Int32).toUInt32 &&& Int32.toUInt32 31)).toInt32) &&& 1431655765)) &&& 858993459) + ((((x0 - (((x0.toUInt32 >>> ((1 : Int32).toUInt32 &&& Int32.toUInt32 31)).toInt32) &&& 1431655765)).toUInt32 >>> ((2 : Int32).toUInt32 &&& Int32.toUInt32 31)).toInt32) &&& 858993459)).toUInt32 >>> ((4 : Int32).toUInt32 &&& Int32.toUInt32 31)).toInt32)) &&& 252645135).toUInt32 >>> ((8 : Int32).toUInt32 &&& Int32.toUInt32 31)).toInt32)) hx hb dJ6_bitCount_0f7a4_38 rfl ?_
  refine lv_iadd hx hb dJ6_bitCount_0f7a4_39 ?_
  refine lv_istore_n (lv' := [(0, .int ((((((x0 - (((x0.toUInt32 >>> ((1 : Int32).toUInt32 &&& Int32.toUInt32 31)).toInt32) &&& 1431655765)) &&& 858993459) + ((((x0 - (((x0.toUInt32 >>> ((1 : Int32).toUInt32 &&& Int32.toUInt32 31)).toInt32) &&& 1431655765)).toUInt32 >>> ((2 : Int32).toUInt32 &&& Int32.toUInt32 31)).toInt32) &&& 858993459)) + (((((x0 - (((x0.toUInt32 >>> ((1 : Int32).toUInt32 &&& Int32.toUInt32 31)).toInt32) &&& 1431655765)) &&& 858993459) + ((((x0 - (((x0.toUInt32 >>> ((1 : Int32).toUInt32 &&& Int32.toUInt32 31)).toInt32) &&& 1431655765)).toUInt32 >>> ((2 : Int32).toUInt32 &&& Int32.toUInt32 31)).toInt32) &&& 858993459)).toUInt32 >>> ((4 : Int32).toUInt32 &&& Int32.toUInt32 31)).toInt32)) &&& 252645135) + (((((((x0 - (((x0.toUInt32 >>> ((1 : Int32).toUInt32 &&& Int32.toUInt32 31)).toInt32) &&& 1431655765)) &&& 858993459) + ((((x0 - (((x0.toUInt32 >>> ((1 : Int32).toUInt32 &&& Int32.toUInt32 31)).toInt32) &&& 1431655765)).toUInt32 >>> ((2 : Int32).toUInt32 &&& Int32.toUInt32 31)).toInt32) &&& 858993459)) + (((((x0 - (((x0.toUInt32 >>> ((1 : Int32).toUInt32 &&& Int32.toUInt32 31)).toInt32) &&& 1431655765)) &&& 858993459) + ((((x0 - (((x0.toUInt32 >>> ((1 : Int32).toUInt32 &&& Int32.toUInt32 31)).toInt32) &&& 1431655765)).toUInt32 >>> ((2 : Int32).toUInt32 &&& Int32.toUInt32 31)).toInt32) &&& 858993459)).toUInt32 >>> ((4 : Int32).toUInt32 &&& Int32.toUInt32 31)).toInt32)) &&& 252645135).toUInt32 >>> ((8 : Int32).toUInt32 &&& Int32.toUInt32 31)).toInt32)))]) hx hb dJ6_bitCount_0f7a4_40 rfl hl (Nat.le_of_ble_eq_true rfl) rfl (fun ls hl => ?_)
  refine lv_iload_n hx hb dJ6_bitCount_0f7a4_41 rfl (lv_at hl 0 rfl) ?_
  refine lv_iload_n hx hb dJ6_bitCount_0f7a4_42 rfl (lv_at hl 0 rfl) ?_
  refine lv_bipush (v := 16) hx hb dJ6_bitCount_0f7a4_43 (by decide) ?_
  refine lv_iushr (v := ((((((((x0 - (((x0.toUInt32 >>> ((1 : Int32).toUInt32 &&& Int32.toUInt32 31)).toInt32) &&& 1431655765)) &&& 858993459) + ((((x0 - (((x0.toUInt32 >>> ((1 : Int32).toUInt32 &&& Int32.toUInt32 31)).toInt32) &&& 1431655765)).toUInt32 >>> ((2 : Int32).toUInt32 &&& Int32.toUInt32 31)).toInt32) &&& 858993459)) + (((((x0 - (((x0.toUInt32 >>> ((1 : Int32).toUInt32 &&& Int32.toUInt32 31)).toInt32) &&& 1431655765)) &&& 858993459) + ((((x0 - (((x0.toUInt32 >>> ((1 : Int32).toUInt32 &&& Int32.toUInt32 31)).toInt32) &&& 1431655765)).toUInt32 >>> ((2 : Int32).toUInt32 &&& Int32.toUInt32 31)).toInt32) &&& 858993459)).toUInt32 >>> ((4 : Int32).toUInt32 &&& Int32.toUInt32 31)).toInt32)) &&& 252645135) + (((((((x0 - (((x0.toUInt32 >>> ((1 : Int32).toUInt32 &&& Int32.toUInt32 31)).toInt32) &&& 1431655765)) &&& 858993459) + ((((x0 - (((x0.toUInt32 >>> ((1 : Int32).toUInt32 &&& Int32.toUInt32 31)).toInt32) &&& 1431655765)).toUInt32 >>> ((2 : Int32).toUInt32 &&& Int32.toUInt32 31)).toInt32) &&& 858993459)) + (((((x0 - (((x0.toUInt32 >>> ((1 : Int32).toUInt32 &&& Int32.toUInt32 31)).toInt32) &&& 1431655765)) &&& 858993459) + ((((x0 - (((x0.toUInt32 >>> ((1 : Int32).toUInt32 &&& Int32.toUInt32 31)).toInt32) &&& 1431655765)).toUInt32 >>> ((2 : Int32).toUInt32 &&& Int32.toUInt32 31)).toInt32) &&& 858993459)).toUInt32 >>> ((4 : Int32).toUInt32 &&& Int32.toUInt32 31)).toInt32)) &&& 252645135).toUInt32 >>> ((8 : Int32).toUInt32 &&& Int32.toUInt32 31)).toInt32)).toUInt32 >>> ((16 : Int32).toUInt32 &&& Int32.toUInt32 31)).toInt32)) hx hb dJ6_bitCount_0f7a4_45 rfl ?_
  refine lv_iadd hx hb dJ6_bitCount_0f7a4_46 ?_
  refine lv_istore_n (lv' := [(0, .int (((((((x0 - (((x0.toUInt32 >>> ((1 : Int32).toUInt32 &&& Int32.toUInt32 31)).toInt32) &&& 1431655765)) &&& 858993459) + ((((x0 - (((x0.toUInt32 >>> ((1 : Int32).toUInt32 &&& Int32.toUInt32 31)).toInt32) &&& 1431655765)).toUInt32 >>> ((2 : Int32).toUInt32 &&& Int32.toUInt32 31)).toInt32) &&& 858993459)) + (((((x0 - (((x0.toUInt32 >>> ((1 : Int32).toUInt32 &&& Int32.toUInt32 31)).toInt32) &&& 1431655765)) &&& 858993459) + ((((x0 - (((x0.toUInt32 >>> ((1 : Int32).toUInt32 &&& Int32.toUInt32 31)).toInt32) &&& 1431655765)).toUInt32 >>> ((2 : Int32).toUInt32 &&& Int32.toUInt32 31)).toInt32) &&& 858993459)).toUInt32 >>> ((4 : Int32).toUInt32 &&& Int32.toUInt32 31)).toInt32)) &&& 252645135) + (((((((x0 - (((x0.toUInt32 >>> ((1 : Int32).toUInt32 &&& Int32.toUInt32 31)).toInt32) &&& 1431655765)) &&& 858993459) + ((((x0 - (((x0.toUInt32 >>> ((1 : Int32).toUInt32 &&& Int32.toUInt32 31)).toInt32) &&& 1431655765)).toUInt32 >>> ((2 : Int32).toUInt32 &&& Int32.toUInt32 31)).toInt32) &&& 858993459)) + (((((x0 - (((x0.toUInt32 >>> ((1 : Int32).toUInt32 &&& Int32.toUInt32 31)).toInt32) &&& 1431655765)) &&& 858993459) + ((((x0 - (((x0.toUInt32 >>> ((1 : Int32).toUInt32 &&& Int32.toUInt32 31)).toInt32) &&& 1431655765)).toUInt32 >>> ((2 : Int32).toUInt32 &&& Int32.toUInt32 31)).toInt32) &&& 858993459)).toUInt32 >>> ((4 : Int32).toUInt32 &&& Int32.toUInt32 31)).toInt32)) &&& 252645135).toUInt32 >>> ((8 : Int32).toUInt32 &&& Int32.toUInt32 31)).toInt32)) + ((((((((x0 - (((x0.toUInt32 >>> ((1 : Int32).toUInt32 &&& Int32.toUInt32 31)).toInt32) &&& 1431655765)) &&& 858993459) + ((((x0 - (((x0.toUInt32 >>> ((1 : Int32).toUInt32 &&& Int32.toUInt32 31)).toInt32) &&& 1431655765)).toUInt32 >>> ((2 : Int32).toUInt32 &&& Int32.toUInt32 31)).toInt32) &&& 858993459)) + (((((x0 - (((x0.toUInt32 >>> ((1 : Int32).toUInt32 &&& Int32.toUInt32 31)).toInt32) &&& 1431655765)) &&& 858993459) + ((((x0 - (((x0.toUInt32 >>> ((1 : Int32).toUInt32 &&& Int32.toUInt32 31)).toInt32) &&& 1431655765)).toUInt32 >>> ((2 : Int32).toUInt32 &&& Int32.toUInt32 31)).toInt32) &&& 858993459)).toUInt32 >>> ((4 : Int32).toUInt32 &&& Int32.toUInt32 31)).toInt32)) &&& 252645135) + (((((((x0 - (((x0.toUInt32 >>> ((1 : Int32).toUInt32 &&& Int32.toUInt32 31)).toInt32) &&& 1431655765)) &&& 858993459) + ((((x0 - (((x0.toUInt32 >>> ((1 : Int32).toUInt32 &&& Int32.toUInt32 31)).toInt32) &&& 1431655765)).toUInt32 >>> ((2 : Int32).toUInt32 &&& Int32.toUInt32 31)).toInt32) &&& 858993459)) + (((((x0 - (((x0.toUInt32 >>> ((1 : Int32).toUInt32 &&& Int32.toUInt32 31)).toInt32) &&& 1431655765)) &&& 858993459) + ((((x0 - (((x0.toUInt32 >>> ((1 : Int32).toUInt32 &&& Int32.toUInt32 31)).toInt32) &&& 1431655765)).toUInt32 >>> ((2 : Int32).toUInt32 &&& Int32.toUInt32 31)).toInt32) &&& 858993459)).toUInt32 >>> ((4 : Int32).toUInt32 &&& Int32.toUInt32 31)).toInt32)) &&& 252645135).toUInt32 >>> ((8 : Int32).toUInt32 &&& Int32.toUInt32 31)).toInt32)).toUInt32 >>> ((16 : Int32).toUInt32 &&& Int32.toUInt32 31)).toInt32)))]) hx hb dJ6_bitCount_0f7a4_47 rfl hl (Nat.le_of_ble_eq_true rfl) rfl (fun ls hl => ?_)
  refine lv_iload_n hx hb dJ6_bitCount_0f7a4_48 rfl (lv_at hl 0 rfl) ?_
  refine lv_bipush (v := 63) hx hb dJ6_bitCount_0f7a4_49 (by decide) ?_
  refine lv_iand hx hb dJ6_bitCount_0f7a4_51 ?_
  exact r_iret hx hb hr hlk hK hG rfl hw dJ6_bitCount_0f7a4_52
set_option maxRecDepth 100000 in
set_option maxHeartbeats 4000000 in
theorem z_X0_ways_b38 {p : Program} {e : Env} {s : State} {m : MethodId} {args : Array Value} {below : List Frame} {meth : Method} {c : Code} (l : Launch) (y : Sy) (x0 : Int32) (x1 : Int32) (x2 : Int32) (C : Sd p s m args meth c cX0_ways 6 RX0 (some .long) y) (c5 : Int64 → Int32 → St → Prop) (K : Int64 → St → Prop) (hc5 : ∀ (v3 : Int64) (v5 : Int32) (st : St) (H : Heap) (locs : List Loc) (ls : Array Slot), gH 107 enX y st s H locs → lv_has ls 6 [(0, .int x0), (1, .int x1), (2, .int x2), (3, .long v3), (5, .int v5)] → c5 v3 v5 st → W p l e (rmm 1 24) s m args below meth c H locs 0 0 (MQ below (va_Ql K (gB 107 enX y) (gA 107 y)) args s 0 0 (gA 107 y)) (F0 m 5 ls [])) (v3 : Int64) (v5 : Int32) (st : St) {H : Heap} {locs : List Loc} {ls : Array Slot} (hG : gH 107 enX y st s H locs) (hl : lv_has ls 6 [(0, .int x0), (1, .int x1), (2, .int x2), (3, .long v3), (5, .int v5)]) (hw : w_X0_ways_b38 x0 x1 x2 c5 K v3 v5 st) : W p l e (rmm 1 24) s m args below meth c H locs 0 0 (MQ below (va_Ql K (gB 107 enX y) (gA 107 y)) args s 0 0 (gA 107 y)) (F0 m 38 ls []) := by
  obtain ⟨hx, hb, hml, hown, hts, hr, hlk, hK, hN⟩ := id C
  unfold w_X0_ways_b38 at hw
  refine lv_iinc (v := (v5 + 1)) (lv' := [(5, .int (v5 + 1)), (0, .int x0), (1, .int x1), (2, .int x2), (3, .long v3)]) hx hb dX0_ways_38 hl (k := 4) rfl rfl (Nat.le_of_ble_eq_true rfl) rfl (fun ls hl => ?_)
  refine lv_goto (tgt := 5) hx hb dX0_ways_41 (by decide) ?_
  exact hc5 v3 (v5 + 1) st H locs _ hG (lv_sub hl [1, 2, 3, 4, 0] rfl) hw
set_option maxRecDepth 100000 in
set_option maxHeartbeats 4000000 in
theorem z_X0_ways_L5 {p : Program} {e : Env} {s : State} {m : MethodId} {args : Array Value} {below : List Frame} {meth : Method} {c : Code} (l : Launch) (y : Sy) (x0 : Int32) (x1 : Int32) (x2 : Int32) (C : Sd p s m args meth c cX0_ways 6 RX0 (some .long) y)  (K : Int64 → St → Prop)  : ∀ (n : Nat) (v3 : Int64) (v5 : Int32) (st : St) (H : Heap) (locs : List Loc) (ls : Array Slot), gH 107 enX y st s H locs → lv_has ls 6 [(0, .int x0), (1, .int x1), (2, .int x2), (3, .long v3), (5, .int v5)] → w_X0_ways_L5 x0 x1 x2  K n v3 v5 st → W p l e (rmm 1 24) s m args below meth c H locs 0 0 (MQ below (va_Ql K (gB 107 enX y) (gA 107 y)) args s 0 0 (gA 107 y)) (F0 m 5 ls []) := by
  obtain ⟨hx, hb, hml, hown, hts, hr, hlk, hK, hN⟩ := id C
  intro n
  induction n with
  | zero => intro v3 v5 st H locs ls hG hl hw; exact False.elim hw
  | succ n hc5 =>
    intro v3 v5 st H locs ls hG hl hw
    have hw : w_X0_ways_L5q x0 x1 x2  K (fun v3 v5 st => w_X0_ways_L5 x0 x1 x2  K n v3 v5 st) v3 v5 st := hw
    unfold w_X0_ways_L5q at hw
    refine lv_iload hx hb dX0_ways_5 (lv_at hl 4 rfl) ?_
    refine lv_iconst (v := 1) hx hb dX0_ways_7 (by decide) ?_
    refine lv_iload_n hx hb dX0_ways_8 rfl (lv_at hl 0 rfl) ?_
    refine lv_ishl hx hb dX0_ways_9 ?_
    refine lv_icmp_ge (tgt := 44) hx hb dX0_ways_10 (by decide) (fun hc => ?_) (fun hc => ?_)
    · replace hw := hw.1 hc
      refine lv_lload_n hx hb dX0_ways_44 rfl (lv_at hl 3 rfl) ?_
      exact r_lret hx hb hr hlk hK hG hw dX0_ways_45
    · replace hw := hw.2 hc
      refine lv_iload hx hb dX0_ways_13 (lv_at hl 4 rfl) ?_
      refine r_ki (r_run_S (As := [.int v5]) (rest := []) hx hb hml hown hts hK hN hG (c_J6_bitCount_0f7a4 l y v5 st _ hw) qM_X0_7 qT_J6_bitCount_0f7a4 qN_J6 qC_J6_bitCount_0f7a4 hd_J6_bitCount_0f7a4 ⟨Nat.le_of_ble_eq_true rfl, Nat.le_of_ble_eq_true rfl⟩ hl.1 rfl (Nat.le_of_ble_eq_true rfl) dX0_ways_15) hG (fun r15 st15 H locs hw hG => ?_)
      refine lv_iload_n hx hb dX0_ways_18 rfl (lv_at hl 1 rfl) ?_
      refine lv_icmp_lt (tgt := 38) hx hb dX0_ways_19 (by decide) (fun hc => ?_) (fun hc => ?_)
      · replace hw := hw.1 hc
        exact z_X0_ways_b38 l y x0 x1 x2 C (fun v3 v5 st => w_X0_ways_L5 x0 x1 x2  K n v3 v5 st) K hc5 v3 v5 st15 hG (lv_sub hl [0, 1, 2, 3, 4] rfl) hw
      · replace hw := hw.2 hc
        refine lv_lload_n hx hb dX0_ways_22 rfl (lv_at hl 3 rfl) ?_
        refine lv_iload_n hx hb dX0_ways_23 rfl (lv_at hl 2 rfl) ?_
        refine lv_iconst (v := 1) hx hb dX0_ways_24 (by decide) ?_
        refine lv_isub hx hb dX0_ways_25 ?_
        refine lv_iload_n hx hb dX0_ways_26 rfl (lv_at hl 0 rfl) ?_
        refine lv_iload hx hb dX0_ways_27 (lv_at hl 4 rfl) ?_
        refine r_ki (r_run_S (As := [.int v5]) (rest := [.int x0, .int (x2 - 1), .long v3]) hx hb hml hown hts hK hN hG (c_J6_bitCount_0f7a4 l y v5 st15 _ hw) qM_X0_7 qT_J6_bitCount_0f7a4 qN_J6 qC_J6_bitCount_0f7a4 hd_J6_bitCount_0f7a4 ⟨Nat.le_of_ble_eq_true rfl, Nat.le_of_ble_eq_true rfl⟩ hl.1 rfl (Nat.le_of_ble_eq_true rfl) dX0_ways_29) hG (fun r29 st29 H locs hw hG => ?_)
        refine lv_isub hx hb dX0_ways_32 ?_
        refine r_kl (r_run_S (As := [.int (x2 - 1), .int (x0 - r29)]) (rest := [.long v3]) hx hb hml hown hts hK hN hG (c_X0_power l y (x2 - 1) (x0 - r29) st29 _ hw) qM_X0_13 qT_X0_power qN_X0 qC_X0_power hd_X0_power ⟨Nat.le_of_ble_eq_true rfl, Nat.le_of_ble_eq_true rfl⟩ hl.1 rfl (Nat.le_of_ble_eq_true rfl) dX0_ways_33) hG (fun r33 st33 H locs hw hG => ?_)
        refine lv_ladd hx hb dX0_ways_36 ?_
        refine lv_lstore_n (lv' := [(3, .long (v3 + r33)), (0, .int x0), (1, .int x1), (2, .int x2), (5, .int v5)]) hx hb dX0_ways_37 rfl hl (Nat.le_of_ble_eq_true rfl) rfl (fun ls hl => ?_)
        exact z_X0_ways_b38 l y x0 x1 x2 C (fun v3 v5 st => w_X0_ways_L5 x0 x1 x2  K n v3 v5 st) K hc5 (v3 + r33) v5 st33 hG (lv_sub hl [1, 2, 3, 0, 4] rfl) hw
theorem hd_X0_ways : yX0_ways.cls ≠ "java/lang/invoke/MethodHandle" ∧ yX0_ways.cls ≠ "java/lang/invoke/VarHandle" ∧ (parseMethodDescriptor yX0_ways.desc).map (fun d => d.parameters.length) = some 3 := by decide +kernel
set_option maxRecDepth 100000 in
set_option maxHeartbeats 4000000 in
theorem c_X0_ways (l : Launch) (y : Sy) (x0 : Int32) (x1 : Int32) (x2 : Int32) (st : St) (K : Int64 → St → Prop) (hw : w_X0_ways x0 x1 x2 st K) : Cl 107 enX l yX0_ways cX0_ways 6 (some .long) 1 24 y [.int x0, .int x1, .int x2] st K := by
  refine ent (by decide) (Nat.le_of_ble_eq_true rfl) ?_
  intro p e s m below meth c C hG ls hl
  have hl : lv_has ls 6 [(0, .int x0), (1, .int x1), (2, .int x2)] := hl
  generalize ([.int x0, .int x1, .int x2] : List Value).toArray = args at C ⊢
  have C : Sd p s m args meth c cX0_ways 6 RX0 (some .long) y := C
  obtain ⟨hx, hb, hml, hown, hts, hr, hlk, hK, hN⟩ := id C
  generalize s.heap = H at hG ⊢
  generalize ([] : List Loc) = locs at hG ⊢
  unfold w_X0_ways at hw
  refine lv_lconst (v := 0) hx hb dX0_ways_0 (by decide) ?_
  refine lv_lstore_n (lv' := [(3, .long 0), (0, .int x0), (1, .int x1), (2, .int x2)]) hx hb dX0_ways_1 rfl hl (Nat.le_of_ble_eq_true rfl) rfl (fun ls hl => ?_)
  refine lv_iconst (v := 0) hx hb dX0_ways_2 (by decide) ?_
  refine lv_istore (lv' := [(5, .int 0), (3, .long 0), (0, .int x0), (1, .int x1), (2, .int x2)]) hx hb dX0_ways_3 hl (Nat.le_of_ble_eq_true rfl) rfl (fun ls hl => ?_)
  obtain ⟨n5, hw⟩ := hw
  exact z_X0_ways_L5 l y x0 x1 x2 C  K  n5 0 0 st H locs _ hG (lv_sub hl [2, 3, 4, 1, 0] rfl) hw
set_option maxRecDepth 100000 in
set_option maxHeartbeats 4000000 in
theorem z_X0_commonDivisor_L9 {p : Program} {e : Env} {s : State} {m : MethodId} {args : Array Value} {below : List Frame} {meth : Method} {c : Code} (l : Launch) (y : Sy) (x0 : Int64) (x2 : Int64) (C : Sd p s m args meth c cX0_commonDivisor 11 RX0 (some .long) y)  (K : Int64 → St → Prop)  : ∀ (n : Nat) (v4 : Int64) (v6 : Int64) (v8 : Int32) (st : St) (H : Heap) (locs : List Loc) (ls : Array Slot), gH 107 enX y st s H locs → lv_has ls 11 [(4, .long v4), (6, .long v6), (8, .int v8)] → w_X0_commonDivisor_L9 x0 x2  K n v4 v6 v8 st → W p l e (rmm 0 0) s m args below meth c H locs 0 0 (MQ below (va_Ql K (gB 107 enX y) (gA 107 y)) args s 0 0 (gA 107 y)) (F0 m 9 ls []) := by
  obtain ⟨hx, hb, hml, hown, hts, hr, hlk, hK, hN⟩ := id C
  intro n
  induction n with
  | zero => intro v4 v6 v8 st H locs ls hG hl hw; exact False.elim hw
  | succ n hc9 =>
    intro v4 v6 v8 st H locs ls hG hl hw
    have hw : w_X0_commonDivisor_L9q x0 x2  K (fun v4 v6 v8 st => w_X0_commonDivisor_L9 x0 x2  K n v4 v6 v8 st) v4 v6 v8 st := hw
    unfold w_X0_commonDivisor_L9q at hw
    refine lv_iload hx hb dX0_commonDivisor_9 (lv_at hl 2 rfl) ?_
    refine lv_bipush (v := 100) hx hb dX0_commonDivisor_11 (by decide) ?_
    refine lv_icmp_ge (tgt := 44) hx hb dX0_commonDivisor_13 (by decide) (fun hc => ?_) (fun hc => ?_)
    · replace hw := hw.1 hc
      refine lv_lload hx hb dX0_commonDivisor_44 (lv_at hl 0 rfl) ?_
      exact r_lret hx hb hr hlk hK hG hw dX0_commonDivisor_46
    · replace hw := hw.2 hc
      refine lv_lload hx hb dX0_commonDivisor_16 (lv_at hl 1 rfl) ?_
      refine lv_lconst (v := 0) hx hb dX0_commonDivisor_18 (by decide) ?_
      refine W.lcmp hx hb dX0_commonDivisor_19 ?_
      refine lv_if_eq (tgt := 44) hx hb dX0_commonDivisor_20 (by decide) (fun hc => ?_) (fun hc => ?_)
      · replace hw := hw.1 hc
        refine lv_lload hx hb dX0_commonDivisor_44 (lv_at hl 0 rfl) ?_
        exact r_lret hx hb hr hlk hK hG hw dX0_commonDivisor_46
      · replace hw := hw.2 hc
        refine lv_lload hx hb dX0_commonDivisor_23 (lv_at hl 0 rfl) ?_
        refine lv_lload hx hb dX0_commonDivisor_25 (lv_at hl 1 rfl) ?_
        obtain ⟨h27, hw⟩ := hw
        refine lv_lrem hx hb dX0_commonDivisor_27 h27 ?_
        refine lv_lstore (lv' := [(9, .long (v4 - v4 / v6 * v6)), (4, .long v4), (6, .long v6), (8, .int v8)]) hx hb dX0_commonDivisor_28 hl (Nat.le_of_ble_eq_true rfl) rfl (fun ls hl => ?_)
        refine lv_lload hx hb dX0_commonDivisor_30 (lv_at hl 2 rfl) ?_
        refine lv_lstore (lv' := [(4, .long v6), (9, .long (v4 - v4 / v6 * v6)), (6, .long v6), (8, .int v8)]) hx hb dX0_commonDivisor_32 hl (Nat.le_of_ble_eq_true rfl) rfl (fun ls hl => ?_)
        refine lv_lload hx hb dX0_commonDivisor_34 (lv_at hl 1 rfl) ?_
        refine lv_lstore (lv' := [(6, .long (v4 - v4 / v6 * v6)), (4, .long v6), (9, .long (v4 - v4 / v6 * v6)), (8, .int v8)]) hx hb dX0_commonDivisor_36 hl (Nat.le_of_ble_eq_true rfl) rfl (fun ls hl => ?_)
        refine lv_iinc (v := (v8 + 1)) (lv' := [(8, .int (v8 + 1)), (6, .long (v4 - v4 / v6 * v6)), (4, .long v6), (9, .long (v4 - v4 / v6 * v6))]) hx hb dX0_commonDivisor_38 hl (k := 3) rfl rfl (Nat.le_of_ble_eq_true rfl) rfl (fun ls hl => ?_)
        refine lv_goto (tgt := 9) hx hb dX0_commonDivisor_41 (by decide) ?_
        exact hc9 v6 (v4 - v4 / v6 * v6) (v8 + 1) st H locs _ hG (lv_sub hl [2, 1, 0] rfl) hw
theorem hd_X0_commonDivisor : yX0_commonDivisor.cls ≠ "java/lang/invoke/MethodHandle" ∧ yX0_commonDivisor.cls ≠ "java/lang/invoke/VarHandle" ∧ (parseMethodDescriptor yX0_commonDivisor.desc).map (fun d => d.parameters.length) = some 2 := by decide +kernel
set_option maxRecDepth 100000 in
set_option maxHeartbeats 4000000 in
theorem c_X0_commonDivisor (l : Launch) (y : Sy) (x0 : Int64) (x2 : Int64) (st : St) (K : Int64 → St → Prop) (hw : w_X0_commonDivisor x0 x2 st K) : Cl 107 enX l yX0_commonDivisor cX0_commonDivisor 11 (some .long) 0 0 y [.long x0, .long x2] st K := by
  refine ent (by decide) (Nat.le_of_ble_eq_true rfl) ?_
  intro p e s m below meth c C hG ls hl
  have hl : lv_has ls 11 [(0, .long x0), (2, .long x2)] := hl
  generalize ([.long x0, .long x2] : List Value).toArray = args at C ⊢
  have C : Sd p s m args meth c cX0_commonDivisor 11 RX0 (some .long) y := C
  obtain ⟨hx, hb, hml, hown, hts, hr, hlk, hK, hN⟩ := id C
  generalize s.heap = H at hG ⊢
  generalize ([] : List Loc) = locs at hG ⊢
  unfold w_X0_commonDivisor at hw
  refine lv_lload_n hx hb dX0_commonDivisor_0 rfl (lv_at hl 0 rfl) ?_
  refine lv_lstore (lv' := [(4, .long x0), (0, .long x0), (2, .long x2)]) hx hb dX0_commonDivisor_1 hl (Nat.le_of_ble_eq_true rfl) rfl (fun ls hl => ?_)
  refine lv_lload_n hx hb dX0_commonDivisor_3 rfl (lv_at hl 2 rfl) ?_
  refine lv_lstore (lv' := [(6, .long x2), (4, .long x0), (0, .long x0), (2, .long x2)]) hx hb dX0_commonDivisor_4 hl (Nat.le_of_ble_eq_true rfl) rfl (fun ls hl => ?_)
  refine lv_iconst (v := 0) hx hb dX0_commonDivisor_6 (by decide) ?_
  refine lv_istore (lv' := [(8, .int 0), (6, .long x2), (4, .long x0), (0, .long x0), (2, .long x2)]) hx hb dX0_commonDivisor_7 hl (Nat.le_of_ble_eq_true rfl) rfl (fun ls hl => ?_)
  obtain ⟨n9, hw⟩ := hw
  exact z_X0_commonDivisor_L9 l y x0 x2 C  K  n9 x0 x2 0 st H locs _ hG (lv_sub hl [2, 1, 0] rfl) hw
set_option maxRecDepth 100000 in
set_option maxHeartbeats 4000000 in
theorem z_X0_part_b17 {p : Program} {e : Env} {s : State} {m : MethodId} {args : Array Value} {below : List Frame} {meth : Method} {c : Code} (l : Launch) (y : Sy) (x0 : Int64) (x2 : Int64) (x4 : Int32) (C : Sd p s m args meth c cX0_part 9 RX0 (some .long) y)  (K : Int64 → St → Prop)  (v5 : Int64) (s0 : Int64) (st : St) {H : Heap} {locs : List Loc} {ls : Array Slot} (hG : gH 107 enX y st s H locs) (hl : lv_has ls 9 [(5, .long v5)]) (hw : w_X0_part_b17 x0 x2 x4  K v5 s0 st) : W p l e (rmm 1 30) s m args below meth c H locs 0 0 (MQ below (va_Ql K (gB 107 enX y) (gA 107 y)) args s 0 0 (gA 107 y)) (F0 m 17 ls [.long s0]) := by
  obtain ⟨hx, hb, hml, hown, hts, hr, hlk, hK, hN⟩ := id C
  unfold w_X0_part_b17 at hw
  refine lv_lstore (lv' := [(7, .long s0), (5, .long v5)]) hx hb dX0_part_17 hl (Nat.le_of_ble_eq_true rfl) rfl (fun ls hl => ?_)
  refine lv_lload hx hb dX0_part_19 (lv_at hl 1 rfl) ?_
  refine lv_lconst (v := 0) hx hb dX0_part_21 (by decide) ?_
  refine W.lcmp hx hb dX0_part_22 ?_
  refine lv_if_le (tgt := 34) hx hb dX0_part_23 (by decide) (fun hc => ?_) (fun hc => ?_)
  · replace hw := hw.1 hc
    refine lv_lload hx hb dX0_part_34 (lv_at hl 0 rfl) ?_
    exact r_lret hx hb hr hlk hK hG hw dX0_part_36
  · replace hw := hw.2 hc
    refine lv_lload hx hb dX0_part_26 (lv_at hl 0 rfl) ?_
    refine lv_lload hx hb dX0_part_28 (lv_at hl 1 rfl) ?_
    obtain ⟨h30, hw⟩ := hw
    refine lv_ldiv hx hb dX0_part_30 h30 ?_
    refine lv_goto (tgt := 36) hx hb dX0_part_31 (by decide) ?_
    exact r_lret hx hb hr hlk hK hG hw dX0_part_36
theorem hd_X0_part : yX0_part.cls ≠ "java/lang/invoke/MethodHandle" ∧ yX0_part.cls ≠ "java/lang/invoke/VarHandle" ∧ (parseMethodDescriptor yX0_part.desc).map (fun d => d.parameters.length) = some 3 := by decide +kernel
set_option maxRecDepth 100000 in
set_option maxHeartbeats 4000000 in
theorem c_X0_part (l : Launch) (y : Sy) (x0 : Int64) (x2 : Int64) (x4 : Int32) (st : St) (K : Int64 → St → Prop) (hw : w_X0_part x0 x2 x4 st K) : Cl 107 enX l yX0_part cX0_part 9 (some .long) 1 30 y [.long x0, .long x2, .int x4] st K := by
  refine ent (by decide) (Nat.le_of_ble_eq_true rfl) ?_
  intro p e s m below meth c C hG ls hl
  have hl : lv_has ls 9 [(0, .long x0), (2, .long x2), (4, .int x4)] := hl
  generalize ([.long x0, .long x2, .int x4] : List Value).toArray = args at C ⊢
  have C : Sd p s m args meth c cX0_part 9 RX0 (some .long) y := C
  obtain ⟨hx, hb, hml, hown, hts, hr, hlk, hK, hN⟩ := id C
  generalize s.heap = H at hG ⊢
  generalize ([] : List Loc) = locs at hG ⊢
  unfold w_X0_part at hw
  refine lv_lload_n hx hb dX0_part_0 rfl (lv_at hl 0 rfl) ?_
  refine lv_lload_n hx hb dX0_part_1 rfl (lv_at hl 1 rfl) ?_
  refine r_kl (r_run_S (As := [.long x0, .long x2]) (rest := []) hx hb hml hown hts hK hN hG (c_X0_commonDivisor l y x0 x2 st _ hw) qM_X0_19 qT_X0_commonDivisor qN_X0 qC_X0_commonDivisor hd_X0_commonDivisor ⟨Nat.le_of_ble_eq_true rfl, Nat.le_of_ble_eq_true rfl⟩ hl.1 rfl (Nat.le_of_ble_eq_true rfl) dX0_part_2) hG (fun r2 st2 H locs hw hG => ?_)
  refine lv_lstore (lv' := [(5, .long r2), (0, .long x0), (2, .long x2), (4, .int x4)]) hx hb dX0_part_5 hl (Nat.le_of_ble_eq_true rfl) rfl (fun ls hl => ?_)
  refine lv_iload hx hb dX0_part_7 (lv_at hl 3 rfl) ?_
  refine lv_if_ne (tgt := 16) hx hb dX0_part_9 (by decide) (fun hc => ?_) (fun hc => ?_)
  · replace hw := hw.1 hc
    refine lv_lload_n hx hb dX0_part_16 rfl (lv_at hl 2 rfl) ?_
    exact z_X0_part_b17 l y x0 x2 x4 C  K  r2 x2 st2 hG (lv_sub hl [0] rfl) hw
  · replace hw := hw.2 hc
    refine lv_lload_n hx hb dX0_part_12 rfl (lv_at hl 1 rfl) ?_
    refine lv_goto (tgt := 17) hx hb dX0_part_13 (by decide) ?_
    exact z_X0_part_b17 l y x0 x2 x4 C  K  r2 x0 st2 hG (lv_sub hl [0] rfl) hw
theorem hd_X8_copy : yX8_copy.cls ≠ "java/lang/invoke/MethodHandle" ∧ yX8_copy.cls ≠ "java/lang/invoke/VarHandle" ∧ (parseMethodDescriptor yX8_copy.desc).map (fun d => d.parameters.length) = some 2 := by decide +kernel
set_option maxRecDepth 100000 in
set_option maxHeartbeats 4000000 in
theorem c_X8_copy (l : Launch) (y : Sy) (k0 : Nat) (n0 : Nat) (h0 : isA k0 n0) (k1 : Nat) (n1 : Nat) (h1 : isA k1 n1) (st : St) (K : St → Prop) (hw : w_X8_copy k0 n0 k1 n1 st K) : Cv 107 enX l yX8_copy cX8_copy 2 none 1 26 y [.ref (ad y k0), .ref (ad y k1)] st K := by
  refine ent (by decide) (Nat.le_of_ble_eq_true rfl) ?_
  intro p e s m below meth c C hG ls hl
  have hl : lv_has ls 2 [(0, .ref (ad y k0)), (1, .ref (ad y k1))] := hl
  generalize ([.ref (ad y k0), .ref (ad y k1)] : List Value).toArray = args at C ⊢
  have C : Sd p s m args meth c cX8_copy 2 RX8 none y := C
  obtain ⟨hx, hb, hml, hown, hts, hr, hlk, hK, hN⟩ := id C
  generalize s.heap = H at hG ⊢
  generalize ([] : List Loc) = locs at hG ⊢
  unfold w_X8_copy at hw
  refine lv_aload_n hx hb dX8_copy_0 rfl (lv_at hl 0 rfl) ?_
  refine lv_ifnull hx hb dX8_copy_1 ?_
  refine lv_aload_n hx hb dX8_copy_4 rfl (lv_at hl 1 rfl) ?_
  refine lv_ifnull hx hb dX8_copy_5 ?_
  refine lv_aload_n hx hb dX8_copy_8 rfl (lv_at hl 0 rfl) ?_
  refine lv_iconst (v := 0) hx hb dX8_copy_9 (by decide) ?_
  refine lv_aload_n hx hb dX8_copy_10 rfl (lv_at hl 1 rfl) ?_
  refine lv_iconst (v := 0) hx hb dX8_copy_11 (by decide) ?_
  refine lv_aload_n hx hb dX8_copy_12 rfl (lv_at hl 0 rfl) ?_
  refine r_alen (v := (nI n0)) hx hb hK hG (h0).1 ((h0).2 y _) rfl dX8_copy_13 ?_
  refine lv_aload_n hx hb dX8_copy_14 rfl (lv_at hl 1 rfl) ?_
  refine r_alen (v := (nI n1)) hx hb hK hG (h1).1 ((h1).2 y _) rfl dX8_copy_15 ?_
  refine va_mmin hx hb (hml.trans hl.1.symm) hown (hts _ qM_X8_360) (hts _ qT_Lib_Math_min_name) (hts _ qN_J9) (hts _ qC_Lib_Math_min_name) (Nat.le_of_ble_eq_true rfl) (Nat.le_of_ble_eq_true rfl) (Nat.zero_le _) (Nat.zero_le _) dX8_copy_16 ?_
  obtain ⟨hi, hw⟩ := hw
  refine r_copy hx hb (hml.trans hl.1.symm) hown hts hK hG qM_X8_363 (h0).1 (fun f => (h0).2 y f) (h1).1 (fun f => (h1).2 y f) hi.1 hi.2.1 hi.2.2 (Nat.le_of_ble_eq_true rfl) (Nat.le_of_ble_eq_true rfl) dX8_copy_19 (fun H locs hG => ?_)
  exact r_vret hx hb hr hlk hK hG hw dX8_copy_22
set_option maxRecDepth 100000 in
set_option maxHeartbeats 4000000 in
theorem z_J7_fill_53178_L5 {p : Program} {e : Env} {s : State} {m : MethodId} {args : Array Value} {below : List Frame} {meth : Method} {c : Code} (l : Launch) (y : Sy) (k0 : Nat) (n0 : Nat) (h0 : isA k0 n0) (x1 : Int32) (C : Sd p s m args meth c cJ7_fill_53178 4 RJ7 none y)  (K : St → Prop)  : ∀ (n : Nat) (v2 : Int32) (v3 : Int32) (st : St) (H : Heap) (locs : List Loc) (ls : Array Slot), gH 107 enX y st s H locs → lv_has ls 4 [(0, .ref (ad y k0)), (1, .int x1), (2, .int v2), (3, .int v3)] → w_J7_fill_53178_L5 k0 n0 x1  K n v2 v3 st → W p l e (rmm 0 0) s m args below meth c H locs 0 0 (MQ below (va_Qv K (gB 107 enX y) (gA 107 y)) args s 0 0 (gA 107 y)) (F0 m 5 ls []) := by
  obtain ⟨hx, hb, hml, hown, hts, hr, hlk, hK, hN⟩ := id C
  intro n
  induction n with
  | zero => intro v2 v3 st H locs ls hG hl hw; exact False.elim hw
  | succ n hc5 =>
    intro v2 v3 st H locs ls hG hl hw
    have hw : w_J7_fill_53178_L5q k0 n0 x1  K (fun v2 v3 st => w_J7_fill_53178_L5 k0 n0 x1  K n v2 v3 st) v2 v3 st := hw
    unfold w_J7_fill_53178_L5q at hw
    refine lv_iload_n hx hb dJ7_fill_53178_5 rfl (lv_at hl 2 rfl) ?_
    refine lv_iload_n hx hb dJ7_fill_53178_6 rfl (lv_at hl 3 rfl) ?_
    refine lv_icmp_ge (tgt := 20) hx hb dJ7_fill_53178_7 (by decide) (fun hc => ?_) (fun hc => ?_)
    · replace hw := hw.1 hc
      exact r_vret hx hb hr hlk hK hG hw dJ7_fill_53178_20
    · replace hw := hw.2 hc
      refine lv_aload_n hx hb dJ7_fill_53178_10 rfl (lv_at hl 0 rfl) ?_
      refine lv_iload_n hx hb dJ7_fill_53178_11 rfl (lv_at hl 2 rfl) ?_
      refine lv_iload_n hx hb dJ7_fill_53178_12 rfl (lv_at hl 1 rfl) ?_
      obtain ⟨hi, hw⟩ := hw
      refine r_iast hx hb hK hG (h0).1 (fun f => (h0).2 y f) hi dJ7_fill_53178_13 (fun H locs hG => ?_)
      refine lv_iinc (v := (v2 + 1)) (lv' := [(2, .int (v2 + 1)), (0, .ref (ad y k0)), (1, .int x1), (3, .int v3)]) hx hb dJ7_fill_53178_14 hl (k := 2) rfl rfl (Nat.le_of_ble_eq_true rfl) rfl (fun ls hl => ?_)
      refine lv_goto (tgt := 5) hx hb dJ7_fill_53178_17 (by decide) ?_
      exact hc5 (v2 + 1) v3 (u2 st k0 (v2).toNatClampNeg x1) H locs _ hG (lv_sub hl [1, 2, 0, 3] rfl) hw
theorem hd_J7_fill_53178 : yJ7_fill_53178.cls ≠ "java/lang/invoke/MethodHandle" ∧ yJ7_fill_53178.cls ≠ "java/lang/invoke/VarHandle" ∧ (parseMethodDescriptor yJ7_fill_53178.desc).map (fun d => d.parameters.length) = some 2 := by decide +kernel
set_option maxRecDepth 100000 in
set_option maxHeartbeats 4000000 in
theorem c_J7_fill_53178 (l : Launch) (y : Sy) (k0 : Nat) (n0 : Nat) (h0 : isA k0 n0) (x1 : Int32) (st : St) (K : St → Prop) (hw : w_J7_fill_53178 k0 n0 x1 st K) : Cv 107 enX l yJ7_fill_53178 cJ7_fill_53178 4 none 0 0 y [.ref (ad y k0), .int x1] st K := by
  refine ent (by decide) (Nat.le_of_ble_eq_true rfl) ?_
  intro p e s m below meth c C hG ls hl
  have hl : lv_has ls 4 [(0, .ref (ad y k0)), (1, .int x1)] := hl
  generalize ([.ref (ad y k0), .int x1] : List Value).toArray = args at C ⊢
  have C : Sd p s m args meth c cJ7_fill_53178 4 RJ7 none y := C
  obtain ⟨hx, hb, hml, hown, hts, hr, hlk, hK, hN⟩ := id C
  generalize s.heap = H at hG ⊢
  generalize ([] : List Loc) = locs at hG ⊢
  unfold w_J7_fill_53178 at hw
  refine lv_iconst (v := 0) hx hb dJ7_fill_53178_0 (by decide) ?_
  refine lv_istore_n (lv' := [(2, .int 0), (0, .ref (ad y k0)), (1, .int x1)]) hx hb dJ7_fill_53178_1 rfl hl (Nat.le_of_ble_eq_true rfl) rfl (fun ls hl => ?_)
  refine lv_aload_n hx hb dJ7_fill_53178_2 rfl (lv_at hl 1 rfl) ?_
  refine r_alen (v := (nI n0)) hx hb hK hG (h0).1 ((h0).2 y _) rfl dJ7_fill_53178_3 ?_
  refine lv_istore_n (lv' := [(3, .int (nI n0)), (2, .int 0), (0, .ref (ad y k0)), (1, .int x1)]) hx hb dJ7_fill_53178_4 rfl hl (Nat.le_of_ble_eq_true rfl) rfl (fun ls hl => ?_)
  obtain ⟨n5, hw⟩ := hw
  exact z_J7_fill_53178_L5 l y k0 n0 h0 x1 C  K  n5 0 (nI n0) st H locs _ hG (lv_sub hl [2, 3, 1, 0] rfl) hw
theorem hd_X1_become : yX1_become.cls ≠ "java/lang/invoke/MethodHandle" ∧ yX1_become.cls ≠ "java/lang/invoke/VarHandle" ∧ (parseMethodDescriptor yX1_become.desc).map (fun d => d.parameters.length) = some 1 := by decide +kernel
set_option maxRecDepth 100000 in
set_option maxHeartbeats 4000000 in
theorem c_X1_become (l : Launch) (y : Sy) (k0 : Nat) (h0 : isC k0) (k1 : Nat) (h1 : isC k1) (st : St) (K : St → Prop) (hw : w_X1_become k0 k1 st K) : Cv 107 enX l yX1_become cX1_become 2 none 2 47 y [.ref (ad y k0), .ref (ad y k1)] st K := by
  refine ent (by decide) (Nat.le_of_ble_eq_true rfl) ?_
  intro p e s m below meth c C hG ls hl
  have hl : lv_has ls 2 [(0, .ref (ad y k0)), (1, .ref (ad y k1))] := hl
  generalize ([.ref (ad y k0), .ref (ad y k1)] : List Value).toArray = args at C ⊢
  have C : Sd p s m args meth c cX1_become 2 RX1 none y := C
  obtain ⟨hx, hb, hml, hown, hts, hr, hlk, hK, hN⟩ := id C
  generalize s.heap = H at hG ⊢
  generalize ([] : List Loc) = locs at hG ⊢
  unfold w_X1_become at hw
  refine lv_aload_n hx hb dX1_become_0 rfl (lv_at hl 1 rfl) ?_
  refine lv_ifnonnull (tgt := 5) hx hb dX1_become_1 (by decide) ?_
  refine lv_aload_n hx hb dX1_become_5 rfl (lv_at hl 1 rfl) ?_
  refine r_get (C := RX1) (T := TX1) (Nf := 11) hx hb hts hown hK hG (isC.lt h1) (isC.e h1 y _) rfl inX1 0 (by decide) qF_X1_9 rfl dX1_become_6 ?_
  refine lv_aload_n hx hb dX1_become_9 rfl (lv_at hl 0 rfl) ?_
  refine r_get (C := RX1) (T := TX1) (Nf := 11) hx hb hts hown hK hG (isC.lt h0) (isC.e h0 y _) rfl inX1 0 (by decide) qF_X1_9 rfl dX1_become_10 ?_
  refine r_kv (r_run_N (As := [.ref (ad y (k1 + 1)), .ref (ad y (k0 + 1))]) (rest := []) hx hb hml hown hts hK hN hG (c_X8_copy l y (k1 + 1) 6 (isC.a1 h1) (k0 + 1) 6 (isC.a1 h0) st _ hw) qM_X1_33 qT_X8_copy qN_X8 qC_X8_copy hd_X8_copy ⟨Nat.le_of_ble_eq_true rfl, Nat.le_of_ble_eq_true rfl⟩ hl.1 rfl (Nat.le_of_ble_eq_true rfl) dX1_become_13) hG (fun st13 H locs hw hG => ?_)
  refine lv_aload_n hx hb dX1_become_16 rfl (lv_at hl 1 rfl) ?_
  refine r_get (C := RX1) (T := TX1) (Nf := 11) hx hb hts hown hK hG (isC.lt h1) (isC.e h1 y _) rfl inX1 1 (by decide) qF_X1_15 rfl dX1_become_17 ?_
  refine lv_aload_n hx hb dX1_become_20 rfl (lv_at hl 0 rfl) ?_
  refine r_get (C := RX1) (T := TX1) (Nf := 11) hx hb hts hown hK hG (isC.lt h0) (isC.e h0 y _) rfl inX1 1 (by decide) qF_X1_15 rfl dX1_become_21 ?_
  refine r_kv (r_run_N (As := [.ref (ad y (k1 + 2)), .ref (ad y (k0 + 2))]) (rest := []) hx hb hml hown hts hK hN hG (c_X8_copy l y (k1 + 2) 6 (isC.a2 h1) (k0 + 2) 6 (isC.a2 h0) st13 _ hw) qM_X1_33 qT_X8_copy qN_X8 qC_X8_copy hd_X8_copy ⟨Nat.le_of_ble_eq_true rfl, Nat.le_of_ble_eq_true rfl⟩ hl.1 rfl (Nat.le_of_ble_eq_true rfl) dX1_become_24) hG (fun st24 H locs hw hG => ?_)
  refine lv_aload_n hx hb dX1_become_27 rfl (lv_at hl 1 rfl) ?_
  refine r_get (C := RX1) (T := TX1) (Nf := 11) hx hb hts hown hK hG (isC.lt h1) (isC.e h1 y _) rfl inX1 2 (by decide) qF_X1_18 rfl dX1_become_28 ?_
  refine lv_aload_n hx hb dX1_become_31 rfl (lv_at hl 0 rfl) ?_
  refine r_get (C := RX1) (T := TX1) (Nf := 11) hx hb hts hown hK hG (isC.lt h0) (isC.e h0 y _) rfl inX1 2 (by decide) qF_X1_18 rfl dX1_become_32 ?_
  refine r_kv (r_run_N (As := [.ref (ad y (k1 + 3)), .ref (ad y (k0 + 3))]) (rest := []) hx hb hml hown hts hK hN hG (c_X8_copy l y (k1 + 3) 6 (isC.a3 h1) (k0 + 3) 6 (isC.a3 h0) st24 _ hw) qM_X1_33 qT_X8_copy qN_X8 qC_X8_copy hd_X8_copy ⟨Nat.le_of_ble_eq_true rfl, Nat.le_of_ble_eq_true rfl⟩ hl.1 rfl (Nat.le_of_ble_eq_true rfl) dX1_become_35) hG (fun st35 H locs hw hG => ?_)
  refine lv_aload_n hx hb dX1_become_38 rfl (lv_at hl 1 rfl) ?_
  refine r_get (C := RX1) (T := TX1) (Nf := 11) hx hb hts hown hK hG (isC.lt h1) (isC.e h1 y _) rfl inX1 3 (by decide) qF_X1_21 rfl dX1_become_39 ?_
  refine lv_aload_n hx hb dX1_become_42 rfl (lv_at hl 0 rfl) ?_
  refine r_get (C := RX1) (T := TX1) (Nf := 11) hx hb hts hown hK hG (isC.lt h0) (isC.e h0 y _) rfl inX1 3 (by decide) qF_X1_21 rfl dX1_become_43 ?_
  refine r_kv (r_run_N (As := [.ref (ad y (k1 + 4)), .ref (ad y (k0 + 4))]) (rest := []) hx hb hml hown hts hK hN hG (c_X8_copy l y (k1 + 4) 36 (isC.a4 h1) (k0 + 4) 36 (isC.a4 h0) st35 _ hw) qM_X1_33 qT_X8_copy qN_X8 qC_X8_copy hd_X8_copy ⟨Nat.le_of_ble_eq_true rfl, Nat.le_of_ble_eq_true rfl⟩ hl.1 rfl (Nat.le_of_ble_eq_true rfl) dX1_become_46) hG (fun st46 H locs hw hG => ?_)
  refine lv_aload_n hx hb dX1_become_49 rfl (lv_at hl 1 rfl) ?_
  refine r_get (C := RX1) (T := TX1) (Nf := 11) hx hb hts hown hK hG (isC.lt h1) (isC.e h1 y _) rfl inX1 4 (by decide) qF_X1_24 rfl dX1_become_50 ?_
  refine lv_aload_n hx hb dX1_become_53 rfl (lv_at hl 0 rfl) ?_
  refine r_get (C := RX1) (T := TX1) (Nf := 11) hx hb hts hown hK hG (isC.lt h0) (isC.e h0 y _) rfl inX1 4 (by decide) qF_X1_24 rfl dX1_become_54 ?_
  refine r_kv (r_run_N (As := [.ref (ad y (k1 + 5)), .ref (ad y (k0 + 5))]) (rest := []) hx hb hml hown hts hK hN hG (c_X8_copy l y (k1 + 5) 6 (isC.a5 h1) (k0 + 5) 6 (isC.a5 h0) st46 _ hw) qM_X1_33 qT_X8_copy qN_X8 qC_X8_copy hd_X8_copy ⟨Nat.le_of_ble_eq_true rfl, Nat.le_of_ble_eq_true rfl⟩ hl.1 rfl (Nat.le_of_ble_eq_true rfl) dX1_become_57) hG (fun st57 H locs hw hG => ?_)
  refine lv_aload_n hx hb dX1_become_60 rfl (lv_at hl 1 rfl) ?_
  refine r_get (C := RX1) (T := TX1) (Nf := 11) hx hb hts hown hK hG (isC.lt h1) (isC.e h1 y _) rfl inX1 5 (by decide) qF_X1_27 rfl dX1_become_61 ?_
  refine lv_aload_n hx hb dX1_become_64 rfl (lv_at hl 0 rfl) ?_
  refine r_get (C := RX1) (T := TX1) (Nf := 11) hx hb hts hown hK hG (isC.lt h0) (isC.e h0 y _) rfl inX1 5 (by decide) qF_X1_27 rfl dX1_become_65 ?_
  refine r_kv (r_run_N (As := [.ref (ad y (k1 + 6)), .ref (ad y (k0 + 6))]) (rest := []) hx hb hml hown hts hK hN hG (c_X8_copy l y (k1 + 6) 6 (isC.a6 h1) (k0 + 6) 6 (isC.a6 h0) st57 _ hw) qM_X1_33 qT_X8_copy qN_X8 qC_X8_copy hd_X8_copy ⟨Nat.le_of_ble_eq_true rfl, Nat.le_of_ble_eq_true rfl⟩ hl.1 rfl (Nat.le_of_ble_eq_true rfl) dX1_become_68) hG (fun st68 H locs hw hG => ?_)
  refine lv_aload_n hx hb dX1_become_71 rfl (lv_at hl 0 rfl) ?_
  refine r_get (C := RX1) (T := TX1) (Nf := 11) hx hb hts hown hK hG (isC.lt h0) (isC.e h0 y _) rfl inX1 6 (by decide) qF_X1_30 rfl dX1_become_72 ?_
  refine lv_bipush (v := (-9)) hx hb dX1_become_75 (by decide) ?_
  refine r_kv (r_run_S (As := [.ref (ad y (k0 + 7)), .int (-9)]) (rest := []) hx hb hml hown hts hK hN hG (c_J7_fill_53178 l y (k0 + 7) 6 (isC.a7 h0) (-9) st68 _ hw) qM_X1_37 qT_J7_fill_53178 qN_J7 qC_J7_fill_53178 hd_J7_fill_53178 ⟨Nat.le_of_ble_eq_true rfl, Nat.le_of_ble_eq_true rfl⟩ hl.1 rfl (Nat.le_of_ble_eq_true rfl) dX1_become_77) hG (fun st77 H locs hw hG => ?_)
  refine lv_aload_n hx hb dX1_become_80 rfl (lv_at hl 0 rfl) ?_
  refine lv_aload_n hx hb dX1_become_81 rfl (lv_at hl 1 rfl) ?_
  refine r_get (C := RX1) (T := TX1) (Nf := 11) hx hb hts hown hK hG (isC.lt h1) (isC.e h1 y _) rfl inX1 7 (by decide) qF_X1_43 rfl dX1_become_82 ?_
  refine r_put (C := RX1) (T := TX1) (Nf := 11) hx hb hts hown hK hG (isC.lt h0) (isC.e h0 y _) rfl inX1 tyX1_ok nmX1 7 (by decide) qF_X1_43 rfl (st77 k1 7) (isC.p7 h0 y _ _) rfl rfl (Nat.le_of_ble_eq_true rfl) dX1_become_85 (fun H locs hG => ?_)
  refine lv_aload_n hx hb dX1_become_88 rfl (lv_at hl 0 rfl) ?_
  refine lv_aload_n hx hb dX1_become_89 rfl (lv_at hl 1 rfl) ?_
  refine r_get (C := RX1) (T := TX1) (Nf := 11) hx hb hts hown hK hG (isC.lt h1) (isC.e h1 y _) rfl inX1 8 (by decide) qF_X1_47 rfl dX1_become_90 ?_
  refine r_put (C := RX1) (T := TX1) (Nf := 11) hx hb hts hown hK hG (isC.lt h0) (isC.e h0 y _) rfl inX1 tyX1_ok nmX1 8 (by decide) qF_X1_47 rfl ((u2 st77 k0 7 (st77 k1 7)) k1 8) (isC.p8 h0 y _ _) rfl rfl (Nat.le_of_ble_eq_true rfl) dX1_become_93 (fun H locs hG => ?_)
  refine lv_aload_n hx hb dX1_become_96 rfl (lv_at hl 0 rfl) ?_
  refine lv_aload_n hx hb dX1_become_97 rfl (lv_at hl 1 rfl) ?_
  refine r_get (C := RX1) (T := TX1) (Nf := 11) hx hb hts hown hK hG (isC.lt h1) (isC.e h1 y _) rfl inX1 9 (by decide) qF_X1_50 rfl dX1_become_98 ?_
  refine r_put (C := RX1) (T := TX1) (Nf := 11) hx hb hts hown hK hG (isC.lt h0) (isC.e h0 y _) rfl inX1 tyX1_ok nmX1 9 (by decide) qF_X1_50 rfl ((u2 (u2 st77 k0 7 (st77 k1 7)) k0 8 ((u2 st77 k0 7 (st77 k1 7)) k1 8)) k1 9) (isC.p9 h0 y _ _) rfl rfl (Nat.le_of_ble_eq_true rfl) dX1_become_101 (fun H locs hG => ?_)
  refine lv_aload_n hx hb dX1_become_104 rfl (lv_at hl 0 rfl) ?_
  refine lv_aload_n hx hb dX1_become_105 rfl (lv_at hl 1 rfl) ?_
  refine r_get (C := RX1) (T := TX1) (Nf := 11) hx hb hts hown hK hG (isC.lt h1) (isC.e h1 y _) rfl inX1 10 (by decide) qF_X1_53 rfl dX1_become_106 ?_
  refine r_put (C := RX1) (T := TX1) (Nf := 11) hx hb hts hown hK hG (isC.lt h0) (isC.e h0 y _) rfl inX1 tyX1_ok nmX1 10 (by decide) qF_X1_53 rfl ((u2 (u2 (u2 st77 k0 7 (st77 k1 7)) k0 8 ((u2 st77 k0 7 (st77 k1 7)) k1 8)) k0 9 ((u2 (u2 st77 k0 7 (st77 k1 7)) k0 8 ((u2 st77 k0 7 (st77 k1 7)) k1 8)) k1 9)) k1 10) (isC.p10 h0 y _ _) rfl rfl (Nat.le_of_ble_eq_true rfl) dX1_become_109 (fun H locs hG => ?_)
  exact r_vret hx hb hr hlk hK hG hw dX1_become_112
theorem hd_X1_keeperCount : yX1_keeperCount.cls ≠ "java/lang/invoke/MethodHandle" ∧ yX1_keeperCount.cls ≠ "java/lang/invoke/VarHandle" ∧ (parseMethodDescriptor yX1_keeperCount.desc).map (fun d => d.parameters.length) = some 0 := by decide +kernel
set_option maxRecDepth 100000 in
set_option maxHeartbeats 4000000 in
theorem c_X1_keeperCount (l : Launch) (y : Sy) (k0 : Nat) (h0 : isC k0) (st : St) (K : Int32 → St → Prop) (hw : w_X1_keeperCount k0 st K) : Ci 107 enX l yX1_keeperCount cX1_keeperCount 1 (some .int) 0 0 y [.ref (ad y k0)] st K := by
  refine ent (by decide) (Nat.le_of_ble_eq_true rfl) ?_
  intro p e s m below meth c C hG ls hl
  have hl : lv_has ls 1 [(0, .ref (ad y k0))] := hl
  generalize ([.ref (ad y k0)] : List Value).toArray = args at C ⊢
  have C : Sd p s m args meth c cX1_keeperCount 1 RX1 (some .int) y := C
  obtain ⟨hx, hb, hml, hown, hts, hr, hlk, hK, hN⟩ := id C
  generalize s.heap = H at hG ⊢
  generalize ([] : List Loc) = locs at hG ⊢
  unfold w_X1_keeperCount at hw
  refine lv_aload_n hx hb dX1_keeperCount_0 rfl (lv_at hl 0 rfl) ?_
  refine r_get (C := RX1) (T := TX1) (Nf := 11) hx hb hts hown hK hG (isC.lt h0) (isC.e h0 y _) rfl inX1 7 (by decide) qF_X1_43 rfl dX1_keeperCount_1 ?_
  exact r_iret hx hb hr hlk hK hG rfl hw dX1_keeperCount_4
theorem hd_X1_letterCount : yX1_letterCount.cls ≠ "java/lang/invoke/MethodHandle" ∧ yX1_letterCount.cls ≠ "java/lang/invoke/VarHandle" ∧ (parseMethodDescriptor yX1_letterCount.desc).map (fun d => d.parameters.length) = some 0 := by decide +kernel
set_option maxRecDepth 100000 in
set_option maxHeartbeats 4000000 in
theorem c_X1_letterCount (l : Launch) (y : Sy) (k0 : Nat) (h0 : isC k0) (st : St) (K : Int32 → St → Prop) (hw : w_X1_letterCount k0 st K) : Ci 107 enX l yX1_letterCount cX1_letterCount 1 (some .int) 0 0 y [.ref (ad y k0)] st K := by
  refine ent (by decide) (Nat.le_of_ble_eq_true rfl) ?_
  intro p e s m below meth c C hG ls hl
  have hl : lv_has ls 1 [(0, .ref (ad y k0))] := hl
  generalize ([.ref (ad y k0)] : List Value).toArray = args at C ⊢
  have C : Sd p s m args meth c cX1_letterCount 1 RX1 (some .int) y := C
  obtain ⟨hx, hb, hml, hown, hts, hr, hlk, hK, hN⟩ := id C
  generalize s.heap = H at hG ⊢
  generalize ([] : List Loc) = locs at hG ⊢
  unfold w_X1_letterCount at hw
  refine lv_aload_n hx hb dX1_letterCount_0 rfl (lv_at hl 0 rfl) ?_
  refine r_get (C := RX1) (T := TX1) (Nf := 11) hx hb hts hown hK hG (isC.lt h0) (isC.e h0 y _) rfl inX1 8 (by decide) qF_X1_47 rfl dX1_letterCount_1 ?_
  exact r_iret hx hb hr hlk hK hG rfl hw dX1_letterCount_4
theorem hd_X1_weekNow : yX1_weekNow.cls ≠ "java/lang/invoke/MethodHandle" ∧ yX1_weekNow.cls ≠ "java/lang/invoke/VarHandle" ∧ (parseMethodDescriptor yX1_weekNow.desc).map (fun d => d.parameters.length) = some 0 := by decide +kernel
set_option maxRecDepth 100000 in
set_option maxHeartbeats 4000000 in
theorem c_X1_weekNow (l : Launch) (y : Sy) (k0 : Nat) (h0 : isC k0) (st : St) (K : Int32 → St → Prop) (hw : w_X1_weekNow k0 st K) : Ci 107 enX l yX1_weekNow cX1_weekNow 1 (some .int) 0 0 y [.ref (ad y k0)] st K := by
  refine ent (by decide) (Nat.le_of_ble_eq_true rfl) ?_
  intro p e s m below meth c C hG ls hl
  have hl : lv_has ls 1 [(0, .ref (ad y k0))] := hl
  generalize ([.ref (ad y k0)] : List Value).toArray = args at C ⊢
  have C : Sd p s m args meth c cX1_weekNow 1 RX1 (some .int) y := C
  obtain ⟨hx, hb, hml, hown, hts, hr, hlk, hK, hN⟩ := id C
  generalize s.heap = H at hG ⊢
  generalize ([] : List Loc) = locs at hG ⊢
  unfold w_X1_weekNow at hw
  refine lv_aload_n hx hb dX1_weekNow_0 rfl (lv_at hl 0 rfl) ?_
  refine r_get (C := RX1) (T := TX1) (Nf := 11) hx hb hts hown hK hG (isC.lt h0) (isC.e h0 y _) rfl inX1 10 (by decide) qF_X1_53 rfl dX1_weekNow_1 ?_
  exact r_iret hx hb hr hlk hK hG rfl hw dX1_weekNow_4
theorem hd_X1_openBits : yX1_openBits.cls ≠ "java/lang/invoke/MethodHandle" ∧ yX1_openBits.cls ≠ "java/lang/invoke/VarHandle" ∧ (parseMethodDescriptor yX1_openBits.desc).map (fun d => d.parameters.length) = some 0 := by decide +kernel
set_option maxRecDepth 100000 in
set_option maxHeartbeats 4000000 in
theorem c_X1_openBits (l : Launch) (y : Sy) (k0 : Nat) (h0 : isC k0) (st : St) (K : Int32 → St → Prop) (hw : w_X1_openBits k0 st K) : Ci 107 enX l yX1_openBits cX1_openBits 1 (some .int) 0 0 y [.ref (ad y k0)] st K := by
  refine ent (by decide) (Nat.le_of_ble_eq_true rfl) ?_
  intro p e s m below meth c C hG ls hl
  have hl : lv_has ls 1 [(0, .ref (ad y k0))] := hl
  generalize ([.ref (ad y k0)] : List Value).toArray = args at C ⊢
  have C : Sd p s m args meth c cX1_openBits 1 RX1 (some .int) y := C
  obtain ⟨hx, hb, hml, hown, hts, hr, hlk, hK, hN⟩ := id C
  generalize s.heap = H at hG ⊢
  generalize ([] : List Loc) = locs at hG ⊢
  unfold w_X1_openBits at hw
  refine lv_aload_n hx hb dX1_openBits_0 rfl (lv_at hl 0 rfl) ?_
  refine r_get (C := RX1) (T := TX1) (Nf := 11) hx hb hts hown hK hG (isC.lt h0) (isC.e h0 y _) rfl inX1 9 (by decide) qF_X1_50 rfl dX1_openBits_1 ?_
  exact r_iret hx hb hr hlk hK hG rfl hw dX1_openBits_4
theorem hd_X1_openCount : yX1_openCount.cls ≠ "java/lang/invoke/MethodHandle" ∧ yX1_openCount.cls ≠ "java/lang/invoke/VarHandle" ∧ (parseMethodDescriptor yX1_openCount.desc).map (fun d => d.parameters.length) = some 0 := by decide +kernel
set_option maxRecDepth 100000 in
set_option maxHeartbeats 4000000 in
theorem c_X1_openCount (l : Launch) (y : Sy) (k0 : Nat) (h0 : isC k0) (st : St) (K : Int32 → St → Prop) (hw : w_X1_openCount k0 st K) : Ci 107 enX l yX1_openCount cX1_openCount 1 (some .int) 1 20 y [.ref (ad y k0)] st K := by
  refine ent (by decide) (Nat.le_of_ble_eq_true rfl) ?_
  intro p e s m below meth c C hG ls hl
  have hl : lv_has ls 1 [(0, .ref (ad y k0))] := hl
  generalize ([.ref (ad y k0)] : List Value).toArray = args at C ⊢
  have C : Sd p s m args meth c cX1_openCount 1 RX1 (some .int) y := C
  obtain ⟨hx, hb, hml, hown, hts, hr, hlk, hK, hN⟩ := id C
  generalize s.heap = H at hG ⊢
  generalize ([] : List Loc) = locs at hG ⊢
  unfold w_X1_openCount at hw
  refine lv_aload_n hx hb dX1_openCount_0 rfl (lv_at hl 0 rfl) ?_
  refine r_get (C := RX1) (T := TX1) (Nf := 11) hx hb hts hown hK hG (isC.lt h0) (isC.e h0 y _) rfl inX1 9 (by decide) qF_X1_50 rfl dX1_openCount_1 ?_
  refine r_ki (r_run_S (As := [.int (st k0 9)]) (rest := []) hx hb hml hown hts hK hN hG (c_J6_bitCount_0f7a4 l y (st k0 9) st _ hw) qM_X1_56 qT_J6_bitCount_0f7a4 qN_J6 qC_J6_bitCount_0f7a4 hd_J6_bitCount_0f7a4 ⟨Nat.le_of_ble_eq_true rfl, Nat.le_of_ble_eq_true rfl⟩ hl.1 rfl (Nat.le_of_ble_eq_true rfl) dX1_openCount_4) hG (fun r4 st4 H locs hw hG => ?_)
  exact r_iret hx hb hr hlk hK hG rfl hw dX1_openCount_7
theorem hd_X1_hasKeeper : yX1_hasKeeper.cls ≠ "java/lang/invoke/MethodHandle" ∧ yX1_hasKeeper.cls ≠ "java/lang/invoke/VarHandle" ∧ (parseMethodDescriptor yX1_hasKeeper.desc).map (fun d => d.parameters.length) = some 1 := by decide +kernel
set_option maxRecDepth 100000 in
set_option maxHeartbeats 4000000 in
theorem c_X1_hasKeeper (l : Launch) (y : Sy) (k0 : Nat) (h0 : isC k0) (x1 : Int32) (st : St) (K : Int32 → St → Prop) (hw : w_X1_hasKeeper k0 x1 st K) : Ci 107 enX l yX1_hasKeeper cX1_hasKeeper 2 (some .boolean) 0 0 y [.ref (ad y k0), .int x1] st K := by
  refine ent (by decide) (Nat.le_of_ble_eq_true rfl) ?_
  intro p e s m below meth c C hG ls hl
  have hl : lv_has ls 2 [(0, .ref (ad y k0)), (1, .int x1)] := hl
  generalize ([.ref (ad y k0), .int x1] : List Value).toArray = args at C ⊢
  have C : Sd p s m args meth c cX1_hasKeeper 2 RX1 (some .boolean) y := C
  obtain ⟨hx, hb, hml, hown, hts, hr, hlk, hK, hN⟩ := id C
  generalize s.heap = H at hG ⊢
  generalize ([] : List Loc) = locs at hG ⊢
  unfold w_X1_hasKeeper at hw
  refine lv_iload_n hx hb dX1_hasKeeper_0 rfl (lv_at hl 1 rfl) ?_
  refine lv_if_lt (tgt := 16) hx hb dX1_hasKeeper_1 (by decide) (fun hc => ?_) (fun hc => ?_)
  · replace hw := hw.1 hc
    refine lv_iconst (v := 0) hx hb dX1_hasKeeper_16 (by decide) ?_
    exact r_iret hx hb hr hlk hK hG rfl hw dX1_hasKeeper_17
  · replace hw := hw.2 hc
    refine lv_iload_n hx hb dX1_hasKeeper_4 rfl (lv_at hl 1 rfl) ?_
    refine lv_aload_n hx hb dX1_hasKeeper_5 rfl (lv_at hl 0 rfl) ?_
    refine r_get (C := RX1) (T := TX1) (Nf := 11) hx hb hts hown hK hG (isC.lt h0) (isC.e h0 y _) rfl inX1 7 (by decide) qF_X1_43 rfl dX1_hasKeeper_6 ?_
    refine lv_icmp_ge (tgt := 16) hx hb dX1_hasKeeper_9 (by decide) (fun hc => ?_) (fun hc => ?_)
    · replace hw := hw.1 hc
      refine lv_iconst (v := 0) hx hb dX1_hasKeeper_16 (by decide) ?_
      exact r_iret hx hb hr hlk hK hG rfl hw dX1_hasKeeper_17
    · replace hw := hw.2 hc
      refine lv_iconst (v := 1) hx hb dX1_hasKeeper_12 (by decide) ?_
      refine lv_goto (tgt := 17) hx hb dX1_hasKeeper_13 (by decide) ?_
      exact r_iret hx hb hr hlk hK hG rfl hw dX1_hasKeeper_17
theorem hd_X1_hasLetter : yX1_hasLetter.cls ≠ "java/lang/invoke/MethodHandle" ∧ yX1_hasLetter.cls ≠ "java/lang/invoke/VarHandle" ∧ (parseMethodDescriptor yX1_hasLetter.desc).map (fun d => d.parameters.length) = some 1 := by decide +kernel
set_option maxRecDepth 100000 in
set_option maxHeartbeats 4000000 in
theorem c_X1_hasLetter (l : Launch) (y : Sy) (k0 : Nat) (h0 : isC k0) (x1 : Int32) (st : St) (K : Int32 → St → Prop) (hw : w_X1_hasLetter k0 x1 st K) : Ci 107 enX l yX1_hasLetter cX1_hasLetter 2 (some .boolean) 0 0 y [.ref (ad y k0), .int x1] st K := by
  refine ent (by decide) (Nat.le_of_ble_eq_true rfl) ?_
  intro p e s m below meth c C hG ls hl
  have hl : lv_has ls 2 [(0, .ref (ad y k0)), (1, .int x1)] := hl
  generalize ([.ref (ad y k0), .int x1] : List Value).toArray = args at C ⊢
  have C : Sd p s m args meth c cX1_hasLetter 2 RX1 (some .boolean) y := C
  obtain ⟨hx, hb, hml, hown, hts, hr, hlk, hK, hN⟩ := id C
  generalize s.heap = H at hG ⊢
  generalize ([] : List Loc) = locs at hG ⊢
  unfold w_X1_hasLetter at hw
  refine lv_iload_n hx hb dX1_hasLetter_0 rfl (lv_at hl 1 rfl) ?_
  refine lv_if_lt (tgt := 16) hx hb dX1_hasLetter_1 (by decide) (fun hc => ?_) (fun hc => ?_)
  · replace hw := hw.1 hc
    refine lv_iconst (v := 0) hx hb dX1_hasLetter_16 (by decide) ?_
    exact r_iret hx hb hr hlk hK hG rfl hw dX1_hasLetter_17
  · replace hw := hw.2 hc
    refine lv_iload_n hx hb dX1_hasLetter_4 rfl (lv_at hl 1 rfl) ?_
    refine lv_aload_n hx hb dX1_hasLetter_5 rfl (lv_at hl 0 rfl) ?_
    refine r_get (C := RX1) (T := TX1) (Nf := 11) hx hb hts hown hK hG (isC.lt h0) (isC.e h0 y _) rfl inX1 8 (by decide) qF_X1_47 rfl dX1_hasLetter_6 ?_
    refine lv_icmp_ge (tgt := 16) hx hb dX1_hasLetter_9 (by decide) (fun hc => ?_) (fun hc => ?_)
    · replace hw := hw.1 hc
      refine lv_iconst (v := 0) hx hb dX1_hasLetter_16 (by decide) ?_
      exact r_iret hx hb hr hlk hK hG rfl hw dX1_hasLetter_17
    · replace hw := hw.2 hc
      refine lv_iconst (v := 1) hx hb dX1_hasLetter_12 (by decide) ?_
      refine lv_goto (tgt := 17) hx hb dX1_hasLetter_13 (by decide) ?_
      exact r_iret hx hb hr hlk hK hG rfl hw dX1_hasLetter_17
theorem hd_X1_areTwo : yX1_areTwo.cls ≠ "java/lang/invoke/MethodHandle" ∧ yX1_areTwo.cls ≠ "java/lang/invoke/VarHandle" ∧ (parseMethodDescriptor yX1_areTwo.desc).map (fun d => d.parameters.length) = some 2 := by decide +kernel
set_option maxRecDepth 100000 in
set_option maxHeartbeats 4000000 in
theorem c_X1_areTwo (l : Launch) (y : Sy) (k0 : Nat) (h0 : isC k0) (x1 : Int32) (x2 : Int32) (st : St) (K : Int32 → St → Prop) (hw : w_X1_areTwo k0 x1 x2 st K) : Ci 107 enX l yX1_areTwo cX1_areTwo 3 (some .boolean) 1 21 y [.ref (ad y k0), .int x1, .int x2] st K := by
  refine ent (by decide) (Nat.le_of_ble_eq_true rfl) ?_
  intro p e s m below meth c C hG ls hl
  have hl : lv_has ls 3 [(0, .ref (ad y k0)), (1, .int x1), (2, .int x2)] := hl
  generalize ([.ref (ad y k0), .int x1, .int x2] : List Value).toArray = args at C ⊢
  have C : Sd p s m args meth c cX1_areTwo 3 RX1 (some .boolean) y := C
  obtain ⟨hx, hb, hml, hown, hts, hr, hlk, hK, hN⟩ := id C
  generalize s.heap = H at hG ⊢
  generalize ([] : List Loc) = locs at hG ⊢
  unfold w_X1_areTwo at hw
  refine lv_aload_n hx hb dX1_areTwo_0 rfl (lv_at hl 0 rfl) ?_
  refine lv_iload_n hx hb dX1_areTwo_1 rfl (lv_at hl 1 rfl) ?_
  refine r_ki (r_run_V (k := k0) (As := [.int x1]) (rest := []) hx hb hml hown hts hK hN hG (c_X1_hasKeeper l y k0 h0 x1 st _ hw) (isC.lt h0) (isC.e h0 y _) rfl rfl qM_X1_62 qI_X1_hasKeeper qS_X1_hasKeeper qN_X1 qC_X1_hasKeeper hd_X1_hasKeeper ⟨Nat.le_of_ble_eq_true rfl, Nat.le_of_ble_eq_true rfl⟩ hl.1 rfl (Nat.le_of_ble_eq_true rfl) dX1_areTwo_2) hG (fun r2 st2 H locs hw hG => ?_)
  refine lv_if_eq (tgt := 25) hx hb dX1_areTwo_5 (by decide) (fun hc => ?_) (fun hc => ?_)
  · replace hw := hw.1 hc
    refine lv_iconst (v := 0) hx hb dX1_areTwo_25 (by decide) ?_
    exact r_iret hx hb hr hlk hK hG rfl hw dX1_areTwo_26
  · replace hw := hw.2 hc
    refine lv_aload_n hx hb dX1_areTwo_8 rfl (lv_at hl 0 rfl) ?_
    refine lv_iload_n hx hb dX1_areTwo_9 rfl (lv_at hl 2 rfl) ?_
    refine r_ki (r_run_V (k := k0) (As := [.int x2]) (rest := []) hx hb hml hown hts hK hN hG (c_X1_hasKeeper l y k0 h0 x2 st2 _ hw) (isC.lt h0) (isC.e h0 y _) rfl rfl qM_X1_62 qI_X1_hasKeeper qS_X1_hasKeeper qN_X1 qC_X1_hasKeeper hd_X1_hasKeeper ⟨Nat.le_of_ble_eq_true rfl, Nat.le_of_ble_eq_true rfl⟩ hl.1 rfl (Nat.le_of_ble_eq_true rfl) dX1_areTwo_10) hG (fun r10 st10 H locs hw hG => ?_)
    refine lv_if_eq (tgt := 25) hx hb dX1_areTwo_13 (by decide) (fun hc => ?_) (fun hc => ?_)
    · replace hw := hw.1 hc
      refine lv_iconst (v := 0) hx hb dX1_areTwo_25 (by decide) ?_
      exact r_iret hx hb hr hlk hK hG rfl hw dX1_areTwo_26
    · replace hw := hw.2 hc
      refine lv_iload_n hx hb dX1_areTwo_16 rfl (lv_at hl 1 rfl) ?_
      refine lv_iload_n hx hb dX1_areTwo_17 rfl (lv_at hl 2 rfl) ?_
      refine lv_icmp_eq (tgt := 25) hx hb dX1_areTwo_18 (by decide) (fun hc => ?_) (fun hc => ?_)
      · replace hw := hw.1 hc
        refine lv_iconst (v := 0) hx hb dX1_areTwo_25 (by decide) ?_
        exact r_iret hx hb hr hlk hK hG rfl hw dX1_areTwo_26
      · replace hw := hw.2 hc
        refine lv_iconst (v := 1) hx hb dX1_areTwo_21 (by decide) ?_
        refine lv_goto (tgt := 26) hx hb dX1_areTwo_22 (by decide) ?_
        exact r_iret hx hb hr hlk hK hG rfl hw dX1_areTwo_26
theorem hd_X8_at : yX8_at.cls ≠ "java/lang/invoke/MethodHandle" ∧ yX8_at.cls ≠ "java/lang/invoke/VarHandle" ∧ (parseMethodDescriptor yX8_at.desc).map (fun d => d.parameters.length) = some 2 := by decide +kernel
set_option maxRecDepth 100000 in
set_option maxHeartbeats 4000000 in
theorem c_X8_at (l : Launch) (y : Sy) (k0 : Nat) (n0 : Nat) (h0 : isA k0 n0) (x1 : Int32) (st : St) (K : Int32 → St → Prop) (hw : w_X8_at k0 n0 x1 st K) : Ci 107 enX l yX8_at cX8_at 2 (some .int) 0 0 y [.ref (ad y k0), .int x1] st K := by
  refine ent (by decide) (Nat.le_of_ble_eq_true rfl) ?_
  intro p e s m below meth c C hG ls hl
  have hl : lv_has ls 2 [(0, .ref (ad y k0)), (1, .int x1)] := hl
  generalize ([.ref (ad y k0), .int x1] : List Value).toArray = args at C ⊢
  have C : Sd p s m args meth c cX8_at 2 RX8 (some .int) y := C
  obtain ⟨hx, hb, hml, hown, hts, hr, hlk, hK, hN⟩ := id C
  generalize s.heap = H at hG ⊢
  generalize ([] : List Loc) = locs at hG ⊢
  unfold w_X8_at at hw
  refine lv_aload_n hx hb dX8_at_0 rfl (lv_at hl 0 rfl) ?_
  refine lv_ifnull hx hb dX8_at_1 ?_
  refine lv_iload_n hx hb dX8_at_4 rfl (lv_at hl 1 rfl) ?_
  refine lv_if_lt (tgt := 20) hx hb dX8_at_5 (by decide) (fun hc => ?_) (fun hc => ?_)
  · replace hw := hw.1 hc
    refine lv_iconst (v := 0) hx hb dX8_at_20 (by decide) ?_
    exact r_iret hx hb hr hlk hK hG rfl hw dX8_at_21
  · replace hw := hw.2 hc
    refine lv_iload_n hx hb dX8_at_8 rfl (lv_at hl 1 rfl) ?_
    refine lv_aload_n hx hb dX8_at_9 rfl (lv_at hl 0 rfl) ?_
    refine r_alen (v := (nI n0)) hx hb hK hG (h0).1 ((h0).2 y _) rfl dX8_at_10 ?_
    refine lv_icmp_ge (tgt := 20) hx hb dX8_at_11 (by decide) (fun hc => ?_) (fun hc => ?_)
    · replace hw := hw.1 hc
      refine lv_iconst (v := 0) hx hb dX8_at_20 (by decide) ?_
      exact r_iret hx hb hr hlk hK hG rfl hw dX8_at_21
    · replace hw := hw.2 hc
      refine lv_aload_n hx hb dX8_at_14 rfl (lv_at hl 0 rfl) ?_
      refine lv_iload_n hx hb dX8_at_15 rfl (lv_at hl 1 rfl) ?_
      obtain ⟨hi, hw⟩ := hw
      refine r_iald hx hb hK hG (h0).1 ((h0).2 y _) hi dX8_at_16 ?_
      refine lv_goto (tgt := 21) hx hb dX8_at_17 (by decide) ?_
      exact r_iret hx hb hr hlk hK hG rfl hw dX8_at_21
theorem hd_X1_areBothIn : yX1_areBothIn.cls ≠ "java/lang/invoke/MethodHandle" ∧ yX1_areBothIn.cls ≠ "java/lang/invoke/VarHandle" ∧ (parseMethodDescriptor yX1_areBothIn.desc).map (fun d => d.parameters.length) = some 3 := by decide +kernel
set_option maxRecDepth 100000 in
set_option maxHeartbeats 4000000 in
theorem c_X1_areBothIn (l : Launch) (y : Sy) (k0 : Nat) (h0 : isC k0) (x1 : Int32) (x2 : Int32) (x3 : Int32) (st : St) (K : Int32 → St → Prop) (hw : w_X1_areBothIn k0 x1 x2 x3 st K) : Ci 107 enX l yX1_areBothIn cX1_areBothIn 4 (some .boolean) 1 21 y [.ref (ad y k0), .int x1, .int x2, .int x3] st K := by
  refine ent (by decide) (Nat.le_of_ble_eq_true rfl) ?_
  intro p e s m below meth c C hG ls hl
  have hl : lv_has ls 4 [(0, .ref (ad y k0)), (1, .int x1), (2, .int x2), (3, .int x3)] := hl
  generalize ([.ref (ad y k0), .int x1, .int x2, .int x3] : List Value).toArray = args at C ⊢
  have C : Sd p s m args meth c cX1_areBothIn 4 RX1 (some .boolean) y := C
  obtain ⟨hx, hb, hml, hown, hts, hr, hlk, hK, hN⟩ := id C
  generalize s.heap = H at hG ⊢
  generalize ([] : List Loc) = locs at hG ⊢
  unfold w_X1_areBothIn at hw
  refine lv_aload_n hx hb dX1_areBothIn_0 rfl (lv_at hl 0 rfl) ?_
  refine r_get (C := RX1) (T := TX1) (Nf := 11) hx hb hts hown hK hG (isC.lt h0) (isC.e h0 y _) rfl inX1 2 (by decide) qF_X1_18 rfl dX1_areBothIn_1 ?_
  refine lv_iload_n hx hb dX1_areBothIn_4 rfl (lv_at hl 2 rfl) ?_
  refine r_ki (r_run_N (As := [.ref (ad y (k0 + 3)), .int x2]) (rest := []) hx hb hml hown hts hK hN hG (c_X8_at l y (k0 + 3) 6 (isC.a3 h0) x2 st _ hw) qM_X1_66 qT_X8_at qN_X8 qC_X8_at hd_X8_at ⟨Nat.le_of_ble_eq_true rfl, Nat.le_of_ble_eq_true rfl⟩ hl.1 rfl (Nat.le_of_ble_eq_true rfl) dX1_areBothIn_5) hG (fun r5 st5 H locs hw hG => ?_)
  refine lv_iload_n hx hb dX1_areBothIn_8 rfl (lv_at hl 1 rfl) ?_
  refine lv_icmp_ne (tgt := 28) hx hb dX1_areBothIn_9 (by decide) (fun hc => ?_) (fun hc => ?_)
  · replace hw := hw.1 hc
    refine lv_iconst (v := 0) hx hb dX1_areBothIn_28 (by decide) ?_
    exact r_iret hx hb hr hlk hK hG rfl hw dX1_areBothIn_29
  · replace hw := hw.2 hc
    refine lv_aload_n hx hb dX1_areBothIn_12 rfl (lv_at hl 0 rfl) ?_
    refine r_get (C := RX1) (T := TX1) (Nf := 11) hx hb hts hown hK hG (isC.lt h0) (isC.e h0 y _) rfl inX1 2 (by decide) qF_X1_18 rfl dX1_areBothIn_13 ?_
    refine lv_iload_n hx hb dX1_areBothIn_16 rfl (lv_at hl 3 rfl) ?_
    refine r_ki (r_run_N (As := [.ref (ad y (k0 + 3)), .int x3]) (rest := []) hx hb hml hown hts hK hN hG (c_X8_at l y (k0 + 3) 6 (isC.a3 h0) x3 st5 _ hw) qM_X1_66 qT_X8_at qN_X8 qC_X8_at hd_X8_at ⟨Nat.le_of_ble_eq_true rfl, Nat.le_of_ble_eq_true rfl⟩ hl.1 rfl (Nat.le_of_ble_eq_true rfl) dX1_areBothIn_17) hG (fun r17 st17 H locs hw hG => ?_)
    refine lv_iload_n hx hb dX1_areBothIn_20 rfl (lv_at hl 1 rfl) ?_
    refine lv_icmp_ne (tgt := 28) hx hb dX1_areBothIn_21 (by decide) (fun hc => ?_) (fun hc => ?_)
    · replace hw := hw.1 hc
      refine lv_iconst (v := 0) hx hb dX1_areBothIn_28 (by decide) ?_
      exact r_iret hx hb hr hlk hK hG rfl hw dX1_areBothIn_29
    · replace hw := hw.2 hc
      refine lv_iconst (v := 1) hx hb dX1_areBothIn_24 (by decide) ?_
      refine lv_goto (tgt := 29) hx hb dX1_areBothIn_25 (by decide) ?_
      exact r_iret hx hb hr hlk hK hG rfl hw dX1_areBothIn_29
theorem hd_X1_hasKeeperRoom : yX1_hasKeeperRoom.cls ≠ "java/lang/invoke/MethodHandle" ∧ yX1_hasKeeperRoom.cls ≠ "java/lang/invoke/VarHandle" ∧ (parseMethodDescriptor yX1_hasKeeperRoom.desc).map (fun d => d.parameters.length) = some 0 := by decide +kernel
set_option maxRecDepth 100000 in
set_option maxHeartbeats 4000000 in
theorem c_X1_hasKeeperRoom (l : Launch) (y : Sy) (k0 : Nat) (h0 : isC k0) (st : St) (K : Int32 → St → Prop) (hw : w_X1_hasKeeperRoom k0 st K) : Ci 107 enX l yX1_hasKeeperRoom cX1_hasKeeperRoom 1 (some .boolean) 0 0 y [.ref (ad y k0)] st K := by
  refine ent (by decide) (Nat.le_of_ble_eq_true rfl) ?_
  intro p e s m below meth c C hG ls hl
  have hl : lv_has ls 1 [(0, .ref (ad y k0))] := hl
  generalize ([.ref (ad y k0)] : List Value).toArray = args at C ⊢
  have C : Sd p s m args meth c cX1_hasKeeperRoom 1 RX1 (some .boolean) y := C
  obtain ⟨hx, hb, hml, hown, hts, hr, hlk, hK, hN⟩ := id C
  generalize s.heap = H at hG ⊢
  generalize ([] : List Loc) = locs at hG ⊢
  unfold w_X1_hasKeeperRoom at hw
  refine lv_aload_n hx hb dX1_hasKeeperRoom_0 rfl (lv_at hl 0 rfl) ?_
  refine r_get (C := RX1) (T := TX1) (Nf := 11) hx hb hts hown hK hG (isC.lt h0) (isC.e h0 y _) rfl inX1 7 (by decide) qF_X1_43 rfl dX1_hasKeeperRoom_1 ?_
  refine lv_bipush (v := 6) hx hb dX1_hasKeeperRoom_4 (by decide) ?_
  refine lv_icmp_ge (tgt := 13) hx hb dX1_hasKeeperRoom_6 (by decide) (fun hc => ?_) (fun hc => ?_)
  · replace hw := hw.1 hc
    refine lv_iconst (v := 0) hx hb dX1_hasKeeperRoom_13 (by decide) ?_
    exact r_iret hx hb hr hlk hK hG rfl hw dX1_hasKeeperRoom_14
  · replace hw := hw.2 hc
    refine lv_iconst (v := 1) hx hb dX1_hasKeeperRoom_9 (by decide) ?_
    refine lv_goto (tgt := 14) hx hb dX1_hasKeeperRoom_10 (by decide) ?_
    exact r_iret hx hb hr hlk hK hG rfl hw dX1_hasKeeperRoom_14
theorem hd_X1_hasLetterRoom : yX1_hasLetterRoom.cls ≠ "java/lang/invoke/MethodHandle" ∧ yX1_hasLetterRoom.cls ≠ "java/lang/invoke/VarHandle" ∧ (parseMethodDescriptor yX1_hasLetterRoom.desc).map (fun d => d.parameters.length) = some 0 := by decide +kernel
set_option maxRecDepth 100000 in
set_option maxHeartbeats 4000000 in
theorem c_X1_hasLetterRoom (l : Launch) (y : Sy) (k0 : Nat) (h0 : isC k0) (st : St) (K : Int32 → St → Prop) (hw : w_X1_hasLetterRoom k0 st K) : Ci 107 enX l yX1_hasLetterRoom cX1_hasLetterRoom 1 (some .boolean) 0 0 y [.ref (ad y k0)] st K := by
  refine ent (by decide) (Nat.le_of_ble_eq_true rfl) ?_
  intro p e s m below meth c C hG ls hl
  have hl : lv_has ls 1 [(0, .ref (ad y k0))] := hl
  generalize ([.ref (ad y k0)] : List Value).toArray = args at C ⊢
  have C : Sd p s m args meth c cX1_hasLetterRoom 1 RX1 (some .boolean) y := C
  obtain ⟨hx, hb, hml, hown, hts, hr, hlk, hK, hN⟩ := id C
  generalize s.heap = H at hG ⊢
  generalize ([] : List Loc) = locs at hG ⊢
  unfold w_X1_hasLetterRoom at hw
  refine lv_aload_n hx hb dX1_hasLetterRoom_0 rfl (lv_at hl 0 rfl) ?_
  refine r_get (C := RX1) (T := TX1) (Nf := 11) hx hb hts hown hK hG (isC.lt h0) (isC.e h0 y _) rfl inX1 8 (by decide) qF_X1_47 rfl dX1_hasLetterRoom_1 ?_
  refine lv_bipush (v := 6) hx hb dX1_hasLetterRoom_4 (by decide) ?_
  refine lv_icmp_ge (tgt := 13) hx hb dX1_hasLetterRoom_6 (by decide) (fun hc => ?_) (fun hc => ?_)
  · replace hw := hw.1 hc
    refine lv_iconst (v := 0) hx hb dX1_hasLetterRoom_13 (by decide) ?_
    exact r_iret hx hb hr hlk hK hG rfl hw dX1_hasLetterRoom_14
  · replace hw := hw.2 hc
    refine lv_iconst (v := 1) hx hb dX1_hasLetterRoom_9 (by decide) ?_
    refine lv_goto (tgt := 14) hx hb dX1_hasLetterRoom_10 (by decide) ?_
    exact r_iret hx hb hr hlk hK hG rfl hw dX1_hasLetterRoom_14
theorem hd_X1_kindOf : yX1_kindOf.cls ≠ "java/lang/invoke/MethodHandle" ∧ yX1_kindOf.cls ≠ "java/lang/invoke/VarHandle" ∧ (parseMethodDescriptor yX1_kindOf.desc).map (fun d => d.parameters.length) = some 1 := by decide +kernel
set_option maxRecDepth 100000 in
set_option maxHeartbeats 4000000 in
theorem c_X1_kindOf (l : Launch) (y : Sy) (k0 : Nat) (h0 : isC k0) (x1 : Int32) (st : St) (K : Int32 → St → Prop) (hw : w_X1_kindOf k0 x1 st K) : Ci 107 enX l yX1_kindOf cX1_kindOf 2 (some .int) 1 21 y [.ref (ad y k0), .int x1] st K := by
  refine ent (by decide) (Nat.le_of_ble_eq_true rfl) ?_
  intro p e s m below meth c C hG ls hl
  have hl : lv_has ls 2 [(0, .ref (ad y k0)), (1, .int x1)] := hl
  generalize ([.ref (ad y k0), .int x1] : List Value).toArray = args at C ⊢
  have C : Sd p s m args meth c cX1_kindOf 2 RX1 (some .int) y := C
  obtain ⟨hx, hb, hml, hown, hts, hr, hlk, hK, hN⟩ := id C
  generalize s.heap = H at hG ⊢
  generalize ([] : List Loc) = locs at hG ⊢
  unfold w_X1_kindOf at hw
  refine lv_aload_n hx hb dX1_kindOf_0 rfl (lv_at hl 0 rfl) ?_
  refine r_get (C := RX1) (T := TX1) (Nf := 11) hx hb hts hown hK hG (isC.lt h0) (isC.e h0 y _) rfl inX1 0 (by decide) qF_X1_9 rfl dX1_kindOf_1 ?_
  refine lv_iload_n hx hb dX1_kindOf_4 rfl (lv_at hl 1 rfl) ?_
  refine r_ki (r_run_N (As := [.ref (ad y (k0 + 1)), .int x1]) (rest := []) hx hb hml hown hts hK hN hG (c_X8_at l y (k0 + 1) 6 (isC.a1 h0) x1 st _ hw) qM_X1_66 qT_X8_at qN_X8 qC_X8_at hd_X8_at ⟨Nat.le_of_ble_eq_true rfl, Nat.le_of_ble_eq_true rfl⟩ hl.1 rfl (Nat.le_of_ble_eq_true rfl) dX1_kindOf_5) hG (fun r5 st5 H locs hw hG => ?_)
  exact r_iret hx hb hr hlk hK hG rfl hw dX1_kindOf_8
theorem hd_X1_figureOf : yX1_figureOf.cls ≠ "java/lang/invoke/MethodHandle" ∧ yX1_figureOf.cls ≠ "java/lang/invoke/VarHandle" ∧ (parseMethodDescriptor yX1_figureOf.desc).map (fun d => d.parameters.length) = some 1 := by decide +kernel
set_option maxRecDepth 100000 in
set_option maxHeartbeats 4000000 in
theorem c_X1_figureOf (l : Launch) (y : Sy) (k0 : Nat) (h0 : isC k0) (x1 : Int32) (st : St) (K : Int32 → St → Prop) (hw : w_X1_figureOf k0 x1 st K) : Ci 107 enX l yX1_figureOf cX1_figureOf 2 (some .int) 1 21 y [.ref (ad y k0), .int x1] st K := by
  refine ent (by decide) (Nat.le_of_ble_eq_true rfl) ?_
  intro p e s m below meth c C hG ls hl
  have hl : lv_has ls 2 [(0, .ref (ad y k0)), (1, .int x1)] := hl
  generalize ([.ref (ad y k0), .int x1] : List Value).toArray = args at C ⊢
  have C : Sd p s m args meth c cX1_figureOf 2 RX1 (some .int) y := C
  obtain ⟨hx, hb, hml, hown, hts, hr, hlk, hK, hN⟩ := id C
  generalize s.heap = H at hG ⊢
  generalize ([] : List Loc) = locs at hG ⊢
  unfold w_X1_figureOf at hw
  refine lv_aload_n hx hb dX1_figureOf_0 rfl (lv_at hl 0 rfl) ?_
  refine r_get (C := RX1) (T := TX1) (Nf := 11) hx hb hts hown hK hG (isC.lt h0) (isC.e h0 y _) rfl inX1 1 (by decide) qF_X1_15 rfl dX1_figureOf_1 ?_
  refine lv_iload_n hx hb dX1_figureOf_4 rfl (lv_at hl 1 rfl) ?_
  refine r_ki (r_run_N (As := [.ref (ad y (k0 + 2)), .int x1]) (rest := []) hx hb hml hown hts hK hN hG (c_X8_at l y (k0 + 2) 6 (isC.a2 h0) x1 st _ hw) qM_X1_66 qT_X8_at qN_X8 qC_X8_at hd_X8_at ⟨Nat.le_of_ble_eq_true rfl, Nat.le_of_ble_eq_true rfl⟩ hl.1 rfl (Nat.le_of_ble_eq_true rfl) dX1_figureOf_5) hG (fun r5 st5 H locs hw hG => ?_)
  exact r_iret hx hb hr hlk hK hG rfl hw dX1_figureOf_8
theorem hd_X1_townOf : yX1_townOf.cls ≠ "java/lang/invoke/MethodHandle" ∧ yX1_townOf.cls ≠ "java/lang/invoke/VarHandle" ∧ (parseMethodDescriptor yX1_townOf.desc).map (fun d => d.parameters.length) = some 1 := by decide +kernel
set_option maxRecDepth 100000 in
set_option maxHeartbeats 4000000 in
theorem c_X1_townOf (l : Launch) (y : Sy) (k0 : Nat) (h0 : isC k0) (x1 : Int32) (st : St) (K : Int32 → St → Prop) (hw : w_X1_townOf k0 x1 st K) : Ci 107 enX l yX1_townOf cX1_townOf 2 (some .int) 1 21 y [.ref (ad y k0), .int x1] st K := by
  refine ent (by decide) (Nat.le_of_ble_eq_true rfl) ?_
  intro p e s m below meth c C hG ls hl
  have hl : lv_has ls 2 [(0, .ref (ad y k0)), (1, .int x1)] := hl
  generalize ([.ref (ad y k0), .int x1] : List Value).toArray = args at C ⊢
  have C : Sd p s m args meth c cX1_townOf 2 RX1 (some .int) y := C
  obtain ⟨hx, hb, hml, hown, hts, hr, hlk, hK, hN⟩ := id C
  generalize s.heap = H at hG ⊢
  generalize ([] : List Loc) = locs at hG ⊢
  unfold w_X1_townOf at hw
  refine lv_aload_n hx hb dX1_townOf_0 rfl (lv_at hl 0 rfl) ?_
  refine r_get (C := RX1) (T := TX1) (Nf := 11) hx hb hts hown hK hG (isC.lt h0) (isC.e h0 y _) rfl inX1 2 (by decide) qF_X1_18 rfl dX1_townOf_1 ?_
  refine lv_iload_n hx hb dX1_townOf_4 rfl (lv_at hl 1 rfl) ?_
  refine r_ki (r_run_N (As := [.ref (ad y (k0 + 3)), .int x1]) (rest := []) hx hb hml hown hts hK hN hG (c_X8_at l y (k0 + 3) 6 (isC.a3 h0) x1 st _ hw) qM_X1_66 qT_X8_at qN_X8 qC_X8_at hd_X8_at ⟨Nat.le_of_ble_eq_true rfl, Nat.le_of_ble_eq_true rfl⟩ hl.1 rfl (Nat.le_of_ble_eq_true rfl) dX1_townOf_5) hG (fun r5 st5 H locs hw hG => ?_)
  exact r_iret hx hb hr hlk hK hG rfl hw dX1_townOf_8
theorem hd_X2_fading : yX2_fading.cls ≠ "java/lang/invoke/MethodHandle" ∧ yX2_fading.cls ≠ "java/lang/invoke/VarHandle" ∧ (parseMethodDescriptor yX2_fading.desc).map (fun d => d.parameters.length) = some 2 := by decide +kernel
set_option maxRecDepth 100000 in
set_option maxHeartbeats 4000000 in
theorem c_X2_fading (l : Launch) (y : Sy) (x0 : Int32) (x1 : Int32) (st : St) (K : Int32 → St → Prop) (hw : w_X2_fading x0 x1 st K) : Ci 107 enX l yX2_fading cX2_fading 2 (some .int) 0 0 y [.int x0, .int x1] st K := by
  refine ent (by decide) (Nat.le_of_ble_eq_true rfl) ?_
  intro p e s m below meth c C hG ls hl
  have hl : lv_has ls 2 [(0, .int x0), (1, .int x1)] := hl
  generalize ([.int x0, .int x1] : List Value).toArray = args at C ⊢
  have C : Sd p s m args meth c cX2_fading 2 RX2 (some .int) y := C
  obtain ⟨hx, hb, hml, hown, hts, hr, hlk, hK, hN⟩ := id C
  generalize s.heap = H at hG ⊢
  generalize ([] : List Loc) = locs at hG ⊢
  unfold w_X2_fading at hw
  refine lv_iload_n hx hb dX2_fading_0 rfl (lv_at hl 0 rfl) ?_
  by_cases g1 : x0 = 1
  · replace hw := hw.1 g1
    refine r_tabin (v := 1) (tgt := 36) hx hb dX2_fading_1 g1 (by decide) (by decide) rfl (by decide) ?_
    refine lv_iconst (v := 0) hx hb dX2_fading_36 (by decide) ?_
    exact r_iret hx hb hr hlk hK hG rfl hw dX2_fading_37
  replace hw := hw.2 g1
  by_cases g2 : x0 = 2
  · replace hw := hw.1 g2
    refine r_tabin (v := 2) (tgt := 38) hx hb dX2_fading_1 g2 (by decide) (by decide) rfl (by decide) ?_
    refine lv_iconst (v := 2) hx hb dX2_fading_38 (by decide) ?_
    exact r_iret hx hb hr hlk hK hG rfl hw dX2_fading_39
  replace hw := hw.2 g2
  by_cases g3 : x0 = 3
  · replace hw := hw.1 g3
    refine r_tabin (v := 3) (tgt := 40) hx hb dX2_fading_1 g3 (by decide) (by decide) rfl (by decide) ?_
    refine lv_iload_n hx hb dX2_fading_40 rfl (lv_at hl 1 rfl) ?_
    refine lv_iconst (v := 2) hx hb dX2_fading_41 (by decide) ?_
    refine lv_idiv hx hb dX2_fading_42 (by decide) ?_
    refine lv_iconst (v := 1) hx hb dX2_fading_43 (by decide) ?_
    refine lv_iadd hx hb dX2_fading_44 ?_
    exact r_iret hx hb hr hlk hK hG rfl hw dX2_fading_45
  replace hw := hw.2 g3
  by_cases g4 : x0 = 4
  · replace hw := hw.1 g4
    refine r_tabin (v := 4) (tgt := 46) hx hb dX2_fading_1 g4 (by decide) (by decide) rfl (by decide) ?_
    refine lv_iconst (v := 0) hx hb dX2_fading_46 (by decide) ?_
    exact r_iret hx hb hr hlk hK hG rfl hw dX2_fading_47
  replace hw := hw.2 g4
  by_cases g5 : x0 = 5
  · replace hw := hw.1 g5
    refine r_tabin (v := 5) (tgt := 48) hx hb dX2_fading_1 g5 (by decide) (by decide) rfl (by decide) ?_
    refine lv_iconst (v := 3) hx hb dX2_fading_48 (by decide) ?_
    exact r_iret hx hb hr hlk hK hG rfl hw dX2_fading_49
  replace hw := hw.2 g5
  refine r_tabdef (tgt := 50) hx hb dX2_fading_1 (by decide) (fun v q1 q2 q3 => ?_) ?_
  · rcases (show v = 1 ∨ v = 2 ∨ v = 3 ∨ v = 4 ∨ v = 5 by omega) with rfl | rfl | rfl | rfl | rfl
    · exact absurd (r_toI (v := 1) q3) g1
    · exact absurd (r_toI (v := 2) q3) g2
    · exact absurd (r_toI (v := 3) q3) g3
    · exact absurd (r_toI (v := 4) q3) g4
    · exact absurd (r_toI (v := 5) q3) g5
  refine lv_iconst (v := 1) hx hb dX2_fading_50 (by decide) ?_
  exact r_iret hx hb hr hlk hK hG rfl hw dX2_fading_51
theorem hd_X1_fadeOf : yX1_fadeOf.cls ≠ "java/lang/invoke/MethodHandle" ∧ yX1_fadeOf.cls ≠ "java/lang/invoke/VarHandle" ∧ (parseMethodDescriptor yX1_fadeOf.desc).map (fun d => d.parameters.length) = some 1 := by decide +kernel
set_option maxRecDepth 100000 in
set_option maxHeartbeats 4000000 in
theorem c_X1_fadeOf (l : Launch) (y : Sy) (k0 : Nat) (h0 : isC k0) (x1 : Int32) (st : St) (K : Int32 → St → Prop) (hw : w_X1_fadeOf k0 x1 st K) : Ci 107 enX l yX1_fadeOf cX1_fadeOf 2 (some .int) 1 21 y [.ref (ad y k0), .int x1] st K := by
  refine ent (by decide) (Nat.le_of_ble_eq_true rfl) ?_
  intro p e s m below meth c C hG ls hl
  have hl : lv_has ls 2 [(0, .ref (ad y k0)), (1, .int x1)] := hl
  generalize ([.ref (ad y k0), .int x1] : List Value).toArray = args at C ⊢
  have C : Sd p s m args meth c cX1_fadeOf 2 RX1 (some .int) y := C
  obtain ⟨hx, hb, hml, hown, hts, hr, hlk, hK, hN⟩ := id C
  generalize s.heap = H at hG ⊢
  generalize ([] : List Loc) = locs at hG ⊢
  unfold w_X1_fadeOf at hw
  refine lv_aload_n hx hb dX1_fadeOf_0 rfl (lv_at hl 0 rfl) ?_
  refine r_get (C := RX1) (T := TX1) (Nf := 11) hx hb hts hown hK hG (isC.lt h0) (isC.e h0 y _) rfl inX1 0 (by decide) qF_X1_9 rfl dX1_fadeOf_1 ?_
  refine lv_iload_n hx hb dX1_fadeOf_4 rfl (lv_at hl 1 rfl) ?_
  refine r_ki (r_run_N (As := [.ref (ad y (k0 + 1)), .int x1]) (rest := []) hx hb hml hown hts hK hN hG (c_X8_at l y (k0 + 1) 6 (isC.a1 h0) x1 st _ hw) qM_X1_66 qT_X8_at qN_X8 qC_X8_at hd_X8_at ⟨Nat.le_of_ble_eq_true rfl, Nat.le_of_ble_eq_true rfl⟩ hl.1 rfl (Nat.le_of_ble_eq_true rfl) dX1_fadeOf_5) hG (fun r5 st5 H locs hw hG => ?_)
  refine lv_aload_n hx hb dX1_fadeOf_8 rfl (lv_at hl 0 rfl) ?_
  refine r_get (C := RX1) (T := TX1) (Nf := 11) hx hb hts hown hK hG (isC.lt h0) (isC.e h0 y _) rfl inX1 1 (by decide) qF_X1_15 rfl dX1_fadeOf_9 ?_
  refine lv_iload_n hx hb dX1_fadeOf_12 rfl (lv_at hl 1 rfl) ?_
  refine r_ki (r_run_N (As := [.ref (ad y (k0 + 2)), .int x1]) (rest := [.int r5]) hx hb hml hown hts hK hN hG (c_X8_at l y (k0 + 2) 6 (isC.a2 h0) x1 st5 _ hw) qM_X1_66 qT_X8_at qN_X8 qC_X8_at hd_X8_at ⟨Nat.le_of_ble_eq_true rfl, Nat.le_of_ble_eq_true rfl⟩ hl.1 rfl (Nat.le_of_ble_eq_true rfl) dX1_fadeOf_13) hG (fun r13 st13 H locs hw hG => ?_)
  refine r_ki (r_run_S (As := [.int r5, .int r13]) (rest := []) hx hb hml hown hts hK hN hG (c_X2_fading l y r5 r13 st13 _ hw) qM_X1_70 qT_X2_fading qN_X2 qC_X2_fading hd_X2_fading ⟨Nat.le_of_ble_eq_true rfl, Nat.le_of_ble_eq_true rfl⟩ hl.1 rfl (Nat.le_of_ble_eq_true rfl) dX1_fadeOf_16) hG (fun r16 st16 H locs hw hG => ?_)
  exact r_iret hx hb hr hlk hK hG rfl hw dX1_fadeOf_19
theorem hd_X2_stirring : yX2_stirring.cls ≠ "java/lang/invoke/MethodHandle" ∧ yX2_stirring.cls ≠ "java/lang/invoke/VarHandle" ∧ (parseMethodDescriptor yX2_stirring.desc).map (fun d => d.parameters.length) = some 2 := by decide +kernel
set_option maxRecDepth 100000 in
set_option maxHeartbeats 4000000 in
theorem c_X2_stirring (l : Launch) (y : Sy) (x0 : Int32) (x1 : Int32) (st : St) (K : Int32 → St → Prop) (hw : w_X2_stirring x0 x1 st K) : Ci 107 enX l yX2_stirring cX2_stirring 2 (some .int) 0 0 y [.int x0, .int x1] st K := by
  refine ent (by decide) (Nat.le_of_ble_eq_true rfl) ?_
  intro p e s m below meth c C hG ls hl
  have hl : lv_has ls 2 [(0, .int x0), (1, .int x1)] := hl
  generalize ([.int x0, .int x1] : List Value).toArray = args at C ⊢
  have C : Sd p s m args meth c cX2_stirring 2 RX2 (some .int) y := C
  obtain ⟨hx, hb, hml, hown, hts, hr, hlk, hK, hN⟩ := id C
  generalize s.heap = H at hG ⊢
  generalize ([] : List Loc) = locs at hG ⊢
  unfold w_X2_stirring at hw
  refine lv_iload_n hx hb dX2_stirring_0 rfl (lv_at hl 0 rfl) ?_
  by_cases g1 : x0 = 1
  · replace hw := hw.1 g1
    refine lv_lookup (off := 27) (tgt := 28) hx hb dX2_stirring_1 (by decide) (by rw [g1]; decide) (by decide) ?_
    refine lv_iconst (v := 1) hx hb dX2_stirring_28 (by decide) ?_
    exact r_iret hx hb hr hlk hK hG rfl hw dX2_stirring_29
  replace hw := hw.2 g1
  by_cases g4 : x0 = 4
  · replace hw := hw.1 g4
    refine lv_lookup (off := 29) (tgt := 30) hx hb dX2_stirring_1 (by decide) (by rw [g4]; decide) (by decide) ?_
    refine lv_iconst (v := 1) hx hb dX2_stirring_30 (by decide) ?_
    refine lv_iload_n hx hb dX2_stirring_31 rfl (lv_at hl 1 rfl) ?_
    refine lv_iconst (v := 4) hx hb dX2_stirring_32 (by decide) ?_
    refine lv_idiv hx hb dX2_stirring_33 (by decide) ?_
    refine lv_iadd hx hb dX2_stirring_34 ?_
    exact r_iret hx hb hr hlk hK hG rfl hw dX2_stirring_35
  replace hw := hw.2 g4
  refine lv_lookup (off := 35) (tgt := 36) hx hb dX2_stirring_1 (by decide) (r_look [1, 4] (by decide) (by simp [g1, g4])) (by decide) ?_
  refine lv_iconst (v := 0) hx hb dX2_stirring_36 (by decide) ?_
  exact r_iret hx hb hr hlk hK hG rfl hw dX2_stirring_37
theorem hd_X1_stirOf : yX1_stirOf.cls ≠ "java/lang/invoke/MethodHandle" ∧ yX1_stirOf.cls ≠ "java/lang/invoke/VarHandle" ∧ (parseMethodDescriptor yX1_stirOf.desc).map (fun d => d.parameters.length) = some 1 := by decide +kernel
set_option maxRecDepth 100000 in
set_option maxHeartbeats 4000000 in
theorem c_X1_stirOf (l : Launch) (y : Sy) (k0 : Nat) (h0 : isC k0) (x1 : Int32) (st : St) (K : Int32 → St → Prop) (hw : w_X1_stirOf k0 x1 st K) : Ci 107 enX l yX1_stirOf cX1_stirOf 2 (some .int) 1 21 y [.ref (ad y k0), .int x1] st K := by
  refine ent (by decide) (Nat.le_of_ble_eq_true rfl) ?_
  intro p e s m below meth c C hG ls hl
  have hl : lv_has ls 2 [(0, .ref (ad y k0)), (1, .int x1)] := hl
  generalize ([.ref (ad y k0), .int x1] : List Value).toArray = args at C ⊢
  have C : Sd p s m args meth c cX1_stirOf 2 RX1 (some .int) y := C
  obtain ⟨hx, hb, hml, hown, hts, hr, hlk, hK, hN⟩ := id C
  generalize s.heap = H at hG ⊢
  generalize ([] : List Loc) = locs at hG ⊢
  unfold w_X1_stirOf at hw
  refine lv_aload_n hx hb dX1_stirOf_0 rfl (lv_at hl 0 rfl) ?_
  refine r_get (C := RX1) (T := TX1) (Nf := 11) hx hb hts hown hK hG (isC.lt h0) (isC.e h0 y _) rfl inX1 0 (by decide) qF_X1_9 rfl dX1_stirOf_1 ?_
  refine lv_iload_n hx hb dX1_stirOf_4 rfl (lv_at hl 1 rfl) ?_
  refine r_ki (r_run_N (As := [.ref (ad y (k0 + 1)), .int x1]) (rest := []) hx hb hml hown hts hK hN hG (c_X8_at l y (k0 + 1) 6 (isC.a1 h0) x1 st _ hw) qM_X1_66 qT_X8_at qN_X8 qC_X8_at hd_X8_at ⟨Nat.le_of_ble_eq_true rfl, Nat.le_of_ble_eq_true rfl⟩ hl.1 rfl (Nat.le_of_ble_eq_true rfl) dX1_stirOf_5) hG (fun r5 st5 H locs hw hG => ?_)
  refine lv_aload_n hx hb dX1_stirOf_8 rfl (lv_at hl 0 rfl) ?_
  refine r_get (C := RX1) (T := TX1) (Nf := 11) hx hb hts hown hK hG (isC.lt h0) (isC.e h0 y _) rfl inX1 1 (by decide) qF_X1_15 rfl dX1_stirOf_9 ?_
  refine lv_iload_n hx hb dX1_stirOf_12 rfl (lv_at hl 1 rfl) ?_
  refine r_ki (r_run_N (As := [.ref (ad y (k0 + 2)), .int x1]) (rest := [.int r5]) hx hb hml hown hts hK hN hG (c_X8_at l y (k0 + 2) 6 (isC.a2 h0) x1 st5 _ hw) qM_X1_66 qT_X8_at qN_X8 qC_X8_at hd_X8_at ⟨Nat.le_of_ble_eq_true rfl, Nat.le_of_ble_eq_true rfl⟩ hl.1 rfl (Nat.le_of_ble_eq_true rfl) dX1_stirOf_13) hG (fun r13 st13 H locs hw hG => ?_)
  refine r_ki (r_run_S (As := [.int r5, .int r13]) (rest := []) hx hb hml hown hts hK hN hG (c_X2_stirring l y r5 r13 st13 _ hw) qM_X1_76 qT_X2_stirring qN_X2 qC_X2_stirring hd_X2_stirring ⟨Nat.le_of_ble_eq_true rfl, Nat.le_of_ble_eq_true rfl⟩ hl.1 rfl (Nat.le_of_ble_eq_true rfl) dX1_stirOf_16) hG (fun r16 st16 H locs hw hG => ?_)
  exact r_iret hx hb hr hlk hK hG rfl hw dX1_stirOf_19
theorem hd_X2_wage : yX2_wage.cls ≠ "java/lang/invoke/MethodHandle" ∧ yX2_wage.cls ≠ "java/lang/invoke/VarHandle" ∧ (parseMethodDescriptor yX2_wage.desc).map (fun d => d.parameters.length) = some 2 := by decide +kernel
set_option maxRecDepth 100000 in
set_option maxHeartbeats 4000000 in
theorem c_X2_wage (l : Launch) (y : Sy) (x0 : Int32) (x1 : Int32) (st : St) (K : Int32 → St → Prop) (hw : w_X2_wage x0 x1 st K) : Ci 107 enX l yX2_wage cX2_wage 4 (some .int) 0 0 y [.int x0, .int x1] st K := by
  refine ent (by decide) (Nat.le_of_ble_eq_true rfl) ?_
  intro p e s m below meth c C hG ls hl
  have hl : lv_has ls 4 [(0, .int x0), (1, .int x1)] := hl
  generalize ([.int x0, .int x1] : List Value).toArray = args at C ⊢
  have C : Sd p s m args meth c cX2_wage 4 RX2 (some .int) y := C
  obtain ⟨hx, hb, hml, hown, hts, hr, hlk, hK, hN⟩ := id C
  generalize s.heap = H at hG ⊢
  generalize ([] : List Loc) = locs at hG ⊢
  unfold w_X2_wage at hw
  refine lv_iload_n hx hb dX2_wage_0 rfl (lv_at hl 1 rfl) ?_
  refine lv_iconst (v := 1) hx hb dX2_wage_1 (by decide) ?_
  refine lv_iadd hx hb dX2_wage_2 ?_
  refine lv_istore_n (lv' := [(2, .int (x1 + 1)), (0, .int x0), (1, .int x1)]) hx hb dX2_wage_3 rfl hl (Nat.le_of_ble_eq_true rfl) rfl (fun ls hl => ?_)
  refine lv_iconst (v := 2) hx hb dX2_wage_4 (by decide) ?_
  refine lv_iload_n hx hb dX2_wage_5 rfl (lv_at hl 0 rfl) ?_
  refine lv_imul hx hb dX2_wage_6 ?_
  refine lv_istore_n (lv' := [(3, .int (2 * (x1 + 1))), (2, .int (x1 + 1)), (0, .int x0), (1, .int x1)]) hx hb dX2_wage_7 rfl hl (Nat.le_of_ble_eq_true rfl) rfl (fun ls hl => ?_)
  refine lv_iload_n hx hb dX2_wage_8 rfl (lv_at hl 2 rfl) ?_
  by_cases g1 : x0 = 1
  · replace hw := hw.1 g1
    refine r_tabin (v := 1) (tgt := 44) hx hb dX2_wage_9 g1 (by decide) (by decide) rfl (by decide) ?_
    refine lv_iload_n hx hb dX2_wage_44 rfl (lv_at hl 0 rfl) ?_
    exact r_iret hx hb hr hlk hK hG rfl hw dX2_wage_45
  replace hw := hw.2 g1
  by_cases g2 : x0 = 2
  · replace hw := hw.1 g2
    refine r_tabin (v := 2) (tgt := 46) hx hb dX2_wage_9 g2 (by decide) (by decide) rfl (by decide) ?_
    refine lv_iconst (v := 5) hx hb dX2_wage_46 (by decide) ?_
    exact r_iret hx hb hr hlk hK hG rfl hw dX2_wage_47
  replace hw := hw.2 g2
  by_cases g3 : x0 = 3
  · replace hw := hw.1 g3
    refine r_tabin (v := 3) (tgt := 48) hx hb dX2_wage_9 g3 (by decide) (by decide) rfl (by decide) ?_
    refine lv_iconst (v := 0) hx hb dX2_wage_48 (by decide) ?_
    exact r_iret hx hb hr hlk hK hG rfl hw dX2_wage_49
  replace hw := hw.2 g3
  by_cases g4 : x0 = 4
  · replace hw := hw.1 g4
    refine r_tabin (v := 4) (tgt := 50) hx hb dX2_wage_9 g4 (by decide) (by decide) rfl (by decide) ?_
    refine lv_iload_n hx hb dX2_wage_50 rfl (lv_at hl 0 rfl) ?_
    refine lv_iconst (v := 1) hx hb dX2_wage_51 (by decide) ?_
    refine lv_isub hx hb dX2_wage_52 ?_
    exact r_iret hx hb hr hlk hK hG rfl hw dX2_wage_53
  replace hw := hw.2 g4
  by_cases g5 : x0 = 5
  · replace hw := hw.1 g5
    refine r_tabin (v := 5) (tgt := 54) hx hb dX2_wage_9 g5 (by decide) (by decide) rfl (by decide) ?_
    refine lv_iconst (v := 2) hx hb dX2_wage_54 (by decide) ?_
    exact r_iret hx hb hr hlk hK hG rfl hw dX2_wage_55
  replace hw := hw.2 g5
  refine r_tabdef (tgt := 56) hx hb dX2_wage_9 (by decide) (fun v q1 q2 q3 => ?_) ?_
  · rcases (show v = 1 ∨ v = 2 ∨ v = 3 ∨ v = 4 ∨ v = 5 by omega) with rfl | rfl | rfl | rfl | rfl
    · exact absurd (r_toI (v := 1) q3) g1
    · exact absurd (r_toI (v := 2) q3) g2
    · exact absurd (r_toI (v := 3) q3) g3
    · exact absurd (r_toI (v := 4) q3) g4
    · exact absurd (r_toI (v := 5) q3) g5
  refine lv_iload_n hx hb dX2_wage_56 rfl (lv_at hl 1 rfl) ?_
  exact r_iret hx hb hr hlk hK hG rfl hw dX2_wage_57
theorem hd_X1_wageOf : yX1_wageOf.cls ≠ "java/lang/invoke/MethodHandle" ∧ yX1_wageOf.cls ≠ "java/lang/invoke/VarHandle" ∧ (parseMethodDescriptor yX1_wageOf.desc).map (fun d => d.parameters.length) = some 1 := by decide +kernel
set_option maxRecDepth 100000 in
set_option maxHeartbeats 4000000 in
theorem c_X1_wageOf (l : Launch) (y : Sy) (k0 : Nat) (h0 : isC k0) (x1 : Int32) (st : St) (K : Int32 → St → Prop) (hw : w_X1_wageOf k0 x1 st K) : Ci 107 enX l yX1_wageOf cX1_wageOf 2 (some .int) 1 23 y [.ref (ad y k0), .int x1] st K := by
  refine ent (by decide) (Nat.le_of_ble_eq_true rfl) ?_
  intro p e s m below meth c C hG ls hl
  have hl : lv_has ls 2 [(0, .ref (ad y k0)), (1, .int x1)] := hl
  generalize ([.ref (ad y k0), .int x1] : List Value).toArray = args at C ⊢
  have C : Sd p s m args meth c cX1_wageOf 2 RX1 (some .int) y := C
  obtain ⟨hx, hb, hml, hown, hts, hr, hlk, hK, hN⟩ := id C
  generalize s.heap = H at hG ⊢
  generalize ([] : List Loc) = locs at hG ⊢
  unfold w_X1_wageOf at hw
  refine lv_aload_n hx hb dX1_wageOf_0 rfl (lv_at hl 0 rfl) ?_
  refine r_get (C := RX1) (T := TX1) (Nf := 11) hx hb hts hown hK hG (isC.lt h0) (isC.e h0 y _) rfl inX1 0 (by decide) qF_X1_9 rfl dX1_wageOf_1 ?_
  refine lv_iload_n hx hb dX1_wageOf_4 rfl (lv_at hl 1 rfl) ?_
  refine r_ki (r_run_N (As := [.ref (ad y (k0 + 1)), .int x1]) (rest := []) hx hb hml hown hts hK hN hG (c_X8_at l y (k0 + 1) 6 (isC.a1 h0) x1 st _ hw) qM_X1_66 qT_X8_at qN_X8 qC_X8_at hd_X8_at ⟨Nat.le_of_ble_eq_true rfl, Nat.le_of_ble_eq_true rfl⟩ hl.1 rfl (Nat.le_of_ble_eq_true rfl) dX1_wageOf_5) hG (fun r5 st5 H locs hw hG => ?_)
  refine lv_aload_n hx hb dX1_wageOf_8 rfl (lv_at hl 0 rfl) ?_
  refine r_get (C := RX1) (T := TX1) (Nf := 11) hx hb hts hown hK hG (isC.lt h0) (isC.e h0 y _) rfl inX1 1 (by decide) qF_X1_15 rfl dX1_wageOf_9 ?_
  refine lv_iload_n hx hb dX1_wageOf_12 rfl (lv_at hl 1 rfl) ?_
  refine r_ki (r_run_N (As := [.ref (ad y (k0 + 2)), .int x1]) (rest := [.int r5]) hx hb hml hown hts hK hN hG (c_X8_at l y (k0 + 2) 6 (isC.a2 h0) x1 st5 _ hw) qM_X1_66 qT_X8_at qN_X8 qC_X8_at hd_X8_at ⟨Nat.le_of_ble_eq_true rfl, Nat.le_of_ble_eq_true rfl⟩ hl.1 rfl (Nat.le_of_ble_eq_true rfl) dX1_wageOf_13) hG (fun r13 st13 H locs hw hG => ?_)
  refine r_ki (r_run_S (As := [.int r5, .int r13]) (rest := []) hx hb hml hown hts hK hN hG (c_X2_wage l y r5 r13 st13 _ hw) qM_X1_79 qT_X2_wage qN_X2 qC_X2_wage hd_X2_wage ⟨Nat.le_of_ble_eq_true rfl, Nat.le_of_ble_eq_true rfl⟩ hl.1 rfl (Nat.le_of_ble_eq_true rfl) dX1_wageOf_16) hG (fun r16 st16 H locs hw hG => ?_)
  exact r_iret hx hb hr hlk hK hG rfl hw dX1_wageOf_19
theorem hd_X1_depthOf : yX1_depthOf.cls ≠ "java/lang/invoke/MethodHandle" ∧ yX1_depthOf.cls ≠ "java/lang/invoke/VarHandle" ∧ (parseMethodDescriptor yX1_depthOf.desc).map (fun d => d.parameters.length) = some 1 := by decide +kernel
set_option maxRecDepth 100000 in
set_option maxHeartbeats 4000000 in
theorem c_X1_depthOf (l : Launch) (y : Sy) (k0 : Nat) (h0 : isC k0) (x1 : Int32) (st : St) (K : Int32 → St → Prop) (hw : w_X1_depthOf k0 x1 st K) : Ci 107 enX l yX1_depthOf cX1_depthOf 2 (some .int) 1 21 y [.ref (ad y k0), .int x1] st K := by
  refine ent (by decide) (Nat.le_of_ble_eq_true rfl) ?_
  intro p e s m below meth c C hG ls hl
  have hl : lv_has ls 2 [(0, .ref (ad y k0)), (1, .int x1)] := hl
  generalize ([.ref (ad y k0), .int x1] : List Value).toArray = args at C ⊢
  have C : Sd p s m args meth c cX1_depthOf 2 RX1 (some .int) y := C
  obtain ⟨hx, hb, hml, hown, hts, hr, hlk, hK, hN⟩ := id C
  generalize s.heap = H at hG ⊢
  generalize ([] : List Loc) = locs at hG ⊢
  unfold w_X1_depthOf at hw
  refine lv_aload_n hx hb dX1_depthOf_0 rfl (lv_at hl 0 rfl) ?_
  refine r_get (C := RX1) (T := TX1) (Nf := 11) hx hb hts hown hK hG (isC.lt h0) (isC.e h0 y _) rfl inX1 4 (by decide) qF_X1_24 rfl dX1_depthOf_1 ?_
  refine lv_iload_n hx hb dX1_depthOf_4 rfl (lv_at hl 1 rfl) ?_
  refine r_ki (r_run_N (As := [.ref (ad y (k0 + 5)), .int x1]) (rest := []) hx hb hml hown hts hK hN hG (c_X8_at l y (k0 + 5) 6 (isC.a5 h0) x1 st _ hw) qM_X1_66 qT_X8_at qN_X8 qC_X8_at hd_X8_at ⟨Nat.le_of_ble_eq_true rfl, Nat.le_of_ble_eq_true rfl⟩ hl.1 rfl (Nat.le_of_ble_eq_true rfl) dX1_depthOf_5) hG (fun r5 st5 H locs hw hG => ?_)
  exact r_iret hx hb hr hlk hK hG rfl hw dX1_depthOf_8
theorem hd_X1_letterTownOf : yX1_letterTownOf.cls ≠ "java/lang/invoke/MethodHandle" ∧ yX1_letterTownOf.cls ≠ "java/lang/invoke/VarHandle" ∧ (parseMethodDescriptor yX1_letterTownOf.desc).map (fun d => d.parameters.length) = some 1 := by decide +kernel
set_option maxRecDepth 100000 in
set_option maxHeartbeats 4000000 in
theorem c_X1_letterTownOf (l : Launch) (y : Sy) (k0 : Nat) (h0 : isC k0) (x1 : Int32) (st : St) (K : Int32 → St → Prop) (hw : w_X1_letterTownOf k0 x1 st K) : Ci 107 enX l yX1_letterTownOf cX1_letterTownOf 2 (some .int) 1 21 y [.ref (ad y k0), .int x1] st K := by
  refine ent (by decide) (Nat.le_of_ble_eq_true rfl) ?_
  intro p e s m below meth c C hG ls hl
  have hl : lv_has ls 2 [(0, .ref (ad y k0)), (1, .int x1)] := hl
  generalize ([.ref (ad y k0), .int x1] : List Value).toArray = args at C ⊢
  have C : Sd p s m args meth c cX1_letterTownOf 2 RX1 (some .int) y := C
  obtain ⟨hx, hb, hml, hown, hts, hr, hlk, hK, hN⟩ := id C
  generalize s.heap = H at hG ⊢
  generalize ([] : List Loc) = locs at hG ⊢
  unfold w_X1_letterTownOf at hw
  refine lv_aload_n hx hb dX1_letterTownOf_0 rfl (lv_at hl 0 rfl) ?_
  refine r_get (C := RX1) (T := TX1) (Nf := 11) hx hb hts hown hK hG (isC.lt h0) (isC.e h0 y _) rfl inX1 5 (by decide) qF_X1_27 rfl dX1_letterTownOf_1 ?_
  refine lv_iload_n hx hb dX1_letterTownOf_4 rfl (lv_at hl 1 rfl) ?_
  refine r_ki (r_run_N (As := [.ref (ad y (k0 + 6)), .int x1]) (rest := []) hx hb hml hown hts hK hN hG (c_X8_at l y (k0 + 6) 6 (isC.a6 h0) x1 st _ hw) qM_X1_66 qT_X8_at qN_X8 qC_X8_at hd_X8_at ⟨Nat.le_of_ble_eq_true rfl, Nat.le_of_ble_eq_true rfl⟩ hl.1 rfl (Nat.le_of_ble_eq_true rfl) dX1_letterTownOf_5) hG (fun r5 st5 H locs hw hG => ?_)
  exact r_iret hx hb hr hlk hK hG rfl hw dX1_letterTownOf_8
theorem hd_X8_bit : yX8_bit.cls ≠ "java/lang/invoke/MethodHandle" ∧ yX8_bit.cls ≠ "java/lang/invoke/VarHandle" ∧ (parseMethodDescriptor yX8_bit.desc).map (fun d => d.parameters.length) = some 2 := by decide +kernel
set_option maxRecDepth 100000 in
set_option maxHeartbeats 4000000 in
theorem c_X8_bit (l : Launch) (y : Sy) (x0 : Int32) (x1 : Int32) (st : St) (K : Int32 → St → Prop) (hw : w_X8_bit x0 x1 st K) : Ci 107 enX l yX8_bit cX8_bit 2 (some .int) 0 0 y [.int x0, .int x1] st K := by
  refine ent (by decide) (Nat.le_of_ble_eq_true rfl) ?_
  intro p e s m below meth c C hG ls hl
  have hl : lv_has ls 2 [(0, .int x0), (1, .int x1)] := hl
  generalize ([.int x0, .int x1] : List Value).toArray = args at C ⊢
  have C : Sd p s m args meth c cX8_bit 2 RX8 (some .int) y := C
  obtain ⟨hx, hb, hml, hown, hts, hr, hlk, hK, hN⟩ := id C
  generalize s.heap = H at hG ⊢
  generalize ([] : List Loc) = locs at hG ⊢
  unfold w_X8_bit at hw
  refine lv_iload_n hx hb dX8_bit_0 rfl (lv_at hl 1 rfl) ?_
  refine lv_if_lt (tgt := 18) hx hb dX8_bit_1 (by decide) (fun hc => ?_) (fun hc => ?_)
  · replace hw := hw.1 hc
    refine lv_iconst (v := 0) hx hb dX8_bit_18 (by decide) ?_
    exact r_iret hx hb hr hlk hK hG rfl hw dX8_bit_19
  · replace hw := hw.2 hc
    refine lv_iload_n hx hb dX8_bit_4 rfl (lv_at hl 1 rfl) ?_
    refine lv_bipush (v := 31) hx hb dX8_bit_5 (by decide) ?_
    refine lv_icmp_ge (tgt := 18) hx hb dX8_bit_7 (by decide) (fun hc => ?_) (fun hc => ?_)
    · replace hw := hw.1 hc
      refine lv_iconst (v := 0) hx hb dX8_bit_18 (by decide) ?_
      exact r_iret hx hb hr hlk hK hG rfl hw dX8_bit_19
    · replace hw := hw.2 hc
      refine lv_iload_n hx hb dX8_bit_10 rfl (lv_at hl 0 rfl) ?_
      refine lv_iload_n hx hb dX8_bit_11 rfl (lv_at hl 1 rfl) ?_
      refine lv_ishr hx hb dX8_bit_12 ?_
      refine lv_iconst (v := 1) hx hb dX8_bit_13 (by decide) ?_
      refine lv_iand hx hb dX8_bit_14 ?_
      refine lv_goto (tgt := 19) hx hb dX8_bit_15 (by decide) ?_
      exact r_iret hx hb hr hlk hK hG rfl hw dX8_bit_19
theorem hd_X1_isOpen : yX1_isOpen.cls ≠ "java/lang/invoke/MethodHandle" ∧ yX1_isOpen.cls ≠ "java/lang/invoke/VarHandle" ∧ (parseMethodDescriptor yX1_isOpen.desc).map (fun d => d.parameters.length) = some 1 := by decide +kernel
set_option maxRecDepth 100000 in
set_option maxHeartbeats 4000000 in
theorem c_X1_isOpen (l : Launch) (y : Sy) (k0 : Nat) (h0 : isC k0) (x1 : Int32) (st : St) (K : Int32 → St → Prop) (hw : w_X1_isOpen k0 x1 st K) : Ci 107 enX l yX1_isOpen cX1_isOpen 2 (some .boolean) 1 21 y [.ref (ad y k0), .int x1] st K := by
  refine ent (by decide) (Nat.le_of_ble_eq_true rfl) ?_
  intro p e s m below meth c C hG ls hl
  have hl : lv_has ls 2 [(0, .ref (ad y k0)), (1, .int x1)] := hl
  generalize ([.ref (ad y k0), .int x1] : List Value).toArray = args at C ⊢
  have C : Sd p s m args meth c cX1_isOpen 2 RX1 (some .boolean) y := C
  obtain ⟨hx, hb, hml, hown, hts, hr, hlk, hK, hN⟩ := id C
  generalize s.heap = H at hG ⊢
  generalize ([] : List Loc) = locs at hG ⊢
  unfold w_X1_isOpen at hw
  refine lv_aload_n hx hb dX1_isOpen_0 rfl (lv_at hl 0 rfl) ?_
  refine r_get (C := RX1) (T := TX1) (Nf := 11) hx hb hts hown hK hG (isC.lt h0) (isC.e h0 y _) rfl inX1 9 (by decide) qF_X1_50 rfl dX1_isOpen_1 ?_
  refine lv_iload_n hx hb dX1_isOpen_4 rfl (lv_at hl 1 rfl) ?_
  refine r_ki (r_run_N (As := [.int (st k0 9), .int x1]) (rest := []) hx hb hml hown hts hK hN hG (c_X8_bit l y (st k0 9) x1 st _ hw) qM_X1_82 qT_X8_bit qN_X8 qC_X8_bit hd_X8_bit ⟨Nat.le_of_ble_eq_true rfl, Nat.le_of_ble_eq_true rfl⟩ hl.1 rfl (Nat.le_of_ble_eq_true rfl) dX1_isOpen_5) hG (fun r5 st5 H locs hw hG => ?_)
  refine lv_iconst (v := 1) hx hb dX1_isOpen_8 (by decide) ?_
  refine lv_icmp_ne (tgt := 16) hx hb dX1_isOpen_9 (by decide) (fun hc => ?_) (fun hc => ?_)
  · replace hw := hw.1 hc
    refine lv_iconst (v := 0) hx hb dX1_isOpen_16 (by decide) ?_
    exact r_iret hx hb hr hlk hK hG rfl hw dX1_isOpen_17
  · replace hw := hw.2 hc
    refine lv_iconst (v := 1) hx hb dX1_isOpen_12 (by decide) ?_
    refine lv_goto (tgt := 17) hx hb dX1_isOpen_13 (by decide) ?_
    exact r_iret hx hb hr hlk hK hG rfl hw dX1_isOpen_17
theorem hd_X1_openedBy : yX1_openedBy.cls ≠ "java/lang/invoke/MethodHandle" ∧ yX1_openedBy.cls ≠ "java/lang/invoke/VarHandle" ∧ (parseMethodDescriptor yX1_openedBy.desc).map (fun d => d.parameters.length) = some 1 := by decide +kernel
set_option maxRecDepth 100000 in
set_option maxHeartbeats 4000000 in
theorem c_X1_openedBy (l : Launch) (y : Sy) (k0 : Nat) (h0 : isC k0) (x1 : Int32) (st : St) (K : Int32 → St → Prop) (hw : w_X1_openedBy k0 x1 st K) : Ci 107 enX l yX1_openedBy cX1_openedBy 2 (some .int) 1 21 y [.ref (ad y k0), .int x1] st K := by
  refine ent (by decide) (Nat.le_of_ble_eq_true rfl) ?_
  intro p e s m below meth c C hG ls hl
  have hl : lv_has ls 2 [(0, .ref (ad y k0)), (1, .int x1)] := hl
  generalize ([.ref (ad y k0), .int x1] : List Value).toArray = args at C ⊢
  have C : Sd p s m args meth c cX1_openedBy 2 RX1 (some .int) y := C
  obtain ⟨hx, hb, hml, hown, hts, hr, hlk, hK, hN⟩ := id C
  generalize s.heap = H at hG ⊢
  generalize ([] : List Loc) = locs at hG ⊢
  unfold w_X1_openedBy at hw
  refine lv_aload_n hx hb dX1_openedBy_0 rfl (lv_at hl 0 rfl) ?_
  refine r_get (C := RX1) (T := TX1) (Nf := 11) hx hb hts hown hK hG (isC.lt h0) (isC.e h0 y _) rfl inX1 6 (by decide) qF_X1_30 rfl dX1_openedBy_1 ?_
  refine lv_iload_n hx hb dX1_openedBy_4 rfl (lv_at hl 1 rfl) ?_
  refine r_ki (r_run_N (As := [.ref (ad y (k0 + 7)), .int x1]) (rest := []) hx hb hml hown hts hK hN hG (c_X8_at l y (k0 + 7) 6 (isC.a7 h0) x1 st _ hw) qM_X1_66 qT_X8_at qN_X8 qC_X8_at hd_X8_at ⟨Nat.le_of_ble_eq_true rfl, Nat.le_of_ble_eq_true rfl⟩ hl.1 rfl (Nat.le_of_ble_eq_true rfl) dX1_openedBy_5) hG (fun r5 st5 H locs hw hG => ?_)
  exact r_iret hx hb hr hlk hK hG rfl hw dX1_openedBy_8
theorem hd_X1_hateOf : yX1_hateOf.cls ≠ "java/lang/invoke/MethodHandle" ∧ yX1_hateOf.cls ≠ "java/lang/invoke/VarHandle" ∧ (parseMethodDescriptor yX1_hateOf.desc).map (fun d => d.parameters.length) = some 2 := by decide +kernel
set_option maxRecDepth 100000 in
set_option maxHeartbeats 4000000 in
theorem c_X1_hateOf (l : Launch) (y : Sy) (k0 : Nat) (h0 : isC k0) (x1 : Int32) (x2 : Int32) (st : St) (K : Int32 → St → Prop) (hw : w_X1_hateOf k0 x1 x2 st K) : Ci 107 enX l yX1_hateOf cX1_hateOf 3 (some .int) 1 21 y [.ref (ad y k0), .int x1, .int x2] st K := by
  refine ent (by decide) (Nat.le_of_ble_eq_true rfl) ?_
  intro p e s m below meth c C hG ls hl
  have hl : lv_has ls 3 [(0, .ref (ad y k0)), (1, .int x1), (2, .int x2)] := hl
  generalize ([.ref (ad y k0), .int x1, .int x2] : List Value).toArray = args at C ⊢
  have C : Sd p s m args meth c cX1_hateOf 3 RX1 (some .int) y := C
  obtain ⟨hx, hb, hml, hown, hts, hr, hlk, hK, hN⟩ := id C
  generalize s.heap = H at hG ⊢
  generalize ([] : List Loc) = locs at hG ⊢
  unfold w_X1_hateOf at hw
  refine lv_aload_n hx hb dX1_hateOf_0 rfl (lv_at hl 0 rfl) ?_
  refine r_get (C := RX1) (T := TX1) (Nf := 11) hx hb hts hown hK hG (isC.lt h0) (isC.e h0 y _) rfl inX1 3 (by decide) qF_X1_21 rfl dX1_hateOf_1 ?_
  refine lv_iload_n hx hb dX1_hateOf_4 rfl (lv_at hl 1 rfl) ?_
  refine lv_iload_n hx hb dX1_hateOf_5 rfl (lv_at hl 2 rfl) ?_
  refine va_mmin hx hb (hml.trans hl.1.symm) hown (hts _ qM_X1_85) (hts _ qT_Lib_Math_min_name) (hts _ qN_J9) (hts _ qC_Lib_Math_min_name) (Nat.le_of_ble_eq_true rfl) (Nat.le_of_ble_eq_true rfl) (Nat.zero_le _) (Nat.zero_le _) dX1_hateOf_6 ?_
  refine lv_bipush (v := 6) hx hb dX1_hateOf_9 (by decide) ?_
  refine lv_imul hx hb dX1_hateOf_11 ?_
  refine lv_iload_n hx hb dX1_hateOf_12 rfl (lv_at hl 1 rfl) ?_
  refine lv_iload_n hx hb dX1_hateOf_13 rfl (lv_at hl 2 rfl) ?_
  refine va_mmax hx hb (hml.trans hl.1.symm) hown (hts _ qM_X1_90) (hts _ qT_Lib_Math_max_name) (hts _ qN_J9) (hts _ qC_Lib_Math_max_name) (Nat.le_of_ble_eq_true rfl) (Nat.le_of_ble_eq_true rfl) (Nat.zero_le _) (Nat.zero_le _) dX1_hateOf_14 ?_
  refine lv_iadd hx hb dX1_hateOf_17 ?_
  refine r_ki (r_run_N (As := [.ref (ad y (k0 + 4)), .int (((if x2 < x1 then x2 else x1) * 6) + (if x1 < x2 then x2 else x1))]) (rest := []) hx hb hml hown hts hK hN hG (c_X8_at l y (k0 + 4) 36 (isC.a4 h0) (((if x2 < x1 then x2 else x1) * 6) + (if x1 < x2 then x2 else x1)) st _ hw) qM_X1_66 qT_X8_at qN_X8 qC_X8_at hd_X8_at ⟨Nat.le_of_ble_eq_true rfl, Nat.le_of_ble_eq_true rfl⟩ hl.1 rfl (Nat.le_of_ble_eq_true rfl) dX1_hateOf_18) hG (fun r18 st18 H locs hw hG => ?_)
  exact r_iret hx hb hr hlk hK hG rfl hw dX1_hateOf_21
set_option maxRecDepth 100000 in
set_option maxHeartbeats 4000000 in
theorem z_X1_allHate_b39 {p : Program} {e : Env} {s : State} {m : MethodId} {args : Array Value} {below : List Frame} {meth : Method} {c : Code} (l : Launch) (y : Sy) (k0 : Nat) (h0 : isC k0) (C : Sd p s m args meth c cX1_allHate 4 RX1 (some .int) y) (c4 : Int32 → Int32 → St → Prop) (K : Int32 → St → Prop) (hc4 : ∀ (v1 : Int32) (v2 : Int32) (st : St) (H : Heap) (locs : List Loc) (ls : Array Slot), gH 107 enX y st s H locs → lv_has ls 4 [(0, .ref (ad y k0)), (1, .int v1), (2, .int v2)] → c4 v1 v2 st → W p l e (rmm 2 43) s m args below meth c H locs 0 0 (MQ below (va_Qi K (gB 107 enX y) (gA 107 y)) args s 0 0 (gA 107 y)) (F0 m 4 ls [])) (v1 : Int32) (v2 : Int32) (st : St) {H : Heap} {locs : List Loc} {ls : Array Slot} (hG : gH 107 enX y st s H locs) (hl : lv_has ls 4 [(0, .ref (ad y k0)), (1, .int v1), (2, .int v2)]) (hw : w_X1_allHate_b39 k0 c4 K v1 v2 st) : W p l e (rmm 2 43) s m args below meth c H locs 0 0 (MQ below (va_Qi K (gB 107 enX y) (gA 107 y)) args s 0 0 (gA 107 y)) (F0 m 39 ls []) := by
  obtain ⟨hx, hb, hml, hown, hts, hr, hlk, hK, hN⟩ := id C
  unfold w_X1_allHate_b39 at hw
  refine lv_iinc (v := (v2 + 1)) (lv' := [(2, .int (v2 + 1)), (0, .ref (ad y k0)), (1, .int v1)]) hx hb dX1_allHate_39 hl (k := 2) rfl rfl (Nat.le_of_ble_eq_true rfl) rfl (fun ls hl => ?_)
  refine lv_goto (tgt := 4) hx hb dX1_allHate_42 (by decide) ?_
  exact hc4 v1 (v2 + 1) st H locs _ hG (lv_sub hl [1, 2, 0] rfl) hw
set_option maxRecDepth 100000 in
set_option maxHeartbeats 4000000 in
theorem z_X1_allHate_L16 {p : Program} {e : Env} {s : State} {m : MethodId} {args : Array Value} {below : List Frame} {meth : Method} {c : Code} (l : Launch) (y : Sy) (k0 : Nat) (h0 : isC k0) (C : Sd p s m args meth c cX1_allHate 4 RX1 (some .int) y) (c4 : Int32 → Int32 → St → Prop) (K : Int32 → St → Prop) (hc4 : ∀ (v1 : Int32) (v2 : Int32) (st : St) (H : Heap) (locs : List Loc) (ls : Array Slot), gH 107 enX y st s H locs → lv_has ls 4 [(0, .ref (ad y k0)), (1, .int v1), (2, .int v2)] → c4 v1 v2 st → W p l e (rmm 2 43) s m args below meth c H locs 0 0 (MQ below (va_Qi K (gB 107 enX y) (gA 107 y)) args s 0 0 (gA 107 y)) (F0 m 4 ls [])) : ∀ (n : Nat) (v1 : Int32) (v2 : Int32) (v3 : Int32) (st : St) (H : Heap) (locs : List Loc) (ls : Array Slot), gH 107 enX y st s H locs → lv_has ls 4 [(0, .ref (ad y k0)), (1, .int v1), (2, .int v2), (3, .int v3)] → w_X1_allHate_L16 k0 c4 K n v1 v2 v3 st → W p l e (rmm 2 43) s m args below meth c H locs 0 0 (MQ below (va_Qi K (gB 107 enX y) (gA 107 y)) args s 0 0 (gA 107 y)) (F0 m 16 ls []) := by
  obtain ⟨hx, hb, hml, hown, hts, hr, hlk, hK, hN⟩ := id C
  intro n
  induction n with
  | zero => intro v1 v2 v3 st H locs ls hG hl hw; exact False.elim hw
  | succ n hc16 =>
    intro v1 v2 v3 st H locs ls hG hl hw
    have hw : w_X1_allHate_L16q k0 c4 K (fun v1 v2 v3 st => w_X1_allHate_L16 k0 c4 K n v1 v2 v3 st) v1 v2 v3 st := hw
    unfold w_X1_allHate_L16q at hw
    refine lv_iload_n hx hb dX1_allHate_16 rfl (lv_at hl 3 rfl) ?_
    refine lv_aload_n hx hb dX1_allHate_17 rfl (lv_at hl 0 rfl) ?_
    refine r_get (C := RX1) (T := TX1) (Nf := 11) hx hb hts hown hK hG (isC.lt h0) (isC.e h0 y _) rfl inX1 7 (by decide) qF_X1_43 rfl dX1_allHate_18 ?_
    refine lv_icmp_ge (tgt := 39) hx hb dX1_allHate_21 (by decide) (fun hc => ?_) (fun hc => ?_)
    · replace hw := hw.1 hc
      exact z_X1_allHate_b39 l y k0 h0 C c4 K hc4 v1 v2 st hG (lv_sub hl [0, 1, 2] rfl) hw
    · replace hw := hw.2 hc
      refine lv_iload_n hx hb dX1_allHate_24 rfl (lv_at hl 1 rfl) ?_
      refine lv_aload_n hx hb dX1_allHate_25 rfl (lv_at hl 0 rfl) ?_
      refine lv_iload_n hx hb dX1_allHate_26 rfl (lv_at hl 2 rfl) ?_
      refine lv_iload_n hx hb dX1_allHate_27 rfl (lv_at hl 3 rfl) ?_
      refine r_ki (r_run_V (k := k0) (As := [.int v2, .int v3]) (rest := [.int v1]) hx hb hml hown hts hK hN hG (c_X1_hateOf l y k0 h0 v2 v3 st _ hw) (isC.lt h0) (isC.e h0 y _) rfl rfl qM_X1_93 qI_X1_hateOf qS_X1_hateOf qN_X1 qC_X1_hateOf hd_X1_hateOf ⟨Nat.le_of_ble_eq_true rfl, Nat.le_of_ble_eq_true rfl⟩ hl.1 rfl (Nat.le_of_ble_eq_true rfl) dX1_allHate_28) hG (fun r28 st28 H locs hw hG => ?_)
      refine lv_iadd hx hb dX1_allHate_31 ?_
      refine lv_istore_n (lv' := [(1, .int (v1 + r28)), (0, .ref (ad y k0)), (2, .int v2), (3, .int v3)]) hx hb dX1_allHate_32 rfl hl (Nat.le_of_ble_eq_true rfl) rfl (fun ls hl => ?_)
      refine lv_iinc (v := (v3 + 1)) (lv' := [(3, .int (v3 + 1)), (1, .int (v1 + r28)), (0, .ref (ad y k0)), (2, .int v2)]) hx hb dX1_allHate_33 hl (k := 3) rfl rfl (Nat.le_of_ble_eq_true rfl) rfl (fun ls hl => ?_)
      refine lv_goto (tgt := 16) hx hb dX1_allHate_36 (by decide) ?_
      exact hc16 (v1 + r28) v2 (v3 + 1) st28 H locs _ hG (lv_sub hl [2, 1, 3, 0] rfl) hw
set_option maxRecDepth 100000 in
set_option maxHeartbeats 4000000 in
theorem z_X1_allHate_L4 {p : Program} {e : Env} {s : State} {m : MethodId} {args : Array Value} {below : List Frame} {meth : Method} {c : Code} (l : Launch) (y : Sy) (k0 : Nat) (h0 : isC k0) (C : Sd p s m args meth c cX1_allHate 4 RX1 (some .int) y)  (K : Int32 → St → Prop)  : ∀ (n : Nat) (v1 : Int32) (v2 : Int32) (st : St) (H : Heap) (locs : List Loc) (ls : Array Slot), gH 107 enX y st s H locs → lv_has ls 4 [(0, .ref (ad y k0)), (1, .int v1), (2, .int v2)] → w_X1_allHate_L4 k0  K n v1 v2 st → W p l e (rmm 2 43) s m args below meth c H locs 0 0 (MQ below (va_Qi K (gB 107 enX y) (gA 107 y)) args s 0 0 (gA 107 y)) (F0 m 4 ls []) := by
  obtain ⟨hx, hb, hml, hown, hts, hr, hlk, hK, hN⟩ := id C
  intro n
  induction n with
  | zero => intro v1 v2 st H locs ls hG hl hw; exact False.elim hw
  | succ n hc4 =>
    intro v1 v2 st H locs ls hG hl hw
    have hw : w_X1_allHate_L4q k0  K (fun v1 v2 st => w_X1_allHate_L4 k0  K n v1 v2 st) v1 v2 st := hw
    unfold w_X1_allHate_L4q at hw
    refine lv_iload_n hx hb dX1_allHate_4 rfl (lv_at hl 2 rfl) ?_
    refine lv_aload_n hx hb dX1_allHate_5 rfl (lv_at hl 0 rfl) ?_
    refine r_get (C := RX1) (T := TX1) (Nf := 11) hx hb hts hown hK hG (isC.lt h0) (isC.e h0 y _) rfl inX1 7 (by decide) qF_X1_43 rfl dX1_allHate_6 ?_
    refine lv_icmp_ge (tgt := 45) hx hb dX1_allHate_9 (by decide) (fun hc => ?_) (fun hc => ?_)
    · replace hw := hw.1 hc
      refine lv_iload_n hx hb dX1_allHate_45 rfl (lv_at hl 1 rfl) ?_
      exact r_iret hx hb hr hlk hK hG rfl hw dX1_allHate_46
    · replace hw := hw.2 hc
      refine lv_iload_n hx hb dX1_allHate_12 rfl (lv_at hl 2 rfl) ?_
      refine lv_iconst (v := 1) hx hb dX1_allHate_13 (by decide) ?_
      refine lv_iadd hx hb dX1_allHate_14 ?_
      refine lv_istore_n (lv' := [(3, .int (v2 + 1)), (0, .ref (ad y k0)), (1, .int v1), (2, .int v2)]) hx hb dX1_allHate_15 rfl hl (Nat.le_of_ble_eq_true rfl) rfl (fun ls hl => ?_)
      obtain ⟨n16, hw⟩ := hw
      exact z_X1_allHate_L16 l y k0 h0 C (fun v1 v2 st => w_X1_allHate_L4 k0  K n v1 v2 st) K hc4 n16 v1 v2 (v2 + 1) st H locs _ hG (lv_sub hl [1, 2, 3, 0] rfl) hw
theorem hd_X1_allHate : yX1_allHate.cls ≠ "java/lang/invoke/MethodHandle" ∧ yX1_allHate.cls ≠ "java/lang/invoke/VarHandle" ∧ (parseMethodDescriptor yX1_allHate.desc).map (fun d => d.parameters.length) = some 0 := by decide +kernel
set_option maxRecDepth 100000 in
set_option maxHeartbeats 4000000 in
theorem c_X1_allHate (l : Launch) (y : Sy) (k0 : Nat) (h0 : isC k0) (st : St) (K : Int32 → St → Prop) (hw : w_X1_allHate k0 st K) : Ci 107 enX l yX1_allHate cX1_allHate 4 (some .int) 2 43 y [.ref (ad y k0)] st K := by
  refine ent (by decide) (Nat.le_of_ble_eq_true rfl) ?_
  intro p e s m below meth c C hG ls hl
  have hl : lv_has ls 4 [(0, .ref (ad y k0))] := hl
  generalize ([.ref (ad y k0)] : List Value).toArray = args at C ⊢
  have C : Sd p s m args meth c cX1_allHate 4 RX1 (some .int) y := C
  obtain ⟨hx, hb, hml, hown, hts, hr, hlk, hK, hN⟩ := id C
  generalize s.heap = H at hG ⊢
  generalize ([] : List Loc) = locs at hG ⊢
  unfold w_X1_allHate at hw
  refine lv_iconst (v := 0) hx hb dX1_allHate_0 (by decide) ?_
  refine lv_istore_n (lv' := [(1, .int 0), (0, .ref (ad y k0))]) hx hb dX1_allHate_1 rfl hl (Nat.le_of_ble_eq_true rfl) rfl (fun ls hl => ?_)
  refine lv_iconst (v := 0) hx hb dX1_allHate_2 (by decide) ?_
  refine lv_istore_n (lv' := [(2, .int 0), (1, .int 0), (0, .ref (ad y k0))]) hx hb dX1_allHate_3 rfl hl (Nat.le_of_ble_eq_true rfl) rfl (fun ls hl => ?_)
  obtain ⟨n4, hw⟩ := hw
  exact z_X1_allHate_L4 l y k0 h0 C  K  n4 0 0 st H locs _ hG (lv_sub hl [2, 1, 0] rfl) hw
theorem hd_X8_put : yX8_put.cls ≠ "java/lang/invoke/MethodHandle" ∧ yX8_put.cls ≠ "java/lang/invoke/VarHandle" ∧ (parseMethodDescriptor yX8_put.desc).map (fun d => d.parameters.length) = some 3 := by decide +kernel
set_option maxRecDepth 100000 in
set_option maxHeartbeats 4000000 in
theorem c_X8_put (l : Launch) (y : Sy) (k0 : Nat) (n0 : Nat) (h0 : isA k0 n0) (x1 : Int32) (x2 : Int32) (st : St) (K : St → Prop) (hw : w_X8_put k0 n0 x1 x2 st K) : Cv 107 enX l yX8_put cX8_put 3 none 0 0 y [.ref (ad y k0), .int x1, .int x2] st K := by
  refine ent (by decide) (Nat.le_of_ble_eq_true rfl) ?_
  intro p e s m below meth c C hG ls hl
  have hl : lv_has ls 3 [(0, .ref (ad y k0)), (1, .int x1), (2, .int x2)] := hl
  generalize ([.ref (ad y k0), .int x1, .int x2] : List Value).toArray = args at C ⊢
  have C : Sd p s m args meth c cX8_put 3 RX8 none y := C
  obtain ⟨hx, hb, hml, hown, hts, hr, hlk, hK, hN⟩ := id C
  generalize s.heap = H at hG ⊢
  generalize ([] : List Loc) = locs at hG ⊢
  unfold w_X8_put at hw
  refine lv_aload_n hx hb dX8_put_0 rfl (lv_at hl 0 rfl) ?_
  refine lv_ifnull hx hb dX8_put_1 ?_
  refine lv_iload_n hx hb dX8_put_4 rfl (lv_at hl 1 rfl) ?_
  refine lv_if_lt (tgt := 18) hx hb dX8_put_5 (by decide) (fun hc => ?_) (fun hc => ?_)
  · replace hw := hw.1 hc
    exact r_vret hx hb hr hlk hK hG hw dX8_put_18
  · replace hw := hw.2 hc
    refine lv_iload_n hx hb dX8_put_8 rfl (lv_at hl 1 rfl) ?_
    refine lv_aload_n hx hb dX8_put_9 rfl (lv_at hl 0 rfl) ?_
    refine r_alen (v := (nI n0)) hx hb hK hG (h0).1 ((h0).2 y _) rfl dX8_put_10 ?_
    refine lv_icmp_ge (tgt := 18) hx hb dX8_put_11 (by decide) (fun hc => ?_) (fun hc => ?_)
    · replace hw := hw.1 hc
      exact r_vret hx hb hr hlk hK hG hw dX8_put_18
    · replace hw := hw.2 hc
      refine lv_aload_n hx hb dX8_put_14 rfl (lv_at hl 0 rfl) ?_
      refine lv_iload_n hx hb dX8_put_15 rfl (lv_at hl 1 rfl) ?_
      refine lv_iload_n hx hb dX8_put_16 rfl (lv_at hl 2 rfl) ?_
      obtain ⟨hi, hw⟩ := hw
      refine r_iast hx hb hK hG (h0).1 (fun f => (h0).2 y f) hi dX8_put_17 (fun H locs hG => ?_)
      exact r_vret hx hb hr hlk hK hG hw dX8_put_18
theorem hd_X1_setHate : yX1_setHate.cls ≠ "java/lang/invoke/MethodHandle" ∧ yX1_setHate.cls ≠ "java/lang/invoke/VarHandle" ∧ (parseMethodDescriptor yX1_setHate.desc).map (fun d => d.parameters.length) = some 3 := by decide +kernel
set_option maxRecDepth 100000 in
set_option maxHeartbeats 4000000 in
theorem c_X1_setHate (l : Launch) (y : Sy) (k0 : Nat) (h0 : isC k0) (x1 : Int32) (x2 : Int32) (x3 : Int32) (st : St) (K : St → Prop) (hw : w_X1_setHate k0 x1 x2 x3 st K) : Cv 107 enX l yX1_setHate cX1_setHate 5 none 1 22 y [.ref (ad y k0), .int x1, .int x2, .int x3] st K := by
  refine ent (by decide) (Nat.le_of_ble_eq_true rfl) ?_
  intro p e s m below meth c C hG ls hl
  have hl : lv_has ls 5 [(0, .ref (ad y k0)), (1, .int x1), (2, .int x2), (3, .int x3)] := hl
  generalize ([.ref (ad y k0), .int x1, .int x2, .int x3] : List Value).toArray = args at C ⊢
  have C : Sd p s m args meth c cX1_setHate 5 RX1 none y := C
  obtain ⟨hx, hb, hml, hown, hts, hr, hlk, hK, hN⟩ := id C
  generalize s.heap = H at hG ⊢
  generalize ([] : List Loc) = locs at hG ⊢
  unfold w_X1_setHate at hw
  refine lv_iconst (v := 0) hx hb dX1_setHate_0 (by decide) ?_
  refine lv_bipush (v := 99) hx hb dX1_setHate_1 (by decide) ?_
  refine lv_iload_n hx hb dX1_setHate_3 rfl (lv_at hl 3 rfl) ?_
  refine va_mmin hx hb (hml.trans hl.1.symm) hown (hts _ qM_X1_85) (hts _ qT_Lib_Math_min_name) (hts _ qN_J9) (hts _ qC_Lib_Math_min_name) (Nat.le_of_ble_eq_true rfl) (Nat.le_of_ble_eq_true rfl) (Nat.zero_le _) (Nat.zero_le _) dX1_setHate_4 ?_
  refine va_mmax hx hb (hml.trans hl.1.symm) hown (hts _ qM_X1_90) (hts _ qT_Lib_Math_max_name) (hts _ qN_J9) (hts _ qC_Lib_Math_max_name) (Nat.le_of_ble_eq_true rfl) (Nat.le_of_ble_eq_true rfl) (Nat.zero_le _) (Nat.zero_le _) dX1_setHate_7 ?_
  refine lv_istore (lv' := [(4, .int (if 0 < (if x3 < 99 then x3 else 99) then (if x3 < 99 then x3 else 99) else 0)), (0, .ref (ad y k0)), (1, .int x1), (2, .int x2), (3, .int x3)]) hx hb dX1_setHate_10 hl (Nat.le_of_ble_eq_true rfl) rfl (fun ls hl => ?_)
  refine lv_aload_n hx hb dX1_setHate_12 rfl (lv_at hl 1 rfl) ?_
  refine r_get (C := RX1) (T := TX1) (Nf := 11) hx hb hts hown hK hG (isC.lt h0) (isC.e h0 y _) rfl inX1 3 (by decide) qF_X1_21 rfl dX1_setHate_13 ?_
  refine lv_iload_n hx hb dX1_setHate_16 rfl (lv_at hl 2 rfl) ?_
  refine lv_iload_n hx hb dX1_setHate_17 rfl (lv_at hl 3 rfl) ?_
  refine va_mmin hx hb (hml.trans hl.1.symm) hown (hts _ qM_X1_85) (hts _ qT_Lib_Math_min_name) (hts _ qN_J9) (hts _ qC_Lib_Math_min_name) (Nat.le_of_ble_eq_true rfl) (Nat.le_of_ble_eq_true rfl) (Nat.zero_le _) (Nat.zero_le _) dX1_setHate_18 ?_
  refine lv_bipush (v := 6) hx hb dX1_setHate_21 (by decide) ?_
  refine lv_imul hx hb dX1_setHate_23 ?_
  refine lv_iload_n hx hb dX1_setHate_24 rfl (lv_at hl 2 rfl) ?_
  refine lv_iload_n hx hb dX1_setHate_25 rfl (lv_at hl 3 rfl) ?_
  refine va_mmax hx hb (hml.trans hl.1.symm) hown (hts _ qM_X1_90) (hts _ qT_Lib_Math_max_name) (hts _ qN_J9) (hts _ qC_Lib_Math_max_name) (Nat.le_of_ble_eq_true rfl) (Nat.le_of_ble_eq_true rfl) (Nat.zero_le _) (Nat.zero_le _) dX1_setHate_26 ?_
  refine lv_iadd hx hb dX1_setHate_29 ?_
  refine lv_iload hx hb dX1_setHate_30 (lv_at hl 0 rfl) ?_
  refine r_kv (r_run_N (As := [.ref (ad y (k0 + 4)), .int (((if x2 < x1 then x2 else x1) * 6) + (if x1 < x2 then x2 else x1)), .int (if 0 < (if x3 < 99 then x3 else 99) then (if x3 < 99 then x3 else 99) else 0)]) (rest := []) hx hb hml hown hts hK hN hG (c_X8_put l y (k0 + 4) 36 (isC.a4 h0) (((if x2 < x1 then x2 else x1) * 6) + (if x1 < x2 then x2 else x1)) (if 0 < (if x3 < 99 then x3 else 99) then (if x3 < 99 then x3 else 99) else 0) st _ hw) qM_X1_96 qT_X8_put qN_X8 qC_X8_put hd_X8_put ⟨Nat.le_of_ble_eq_true rfl, Nat.le_of_ble_eq_true rfl⟩ hl.1 rfl (Nat.le_of_ble_eq_true rfl) dX1_setHate_32) hG (fun st32 H locs hw hG => ?_)
  exact r_vret hx hb hr hlk hK hG hw dX1_setHate_35
set_option maxRecDepth 100000 in
set_option maxHeartbeats 4000000 in
theorem z_X1_addKeeper_b62 {p : Program} {e : Env} {s : State} {m : MethodId} {args : Array Value} {below : List Frame} {meth : Method} {c : Code} (l : Launch) (y : Sy) (k0 : Nat) (h0 : isC k0) (x1 : Int32) (x2 : Int32) (x3 : Int32) (C : Sd p s m args meth c cX1_addKeeper 6 RX1 (some .int) y)  (K : Int32 → St → Prop)  (v4 : Int32) (st : St) {H : Heap} {locs : List Loc} {ls : Array Slot} (hG : gH 107 enX y st s H locs) (hl : lv_has ls 6 [(0, .ref (ad y k0)), (4, .int v4)]) (hw : w_X1_addKeeper_b62 k0 x1 x2 x3  K v4 st) : W p l e (rmm 2 46) s m args below meth c H locs 0 0 (MQ below (va_Qi K (gB 107 enX y) (gA 107 y)) args s 0 0 (gA 107 y)) (F0 m 62 ls []) := by
  obtain ⟨hx, hb, hml, hown, hts, hr, hlk, hK, hN⟩ := id C
  unfold w_X1_addKeeper_b62 at hw
  refine lv_aload_n hx hb dX1_addKeeper_62 rfl (lv_at hl 0 rfl) ?_
  refine lv_dup hx hb dX1_addKeeper_63 rfl ?_
  refine r_get (C := RX1) (T := TX1) (Nf := 11) hx hb hts hown hK hG (isC.lt h0) (isC.e h0 y _) rfl inX1 7 (by decide) qF_X1_43 rfl dX1_addKeeper_64 ?_
  refine lv_iconst (v := 1) hx hb dX1_addKeeper_67 (by decide) ?_
  refine lv_iadd hx hb dX1_addKeeper_68 ?_
  refine r_put (C := RX1) (T := TX1) (Nf := 11) hx hb hts hown hK hG (isC.lt h0) (isC.e h0 y _) rfl inX1 tyX1_ok nmX1 7 (by decide) qF_X1_43 rfl ((st k0 7) + 1) (isC.p7 h0 y _ _) rfl rfl (Nat.le_of_ble_eq_true rfl) dX1_addKeeper_69 (fun H locs hG => ?_)
  refine lv_iload hx hb dX1_addKeeper_72 (lv_at hl 1 rfl) ?_
  exact r_iret hx hb hr hlk hK hG rfl hw dX1_addKeeper_74
set_option maxRecDepth 100000 in
set_option maxHeartbeats 4000000 in
theorem z_X1_addKeeper_L39 {p : Program} {e : Env} {s : State} {m : MethodId} {args : Array Value} {below : List Frame} {meth : Method} {c : Code} (l : Launch) (y : Sy) (k0 : Nat) (h0 : isC k0) (x1 : Int32) (x2 : Int32) (x3 : Int32) (C : Sd p s m args meth c cX1_addKeeper 6 RX1 (some .int) y)  (K : Int32 → St → Prop)  : ∀ (n : Nat) (v4 : Int32) (v5 : Int32) (st : St) (H : Heap) (locs : List Loc) (ls : Array Slot), gH 107 enX y st s H locs → lv_has ls 6 [(0, .ref (ad y k0)), (4, .int v4), (5, .int v5)] → w_X1_addKeeper_L39 k0 x1 x2 x3  K n v4 v5 st → W p l e (rmm 2 46) s m args below meth c H locs 0 0 (MQ below (va_Qi K (gB 107 enX y) (gA 107 y)) args s 0 0 (gA 107 y)) (F0 m 39 ls []) := by
  obtain ⟨hx, hb, hml, hown, hts, hr, hlk, hK, hN⟩ := id C
  intro n
  induction n with
  | zero => intro v4 v5 st H locs ls hG hl hw; exact False.elim hw
  | succ n hc39 =>
    intro v4 v5 st H locs ls hG hl hw
    have hw : w_X1_addKeeper_L39q k0 x1 x2 x3  K (fun v4 v5 st => w_X1_addKeeper_L39 k0 x1 x2 x3  K n v4 v5 st) v4 v5 st := hw
    unfold w_X1_addKeeper_L39q at hw
    refine lv_iload hx hb dX1_addKeeper_39 (lv_at hl 2 rfl) ?_
    refine lv_iload hx hb dX1_addKeeper_41 (lv_at hl 1 rfl) ?_
    refine lv_icmp_ge (tgt := 62) hx hb dX1_addKeeper_43 (by decide) (fun hc => ?_) (fun hc => ?_)
    · replace hw := hw.1 hc
      exact z_X1_addKeeper_b62 l y k0 h0 x1 x2 x3 C  K  v4 st hG (lv_sub hl [0, 1] rfl) hw
    · replace hw := hw.2 hc
      refine lv_aload_n hx hb dX1_addKeeper_46 rfl (lv_at hl 0 rfl) ?_
      refine lv_iload hx hb dX1_addKeeper_47 (lv_at hl 2 rfl) ?_
      refine lv_iload hx hb dX1_addKeeper_49 (lv_at hl 1 rfl) ?_
      refine lv_bipush (v := 20) hx hb dX1_addKeeper_51 (by decide) ?_
      refine r_kv (r_run_V (k := k0) (As := [.int v5, .int v4, .int 20]) (rest := []) hx hb hml hown hts hK hN hG (c_X1_setHate l y k0 h0 v5 v4 20 st _ hw) (isC.lt h0) (isC.e h0 y _) rfl rfl qM_X1_100 qI_X1_setHate qS_X1_setHate qN_X1 qC_X1_setHate hd_X1_setHate ⟨Nat.le_of_ble_eq_true rfl, Nat.le_of_ble_eq_true rfl⟩ hl.1 rfl (Nat.le_of_ble_eq_true rfl) dX1_addKeeper_53) hG (fun st53 H locs hw hG => ?_)
      refine lv_iinc (v := (v5 + 1)) (lv' := [(5, .int (v5 + 1)), (0, .ref (ad y k0)), (4, .int v4)]) hx hb dX1_addKeeper_56 hl (k := 2) rfl rfl (Nat.le_of_ble_eq_true rfl) rfl (fun ls hl => ?_)
      refine lv_goto (tgt := 39) hx hb dX1_addKeeper_59 (by decide) ?_
      exact hc39 v4 (v5 + 1) st53 H locs _ hG (lv_sub hl [1, 2, 0] rfl) hw
theorem hd_X1_addKeeper : yX1_addKeeper.cls ≠ "java/lang/invoke/MethodHandle" ∧ yX1_addKeeper.cls ≠ "java/lang/invoke/VarHandle" ∧ (parseMethodDescriptor yX1_addKeeper.desc).map (fun d => d.parameters.length) = some 3 := by decide +kernel
set_option maxRecDepth 100000 in
set_option maxHeartbeats 4000000 in
theorem c_X1_addKeeper (l : Launch) (y : Sy) (k0 : Nat) (h0 : isC k0) (x1 : Int32) (x2 : Int32) (x3 : Int32) (st : St) (K : Int32 → St → Prop) (hw : w_X1_addKeeper k0 x1 x2 x3 st K) : Ci 107 enX l yX1_addKeeper cX1_addKeeper 6 (some .int) 2 46 y [.ref (ad y k0), .int x1, .int x2, .int x3] st K := by
  refine ent (by decide) (Nat.le_of_ble_eq_true rfl) ?_
  intro p e s m below meth c C hG ls hl
  have hl : lv_has ls 6 [(0, .ref (ad y k0)), (1, .int x1), (2, .int x2), (3, .int x3)] := hl
  generalize ([.ref (ad y k0), .int x1, .int x2, .int x3] : List Value).toArray = args at C ⊢
  have C : Sd p s m args meth c cX1_addKeeper 6 RX1 (some .int) y := C
  obtain ⟨hx, hb, hml, hown, hts, hr, hlk, hK, hN⟩ := id C
  generalize s.heap = H at hG ⊢
  generalize ([] : List Loc) = locs at hG ⊢
  unfold w_X1_addKeeper at hw
  refine lv_aload_n hx hb dX1_addKeeper_0 rfl (lv_at hl 0 rfl) ?_
  refine r_get (C := RX1) (T := TX1) (Nf := 11) hx hb hts hown hK hG (isC.lt h0) (isC.e h0 y _) rfl inX1 7 (by decide) qF_X1_43 rfl dX1_addKeeper_1 ?_
  refine lv_istore (lv' := [(4, .int (st k0 7)), (0, .ref (ad y k0)), (1, .int x1), (2, .int x2), (3, .int x3)]) hx hb dX1_addKeeper_4 hl (Nat.le_of_ble_eq_true rfl) rfl (fun ls hl => ?_)
  refine lv_aload_n hx hb dX1_addKeeper_6 rfl (lv_at hl 1 rfl) ?_
  refine r_get (C := RX1) (T := TX1) (Nf := 11) hx hb hts hown hK hG (isC.lt h0) (isC.e h0 y _) rfl inX1 0 (by decide) qF_X1_9 rfl dX1_addKeeper_7 ?_
  refine lv_iload hx hb dX1_addKeeper_10 (lv_at hl 0 rfl) ?_
  refine lv_iload_n hx hb dX1_addKeeper_12 rfl (lv_at hl 2 rfl) ?_
  refine r_kv (r_run_N (As := [.ref (ad y (k0 + 1)), .int (st k0 7), .int x1]) (rest := []) hx hb hml hown hts hK hN hG (c_X8_put l y (k0 + 1) 6 (isC.a1 h0) (st k0 7) x1 st _ hw) qM_X1_96 qT_X8_put qN_X8 qC_X8_put hd_X8_put ⟨Nat.le_of_ble_eq_true rfl, Nat.le_of_ble_eq_true rfl⟩ hl.1 rfl (Nat.le_of_ble_eq_true rfl) dX1_addKeeper_13) hG (fun st13 H locs hw hG => ?_)
  refine lv_aload_n hx hb dX1_addKeeper_16 rfl (lv_at hl 1 rfl) ?_
  refine r_get (C := RX1) (T := TX1) (Nf := 11) hx hb hts hown hK hG (isC.lt h0) (isC.e h0 y _) rfl inX1 1 (by decide) qF_X1_15 rfl dX1_addKeeper_17 ?_
  refine lv_iload hx hb dX1_addKeeper_20 (lv_at hl 0 rfl) ?_
  refine lv_iload_n hx hb dX1_addKeeper_22 rfl (lv_at hl 3 rfl) ?_
  refine r_kv (r_run_N (As := [.ref (ad y (k0 + 2)), .int (st k0 7), .int x2]) (rest := []) hx hb hml hown hts hK hN hG (c_X8_put l y (k0 + 2) 6 (isC.a2 h0) (st k0 7) x2 st13 _ hw) qM_X1_96 qT_X8_put qN_X8 qC_X8_put hd_X8_put ⟨Nat.le_of_ble_eq_true rfl, Nat.le_of_ble_eq_true rfl⟩ hl.1 rfl (Nat.le_of_ble_eq_true rfl) dX1_addKeeper_23) hG (fun st23 H locs hw hG => ?_)
  refine lv_aload_n hx hb dX1_addKeeper_26 rfl (lv_at hl 1 rfl) ?_
  refine r_get (C := RX1) (T := TX1) (Nf := 11) hx hb hts hown hK hG (isC.lt h0) (isC.e h0 y _) rfl inX1 2 (by decide) qF_X1_18 rfl dX1_addKeeper_27 ?_
  refine lv_iload hx hb dX1_addKeeper_30 (lv_at hl 0 rfl) ?_
  refine lv_iload_n hx hb dX1_addKeeper_32 rfl (lv_at hl 4 rfl) ?_
  refine r_kv (r_run_N (As := [.ref (ad y (k0 + 3)), .int (st k0 7), .int x3]) (rest := []) hx hb hml hown hts hK hN hG (c_X8_put l y (k0 + 3) 6 (isC.a3 h0) (st k0 7) x3 st23 _ hw) qM_X1_96 qT_X8_put qN_X8 qC_X8_put hd_X8_put ⟨Nat.le_of_ble_eq_true rfl, Nat.le_of_ble_eq_true rfl⟩ hl.1 rfl (Nat.le_of_ble_eq_true rfl) dX1_addKeeper_33) hG (fun st33 H locs hw hG => ?_)
  refine lv_iconst (v := 0) hx hb dX1_addKeeper_36 (by decide) ?_
  refine lv_istore (lv' := [(5, .int 0), (4, .int (st k0 7)), (0, .ref (ad y k0)), (1, .int x1), (2, .int x2), (3, .int x3)]) hx hb dX1_addKeeper_37 hl (Nat.le_of_ble_eq_true rfl) rfl (fun ls hl => ?_)
  obtain ⟨n39, hw⟩ := hw
  exact z_X1_addKeeper_L39 l y k0 h0 x1 x2 x3 C  K  n39 (st k0 7) 0 st33 H locs _ hG (lv_sub hl [2, 1, 0] rfl) hw
theorem hd_X1_addLetter : yX1_addLetter.cls ≠ "java/lang/invoke/MethodHandle" ∧ yX1_addLetter.cls ≠ "java/lang/invoke/VarHandle" ∧ (parseMethodDescriptor yX1_addLetter.desc).map (fun d => d.parameters.length) = some 2 := by decide +kernel
set_option maxRecDepth 100000 in
set_option maxHeartbeats 4000000 in
theorem c_X1_addLetter (l : Launch) (y : Sy) (k0 : Nat) (h0 : isC k0) (x1 : Int32) (x2 : Int32) (st : St) (K : Int32 → St → Prop) (hw : w_X1_addLetter k0 x1 x2 st K) : Ci 107 enX l yX1_addLetter cX1_addLetter 4 (some .int) 1 22 y [.ref (ad y k0), .int x1, .int x2] st K := by
  refine ent (by decide) (Nat.le_of_ble_eq_true rfl) ?_
  intro p e s m below meth c C hG ls hl
  have hl : lv_has ls 4 [(0, .ref (ad y k0)), (1, .int x1), (2, .int x2)] := hl
  generalize ([.ref (ad y k0), .int x1, .int x2] : List Value).toArray = args at C ⊢
  have C : Sd p s m args meth c cX1_addLetter 4 RX1 (some .int) y := C
  obtain ⟨hx, hb, hml, hown, hts, hr, hlk, hK, hN⟩ := id C
  generalize s.heap = H at hG ⊢
  generalize ([] : List Loc) = locs at hG ⊢
  unfold w_X1_addLetter at hw
  refine lv_aload_n hx hb dX1_addLetter_0 rfl (lv_at hl 0 rfl) ?_
  refine r_get (C := RX1) (T := TX1) (Nf := 11) hx hb hts hown hK hG (isC.lt h0) (isC.e h0 y _) rfl inX1 8 (by decide) qF_X1_47 rfl dX1_addLetter_1 ?_
  refine lv_istore_n (lv' := [(3, .int (st k0 8)), (0, .ref (ad y k0)), (1, .int x1), (2, .int x2)]) hx hb dX1_addLetter_4 rfl hl (Nat.le_of_ble_eq_true rfl) rfl (fun ls hl => ?_)
  refine lv_aload_n hx hb dX1_addLetter_5 rfl (lv_at hl 1 rfl) ?_
  refine r_get (C := RX1) (T := TX1) (Nf := 11) hx hb hts hown hK hG (isC.lt h0) (isC.e h0 y _) rfl inX1 4 (by decide) qF_X1_24 rfl dX1_addLetter_6 ?_
  refine lv_iload_n hx hb dX1_addLetter_9 rfl (lv_at hl 0 rfl) ?_
  refine lv_iload_n hx hb dX1_addLetter_10 rfl (lv_at hl 3 rfl) ?_
  refine r_kv (r_run_N (As := [.ref (ad y (k0 + 5)), .int (st k0 8), .int x2]) (rest := []) hx hb hml hown hts hK hN hG (c_X8_put l y (k0 + 5) 6 (isC.a5 h0) (st k0 8) x2 st _ hw) qM_X1_96 qT_X8_put qN_X8 qC_X8_put hd_X8_put ⟨Nat.le_of_ble_eq_true rfl, Nat.le_of_ble_eq_true rfl⟩ hl.1 rfl (Nat.le_of_ble_eq_true rfl) dX1_addLetter_11) hG (fun st11 H locs hw hG => ?_)
  refine lv_aload_n hx hb dX1_addLetter_14 rfl (lv_at hl 1 rfl) ?_
  refine r_get (C := RX1) (T := TX1) (Nf := 11) hx hb hts hown hK hG (isC.lt h0) (isC.e h0 y _) rfl inX1 5 (by decide) qF_X1_27 rfl dX1_addLetter_15 ?_
  refine lv_iload_n hx hb dX1_addLetter_18 rfl (lv_at hl 0 rfl) ?_
  refine lv_iload_n hx hb dX1_addLetter_19 rfl (lv_at hl 2 rfl) ?_
  refine r_kv (r_run_N (As := [.ref (ad y (k0 + 6)), .int (st k0 8), .int x1]) (rest := []) hx hb hml hown hts hK hN hG (c_X8_put l y (k0 + 6) 6 (isC.a6 h0) (st k0 8) x1 st11 _ hw) qM_X1_96 qT_X8_put qN_X8 qC_X8_put hd_X8_put ⟨Nat.le_of_ble_eq_true rfl, Nat.le_of_ble_eq_true rfl⟩ hl.1 rfl (Nat.le_of_ble_eq_true rfl) dX1_addLetter_20) hG (fun st20 H locs hw hG => ?_)
  refine lv_aload_n hx hb dX1_addLetter_23 rfl (lv_at hl 1 rfl) ?_
  refine lv_dup hx hb dX1_addLetter_24 rfl ?_
  refine r_get (C := RX1) (T := TX1) (Nf := 11) hx hb hts hown hK hG (isC.lt h0) (isC.e h0 y _) rfl inX1 8 (by decide) qF_X1_47 rfl dX1_addLetter_25 ?_
  refine lv_iconst (v := 1) hx hb dX1_addLetter_28 (by decide) ?_
  refine lv_iadd hx hb dX1_addLetter_29 ?_
  refine r_put (C := RX1) (T := TX1) (Nf := 11) hx hb hts hown hK hG (isC.lt h0) (isC.e h0 y _) rfl inX1 tyX1_ok nmX1 8 (by decide) qF_X1_47 rfl ((st20 k0 8) + 1) (isC.p8 h0 y _ _) rfl rfl (Nat.le_of_ble_eq_true rfl) dX1_addLetter_30 (fun H locs hG => ?_)
  refine lv_iload_n hx hb dX1_addLetter_33 rfl (lv_at hl 0 rfl) ?_
  exact r_iret hx hb hr hlk hK hG rfl hw dX1_addLetter_34
theorem hd_X1_setKind : yX1_setKind.cls ≠ "java/lang/invoke/MethodHandle" ∧ yX1_setKind.cls ≠ "java/lang/invoke/VarHandle" ∧ (parseMethodDescriptor yX1_setKind.desc).map (fun d => d.parameters.length) = some 2 := by decide +kernel
set_option maxRecDepth 100000 in
set_option maxHeartbeats 4000000 in
theorem c_X1_setKind (l : Launch) (y : Sy) (k0 : Nat) (h0 : isC k0) (x1 : Int32) (x2 : Int32) (st : St) (K : St → Prop) (hw : w_X1_setKind k0 x1 x2 st K) : Cv 107 enX l yX1_setKind cX1_setKind 3 none 1 22 y [.ref (ad y k0), .int x1, .int x2] st K := by
  refine ent (by decide) (Nat.le_of_ble_eq_true rfl) ?_
  intro p e s m below meth c C hG ls hl
  have hl : lv_has ls 3 [(0, .ref (ad y k0)), (1, .int x1), (2, .int x2)] := hl
  generalize ([.ref (ad y k0), .int x1, .int x2] : List Value).toArray = args at C ⊢
  have C : Sd p s m args meth c cX1_setKind 3 RX1 none y := C
  obtain ⟨hx, hb, hml, hown, hts, hr, hlk, hK, hN⟩ := id C
  generalize s.heap = H at hG ⊢
  generalize ([] : List Loc) = locs at hG ⊢
  unfold w_X1_setKind at hw
  refine lv_aload_n hx hb dX1_setKind_0 rfl (lv_at hl 0 rfl) ?_
  refine r_get (C := RX1) (T := TX1) (Nf := 11) hx hb hts hown hK hG (isC.lt h0) (isC.e h0 y _) rfl inX1 0 (by decide) qF_X1_9 rfl dX1_setKind_1 ?_
  refine lv_iload_n hx hb dX1_setKind_4 rfl (lv_at hl 1 rfl) ?_
  refine lv_iload_n hx hb dX1_setKind_5 rfl (lv_at hl 2 rfl) ?_
  refine r_kv (r_run_N (As := [.ref (ad y (k0 + 1)), .int x1, .int x2]) (rest := []) hx hb hml hown hts hK hN hG (c_X8_put l y (k0 + 1) 6 (isC.a1 h0) x1 x2 st _ hw) qM_X1_96 qT_X8_put qN_X8 qC_X8_put hd_X8_put ⟨Nat.le_of_ble_eq_true rfl, Nat.le_of_ble_eq_true rfl⟩ hl.1 rfl (Nat.le_of_ble_eq_true rfl) dX1_setKind_6) hG (fun st6 H locs hw hG => ?_)
  exact r_vret hx hb hr hlk hK hG hw dX1_setKind_9
theorem hd_X1_setFigure : yX1_setFigure.cls ≠ "java/lang/invoke/MethodHandle" ∧ yX1_setFigure.cls ≠ "java/lang/invoke/VarHandle" ∧ (parseMethodDescriptor yX1_setFigure.desc).map (fun d => d.parameters.length) = some 2 := by decide +kernel
set_option maxRecDepth 100000 in
set_option maxHeartbeats 4000000 in
theorem c_X1_setFigure (l : Launch) (y : Sy) (k0 : Nat) (h0 : isC k0) (x1 : Int32) (x2 : Int32) (st : St) (K : St → Prop) (hw : w_X1_setFigure k0 x1 x2 st K) : Cv 107 enX l yX1_setFigure cX1_setFigure 3 none 1 22 y [.ref (ad y k0), .int x1, .int x2] st K := by
  refine ent (by decide) (Nat.le_of_ble_eq_true rfl) ?_
  intro p e s m below meth c C hG ls hl
  have hl : lv_has ls 3 [(0, .ref (ad y k0)), (1, .int x1), (2, .int x2)] := hl
  generalize ([.ref (ad y k0), .int x1, .int x2] : List Value).toArray = args at C ⊢
  have C : Sd p s m args meth c cX1_setFigure 3 RX1 none y := C
  obtain ⟨hx, hb, hml, hown, hts, hr, hlk, hK, hN⟩ := id C
  generalize s.heap = H at hG ⊢
  generalize ([] : List Loc) = locs at hG ⊢
  unfold w_X1_setFigure at hw
  refine lv_aload_n hx hb dX1_setFigure_0 rfl (lv_at hl 0 rfl) ?_
  refine r_get (C := RX1) (T := TX1) (Nf := 11) hx hb hts hown hK hG (isC.lt h0) (isC.e h0 y _) rfl inX1 1 (by decide) qF_X1_15 rfl dX1_setFigure_1 ?_
  refine lv_iload_n hx hb dX1_setFigure_4 rfl (lv_at hl 1 rfl) ?_
  refine lv_iload_n hx hb dX1_setFigure_5 rfl (lv_at hl 2 rfl) ?_
  refine r_kv (r_run_N (As := [.ref (ad y (k0 + 2)), .int x1, .int x2]) (rest := []) hx hb hml hown hts hK hN hG (c_X8_put l y (k0 + 2) 6 (isC.a2 h0) x1 x2 st _ hw) qM_X1_96 qT_X8_put qN_X8 qC_X8_put hd_X8_put ⟨Nat.le_of_ble_eq_true rfl, Nat.le_of_ble_eq_true rfl⟩ hl.1 rfl (Nat.le_of_ble_eq_true rfl) dX1_setFigure_6) hG (fun st6 H locs hw hG => ?_)
  exact r_vret hx hb hr hlk hK hG hw dX1_setFigure_9
theorem hd_X1_move : yX1_move.cls ≠ "java/lang/invoke/MethodHandle" ∧ yX1_move.cls ≠ "java/lang/invoke/VarHandle" ∧ (parseMethodDescriptor yX1_move.desc).map (fun d => d.parameters.length) = some 2 := by decide +kernel
set_option maxRecDepth 100000 in
set_option maxHeartbeats 4000000 in
theorem c_X1_move (l : Launch) (y : Sy) (k0 : Nat) (h0 : isC k0) (x1 : Int32) (x2 : Int32) (st : St) (K : St → Prop) (hw : w_X1_move k0 x1 x2 st K) : Cv 107 enX l yX1_move cX1_move 3 none 1 22 y [.ref (ad y k0), .int x1, .int x2] st K := by
  refine ent (by decide) (Nat.le_of_ble_eq_true rfl) ?_
  intro p e s m below meth c C hG ls hl
  have hl : lv_has ls 3 [(0, .ref (ad y k0)), (1, .int x1), (2, .int x2)] := hl
  generalize ([.ref (ad y k0), .int x1, .int x2] : List Value).toArray = args at C ⊢
  have C : Sd p s m args meth c cX1_move 3 RX1 none y := C
  obtain ⟨hx, hb, hml, hown, hts, hr, hlk, hK, hN⟩ := id C
  generalize s.heap = H at hG ⊢
  generalize ([] : List Loc) = locs at hG ⊢
  unfold w_X1_move at hw
  refine lv_aload_n hx hb dX1_move_0 rfl (lv_at hl 0 rfl) ?_
  refine r_get (C := RX1) (T := TX1) (Nf := 11) hx hb hts hown hK hG (isC.lt h0) (isC.e h0 y _) rfl inX1 2 (by decide) qF_X1_18 rfl dX1_move_1 ?_
  refine lv_iload_n hx hb dX1_move_4 rfl (lv_at hl 1 rfl) ?_
  refine lv_iload_n hx hb dX1_move_5 rfl (lv_at hl 2 rfl) ?_
  refine r_kv (r_run_N (As := [.ref (ad y (k0 + 3)), .int x1, .int x2]) (rest := []) hx hb hml hown hts hK hN hG (c_X8_put l y (k0 + 3) 6 (isC.a3 h0) x1 x2 st _ hw) qM_X1_96 qT_X8_put qN_X8 qC_X8_put hd_X8_put ⟨Nat.le_of_ble_eq_true rfl, Nat.le_of_ble_eq_true rfl⟩ hl.1 rfl (Nat.le_of_ble_eq_true rfl) dX1_move_6) hG (fun st6 H locs hw hG => ?_)
  exact r_vret hx hb hr hlk hK hG hw dX1_move_9
theorem hd_X1_turnSeal : yX1_turnSeal.cls ≠ "java/lang/invoke/MethodHandle" ∧ yX1_turnSeal.cls ≠ "java/lang/invoke/VarHandle" ∧ (parseMethodDescriptor yX1_turnSeal.desc).map (fun d => d.parameters.length) = some 1 := by decide +kernel
set_option maxRecDepth 100000 in
set_option maxHeartbeats 4000000 in
theorem c_X1_turnSeal (l : Launch) (y : Sy) (k0 : Nat) (h0 : isC k0) (x1 : Int32) (st : St) (K : St → Prop) (hw : w_X1_turnSeal k0 x1 st K) : Cv 107 enX l yX1_turnSeal cX1_turnSeal 2 none 1 21 y [.ref (ad y k0), .int x1] st K := by
  refine ent (by decide) (Nat.le_of_ble_eq_true rfl) ?_
  intro p e s m below meth c C hG ls hl
  have hl : lv_has ls 2 [(0, .ref (ad y k0)), (1, .int x1)] := hl
  generalize ([.ref (ad y k0), .int x1] : List Value).toArray = args at C ⊢
  have C : Sd p s m args meth c cX1_turnSeal 2 RX1 none y := C
  obtain ⟨hx, hb, hml, hown, hts, hr, hlk, hK, hN⟩ := id C
  generalize s.heap = H at hG ⊢
  generalize ([] : List Loc) = locs at hG ⊢
  unfold w_X1_turnSeal at hw
  refine lv_aload_n hx hb dX1_turnSeal_0 rfl (lv_at hl 0 rfl) ?_
  refine lv_iload_n hx hb dX1_turnSeal_1 rfl (lv_at hl 1 rfl) ?_
  refine r_ki (r_run_V (k := k0) (As := [.int x1]) (rest := []) hx hb hml hown hts hK hN hG (c_X1_hasLetter l y k0 h0 x1 st _ hw) (isC.lt h0) (isC.e h0 y _) rfl rfl qM_X1_104 qI_X1_hasLetter qS_X1_hasLetter qN_X1 qC_X1_hasLetter hd_X1_hasLetter ⟨Nat.le_of_ble_eq_true rfl, Nat.le_of_ble_eq_true rfl⟩ hl.1 rfl (Nat.le_of_ble_eq_true rfl) dX1_turnSeal_2) hG (fun r2 st2 H locs hw hG => ?_)
  refine lv_if_eq (tgt := 20) hx hb dX1_turnSeal_5 (by decide) (fun hc => ?_) (fun hc => ?_)
  · replace hw := hw.1 hc
    exact r_vret hx hb hr hlk hK hG hw dX1_turnSeal_20
  · replace hw := hw.2 hc
    refine lv_aload_n hx hb dX1_turnSeal_8 rfl (lv_at hl 0 rfl) ?_
    refine lv_dup hx hb dX1_turnSeal_9 rfl ?_
    refine r_get (C := RX1) (T := TX1) (Nf := 11) hx hb hts hown hK hG (isC.lt h0) (isC.e h0 y _) rfl inX1 9 (by decide) qF_X1_50 rfl dX1_turnSeal_10 ?_
    refine lv_iconst (v := 1) hx hb dX1_turnSeal_13 (by decide) ?_
    refine lv_iload_n hx hb dX1_turnSeal_14 rfl (lv_at hl 1 rfl) ?_
    refine lv_ishl hx hb dX1_turnSeal_15 ?_
    refine lv_ixor hx hb dX1_turnSeal_16 ?_
    refine r_put (C := RX1) (T := TX1) (Nf := 11) hx hb hts hown hK hG (isC.lt h0) (isC.e h0 y _) rfl inX1 tyX1_ok nmX1 9 (by decide) qF_X1_50 rfl ((st2 k0 9) ^^^ ((1 : Int32) <<< (x1 &&& 31))) (isC.p9 h0 y _ _) rfl rfl (Nat.le_of_ble_eq_true rfl) dX1_turnSeal_17 (fun H locs hG => ?_)
    exact r_vret hx hb hr hlk hK hG hw dX1_turnSeal_20
theorem hd_X8_twoName : yX8_twoName.cls ≠ "java/lang/invoke/MethodHandle" ∧ yX8_twoName.cls ≠ "java/lang/invoke/VarHandle" ∧ (parseMethodDescriptor yX8_twoName.desc).map (fun d => d.parameters.length) = some 2 := by decide +kernel
set_option maxRecDepth 100000 in
set_option maxHeartbeats 4000000 in
theorem c_X8_twoName (l : Launch) (y : Sy) (x0 : Int32) (x1 : Int32) (st : St) (K : Int32 → St → Prop) (hw : w_X8_twoName x0 x1 st K) : Ci 107 enX l yX8_twoName cX8_twoName 2 (some .int) 1 21 y [.int x0, .int x1] st K := by
  refine ent (by decide) (Nat.le_of_ble_eq_true rfl) ?_
  intro p e s m below meth c C hG ls hl
  have hl : lv_has ls 2 [(0, .int x0), (1, .int x1)] := hl
  generalize ([.int x0, .int x1] : List Value).toArray = args at C ⊢
  have C : Sd p s m args meth c cX8_twoName 2 RX8 (some .int) y := C
  obtain ⟨hx, hb, hml, hown, hts, hr, hlk, hK, hN⟩ := id C
  generalize s.heap = H at hG ⊢
  generalize ([] : List Loc) = locs at hG ⊢
  unfold w_X8_twoName at hw
  refine lv_bipush (v := 10) hx hb dX8_twoName_0 (by decide) ?_
  refine lv_iload_n hx hb dX8_twoName_2 rfl (lv_at hl 0 rfl) ?_
  refine lv_iload_n hx hb dX8_twoName_3 rfl (lv_at hl 1 rfl) ?_
  refine va_mmin hx hb (hml.trans hl.1.symm) hown (hts _ qM_X8_360) (hts _ qT_Lib_Math_min_name) (hts _ qN_J9) (hts _ qC_Lib_Math_min_name) (Nat.le_of_ble_eq_true rfl) (Nat.le_of_ble_eq_true rfl) (Nat.zero_le _) (Nat.zero_le _) dX8_twoName_4 ?_
  refine lv_imul hx hb dX8_twoName_7 ?_
  refine lv_iload_n hx hb dX8_twoName_8 rfl (lv_at hl 0 rfl) ?_
  refine lv_iload_n hx hb dX8_twoName_9 rfl (lv_at hl 1 rfl) ?_
  refine va_mmax hx hb (hml.trans hl.1.symm) hown (hts _ qM_X8_338) (hts _ qT_Lib_Math_max_name) (hts _ qN_J9) (hts _ qC_Lib_Math_max_name) (Nat.le_of_ble_eq_true rfl) (Nat.le_of_ble_eq_true rfl) (Nat.zero_le _) (Nat.zero_le _) dX8_twoName_10 ?_
  refine lv_iadd hx hb dX8_twoName_13 ?_
  exact r_iret hx hb hr hlk hK hG rfl hw dX8_twoName_14
set_option maxRecDepth 100000 in
set_option maxHeartbeats 4000000 in
theorem z_X1_opener_b106 {p : Program} {e : Env} {s : State} {m : MethodId} {args : Array Value} {below : List Frame} {meth : Method} {c : Code} (l : Launch) (y : Sy) (k0 : Nat) (h0 : isC k0) (x1 : Int32) (C : Sd p s m args meth c cX1_opener 9 RX1 (some .int) y) (c29 : Int32 → Int32 → Int32 → Int32 → Int32 → St → Prop) (c44 : Int32 → Int32 → Int32 → Int32 → Int32 → Int32 → St → Prop) (K : Int32 → St → Prop) (hc29 : ∀ (v2 : Int32) (v3 : Int32) (v4 : Int32) (v5 : Int32) (v6 : Int32) (st : St) (H : Heap) (locs : List Loc) (ls : Array Slot), gH 107 enX y st s H locs → lv_has ls 9 [(0, .ref (ad y k0)), (2, .int v2), (3, .int v3), (4, .int v4), (5, .int v5), (6, .int v6)] → c29 v2 v3 v4 v5 v6 st → W p l e (rmm 2 44) s m args below meth c H locs 0 0 (MQ below (va_Qi K (gB 107 enX y) (gA 107 y)) args s 0 0 (gA 107 y)) (F0 m 29 ls [])) (hc44 : ∀ (v2 : Int32) (v3 : Int32) (v4 : Int32) (v5 : Int32) (v6 : Int32) (v7 : Int32) (st : St) (H : Heap) (locs : List Loc) (ls : Array Slot), gH 107 enX y st s H locs → lv_has ls 9 [(0, .ref (ad y k0)), (2, .int v2), (3, .int v3), (4, .int v4), (5, .int v5), (6, .int v6), (7, .int v7)] → c44 v2 v3 v4 v5 v6 v7 st → W p l e (rmm 2 44) s m args below meth c H locs 0 0 (MQ below (va_Qi K (gB 107 enX y) (gA 107 y)) args s 0 0 (gA 107 y)) (F0 m 44 ls [])) (v2 : Int32) (v3 : Int32) (v4 : Int32) (v5 : Int32) (v6 : Int32) (v7 : Int32) (st : St) {H : Heap} {locs : List Loc} {ls : Array Slot} (hG : gH 107 enX y st s H locs) (hl : lv_has ls 9 [(0, .ref (ad y k0)), (2, .int v2), (3, .int v3), (4, .int v4), (5, .int v5), (6, .int v6), (7, .int v7)]) (hw : w_X1_opener_b106 k0 x1 c29 c44 K v2 v3 v4 v5 v6 v7 st) : W p l e (rmm 2 44) s m args below meth c H locs 0 0 (MQ below (va_Qi K (gB 107 enX y) (gA 107 y)) args s 0 0 (gA 107 y)) (F0 m 106 ls []) := by
  obtain ⟨hx, hb, hml, hown, hts, hr, hlk, hK, hN⟩ := id C
  unfold w_X1_opener_b106 at hw
  refine lv_iinc (v := (v7 + 1)) (lv' := [(7, .int (v7 + 1)), (0, .ref (ad y k0)), (2, .int v2), (3, .int v3), (4, .int v4), (5, .int v5), (6, .int v6)]) hx hb dX1_opener_106 hl (k := 6) rfl rfl (Nat.le_of_ble_eq_true rfl) rfl (fun ls hl => ?_)
  refine lv_goto (tgt := 44) hx hb dX1_opener_109 (by decide) ?_
  exact hc44 v2 v3 v4 v5 v6 (v7 + 1) st H locs _ hG (lv_sub hl [1, 2, 3, 4, 5, 6, 0] rfl) hw
set_option maxRecDepth 100000 in
set_option maxHeartbeats 4000000 in
theorem z_X1_opener_b78 {p : Program} {e : Env} {s : State} {m : MethodId} {args : Array Value} {below : List Frame} {meth : Method} {c : Code} (l : Launch) (y : Sy) (k0 : Nat) (h0 : isC k0) (x1 : Int32) (C : Sd p s m args meth c cX1_opener 9 RX1 (some .int) y) (c29 : Int32 → Int32 → Int32 → Int32 → Int32 → St → Prop) (c44 : Int32 → Int32 → Int32 → Int32 → Int32 → Int32 → St → Prop) (K : Int32 → St → Prop) (hc29 : ∀ (v2 : Int32) (v3 : Int32) (v4 : Int32) (v5 : Int32) (v6 : Int32) (st : St) (H : Heap) (locs : List Loc) (ls : Array Slot), gH 107 enX y st s H locs → lv_has ls 9 [(0, .ref (ad y k0)), (2, .int v2), (3, .int v3), (4, .int v4), (5, .int v5), (6, .int v6)] → c29 v2 v3 v4 v5 v6 st → W p l e (rmm 2 44) s m args below meth c H locs 0 0 (MQ below (va_Qi K (gB 107 enX y) (gA 107 y)) args s 0 0 (gA 107 y)) (F0 m 29 ls [])) (hc44 : ∀ (v2 : Int32) (v3 : Int32) (v4 : Int32) (v5 : Int32) (v6 : Int32) (v7 : Int32) (st : St) (H : Heap) (locs : List Loc) (ls : Array Slot), gH 107 enX y st s H locs → lv_has ls 9 [(0, .ref (ad y k0)), (2, .int v2), (3, .int v3), (4, .int v4), (5, .int v5), (6, .int v6), (7, .int v7)] → c44 v2 v3 v4 v5 v6 v7 st → W p l e (rmm 2 44) s m args below meth c H locs 0 0 (MQ below (va_Qi K (gB 107 enX y) (gA 107 y)) args s 0 0 (gA 107 y)) (F0 m 44 ls [])) (v2 : Int32) (v3 : Int32) (v4 : Int32) (v5 : Int32) (v6 : Int32) (v7 : Int32) (s0 : Int32) (st : St) {H : Heap} {locs : List Loc} {ls : Array Slot} (hG : gH 107 enX y st s H locs) (hl : lv_has ls 9 [(0, .ref (ad y k0)), (2, .int v2), (3, .int v3), (4, .int v4), (5, .int v5), (6, .int v6), (7, .int v7)]) (hw : w_X1_opener_b78 k0 x1 c29 c44 K v2 v3 v4 v5 v6 v7 s0 st) : W p l e (rmm 2 44) s m args below meth c H locs 0 0 (MQ below (va_Qi K (gB 107 enX y) (gA 107 y)) args s 0 0 (gA 107 y)) (F0 m 78 ls [.int s0]) := by
  obtain ⟨hx, hb, hml, hown, hts, hr, hlk, hK, hN⟩ := id C
  unfold w_X1_opener_b78 at hw
  refine lv_istore (lv' := [(8, .int s0), (0, .ref (ad y k0)), (2, .int v2), (3, .int v3), (4, .int v4), (5, .int v5), (6, .int v6), (7, .int v7)]) hx hb dX1_opener_78 hl (Nat.le_of_ble_eq_true rfl) rfl (fun ls hl => ?_)
  refine lv_iload hx hb dX1_opener_80 (lv_at hl 0 rfl) ?_
  refine lv_iload_n hx hb dX1_opener_82 rfl (lv_at hl 3 rfl) ?_
  refine lv_icmp_lt (tgt := 106) hx hb dX1_opener_83 (by decide) (fun hc => ?_) (fun hc => ?_)
  · replace hw := hw.1 hc
    exact z_X1_opener_b106 l y k0 h0 x1 C c29 c44 K hc29 hc44 v2 v3 v4 v5 v6 v7 st hG (lv_sub hl [1, 2, 3, 4, 5, 6, 7] rfl) hw
  · replace hw := hw.2 hc
    refine lv_iload hx hb dX1_opener_86 (lv_at hl 0 rfl) ?_
    refine lv_iload hx hb dX1_opener_88 (lv_at hl 5 rfl) ?_
    refine lv_icmp_ge (tgt := 106) hx hb dX1_opener_90 (by decide) (fun hc => ?_) (fun hc => ?_)
    · replace hw := hw.1 hc
      exact z_X1_opener_b106 l y k0 h0 x1 C c29 c44 K hc29 hc44 v2 v3 v4 v5 v6 v7 st hG (lv_sub hl [1, 2, 3, 4, 5, 6, 7] rfl) hw
    · replace hw := hw.2 hc
      refine lv_iload hx hb dX1_opener_93 (lv_at hl 6 rfl) ?_
      refine lv_iload hx hb dX1_opener_95 (lv_at hl 7 rfl) ?_
      refine r_ki (r_run_N (As := [.int v6, .int v7]) (rest := []) hx hb hml hown hts hK hN hG (c_X8_twoName l y v6 v7 st _ hw) qM_X1_111 qT_X8_twoName qN_X8 qC_X8_twoName hd_X8_twoName ⟨Nat.le_of_ble_eq_true rfl, Nat.le_of_ble_eq_true rfl⟩ hl.1 rfl (Nat.le_of_ble_eq_true rfl) dX1_opener_97) hG (fun r97 st97 H locs hw hG => ?_)
      refine lv_istore (lv' := [(4, .int r97), (8, .int s0), (0, .ref (ad y k0)), (2, .int v2), (3, .int v3), (5, .int v5), (6, .int v6), (7, .int v7)]) hx hb dX1_opener_100 hl (Nat.le_of_ble_eq_true rfl) rfl (fun ls hl => ?_)
      refine lv_iload hx hb dX1_opener_102 (lv_at hl 1 rfl) ?_
      refine lv_istore (lv' := [(5, .int s0), (4, .int r97), (8, .int s0), (0, .ref (ad y k0)), (2, .int v2), (3, .int v3), (6, .int v6), (7, .int v7)]) hx hb dX1_opener_104 hl (Nat.le_of_ble_eq_true rfl) rfl (fun ls hl => ?_)
      exact z_X1_opener_b106 l y k0 h0 x1 C c29 c44 K hc29 hc44 v2 v3 r97 s0 v6 v7 st97 hG (lv_sub hl [3, 4, 5, 1, 0, 6, 7] rfl) hw
set_option maxRecDepth 100000 in
set_option maxHeartbeats 4000000 in
theorem z_X1_opener_b112 {p : Program} {e : Env} {s : State} {m : MethodId} {args : Array Value} {below : List Frame} {meth : Method} {c : Code} (l : Launch) (y : Sy) (k0 : Nat) (h0 : isC k0) (x1 : Int32) (C : Sd p s m args meth c cX1_opener 9 RX1 (some .int) y) (c29 : Int32 → Int32 → Int32 → Int32 → Int32 → St → Prop) (K : Int32 → St → Prop) (hc29 : ∀ (v2 : Int32) (v3 : Int32) (v4 : Int32) (v5 : Int32) (v6 : Int32) (st : St) (H : Heap) (locs : List Loc) (ls : Array Slot), gH 107 enX y st s H locs → lv_has ls 9 [(0, .ref (ad y k0)), (2, .int v2), (3, .int v3), (4, .int v4), (5, .int v5), (6, .int v6)] → c29 v2 v3 v4 v5 v6 st → W p l e (rmm 2 44) s m args below meth c H locs 0 0 (MQ below (va_Qi K (gB 107 enX y) (gA 107 y)) args s 0 0 (gA 107 y)) (F0 m 29 ls [])) (v2 : Int32) (v3 : Int32) (v4 : Int32) (v5 : Int32) (v6 : Int32) (st : St) {H : Heap} {locs : List Loc} {ls : Array Slot} (hG : gH 107 enX y st s H locs) (hl : lv_has ls 9 [(0, .ref (ad y k0)), (2, .int v2), (3, .int v3), (4, .int v4), (5, .int v5), (6, .int v6)]) (hw : w_X1_opener_b112 k0 x1 c29 K v2 v3 v4 v5 v6 st) : W p l e (rmm 2 44) s m args below meth c H locs 0 0 (MQ below (va_Qi K (gB 107 enX y) (gA 107 y)) args s 0 0 (gA 107 y)) (F0 m 112 ls []) := by
  obtain ⟨hx, hb, hml, hown, hts, hr, hlk, hK, hN⟩ := id C
  unfold w_X1_opener_b112 at hw
  refine lv_iinc (v := (v6 + 1)) (lv' := [(6, .int (v6 + 1)), (0, .ref (ad y k0)), (2, .int v2), (3, .int v3), (4, .int v4), (5, .int v5)]) hx hb dX1_opener_112 hl (k := 5) rfl rfl (Nat.le_of_ble_eq_true rfl) rfl (fun ls hl => ?_)
  refine lv_goto (tgt := 29) hx hb dX1_opener_115 (by decide) ?_
  exact hc29 v2 v3 v4 v5 (v6 + 1) st H locs _ hG (lv_sub hl [1, 2, 3, 4, 5, 0] rfl) hw
set_option maxRecDepth 100000 in
set_option maxHeartbeats 4000000 in
theorem z_X1_opener_L44 {p : Program} {e : Env} {s : State} {m : MethodId} {args : Array Value} {below : List Frame} {meth : Method} {c : Code} (l : Launch) (y : Sy) (k0 : Nat) (h0 : isC k0) (x1 : Int32) (C : Sd p s m args meth c cX1_opener 9 RX1 (some .int) y) (c29 : Int32 → Int32 → Int32 → Int32 → Int32 → St → Prop) (K : Int32 → St → Prop) (hc29 : ∀ (v2 : Int32) (v3 : Int32) (v4 : Int32) (v5 : Int32) (v6 : Int32) (st : St) (H : Heap) (locs : List Loc) (ls : Array Slot), gH 107 enX y st s H locs → lv_has ls 9 [(0, .ref (ad y k0)), (2, .int v2), (3, .int v3), (4, .int v4), (5, .int v5), (6, .int v6)] → c29 v2 v3 v4 v5 v6 st → W p l e (rmm 2 44) s m args below meth c H locs 0 0 (MQ below (va_Qi K (gB 107 enX y) (gA 107 y)) args s 0 0 (gA 107 y)) (F0 m 29 ls [])) : ∀ (n : Nat) (v2 : Int32) (v3 : Int32) (v4 : Int32) (v5 : Int32) (v6 : Int32) (v7 : Int32) (st : St) (H : Heap) (locs : List Loc) (ls : Array Slot), gH 107 enX y st s H locs → lv_has ls 9 [(0, .ref (ad y k0)), (2, .int v2), (3, .int v3), (4, .int v4), (5, .int v5), (6, .int v6), (7, .int v7)] → w_X1_opener_L44 k0 x1 c29 K n v2 v3 v4 v5 v6 v7 st → W p l e (rmm 2 44) s m args below meth c H locs 0 0 (MQ below (va_Qi K (gB 107 enX y) (gA 107 y)) args s 0 0 (gA 107 y)) (F0 m 44 ls []) := by
  obtain ⟨hx, hb, hml, hown, hts, hr, hlk, hK, hN⟩ := id C
  intro n
  induction n with
  | zero => intro v2 v3 v4 v5 v6 v7 st H locs ls hG hl hw; exact False.elim hw
  | succ n hc44 =>
    intro v2 v3 v4 v5 v6 v7 st H locs ls hG hl hw
    have hw : w_X1_opener_L44q k0 x1 c29 K (fun v2 v3 v4 v5 v6 v7 st => w_X1_opener_L44 k0 x1 c29 K n v2 v3 v4 v5 v6 v7 st) v2 v3 v4 v5 v6 v7 st := hw
    unfold w_X1_opener_L44q at hw
    refine lv_iload hx hb dX1_opener_44 (lv_at hl 6 rfl) ?_
    refine lv_aload_n hx hb dX1_opener_46 rfl (lv_at hl 0 rfl) ?_
    refine r_get (C := RX1) (T := TX1) (Nf := 11) hx hb hts hown hK hG (isC.lt h0) (isC.e h0 y _) rfl inX1 7 (by decide) qF_X1_43 rfl dX1_opener_47 ?_
    refine lv_icmp_ge (tgt := 112) hx hb dX1_opener_50 (by decide) (fun hc => ?_) (fun hc => ?_)
    · replace hw := hw.1 hc
      exact z_X1_opener_b112 l y k0 h0 x1 C c29 K hc29 v2 v3 v4 v5 v6 st hG (lv_sub hl [0, 1, 2, 3, 4, 5] rfl) hw
    · replace hw := hw.2 hc
      refine lv_aload_n hx hb dX1_opener_53 rfl (lv_at hl 0 rfl) ?_
      refine lv_iload_n hx hb dX1_opener_54 rfl (lv_at hl 1 rfl) ?_
      refine lv_iload hx hb dX1_opener_55 (lv_at hl 5 rfl) ?_
      refine lv_iload hx hb dX1_opener_57 (lv_at hl 6 rfl) ?_
      refine r_ki (r_run_V (k := k0) (As := [.int v2, .int v6, .int v7]) (rest := []) hx hb hml hown hts hK hN hG (c_X1_areBothIn l y k0 h0 v2 v6 v7 st _ hw) (isC.lt h0) (isC.e h0 y _) rfl rfl qM_X1_107 qI_X1_areBothIn qS_X1_areBothIn qN_X1 qC_X1_areBothIn hd_X1_areBothIn ⟨Nat.le_of_ble_eq_true rfl, Nat.le_of_ble_eq_true rfl⟩ hl.1 rfl (Nat.le_of_ble_eq_true rfl) dX1_opener_59) hG (fun r59 st59 H locs hw hG => ?_)
      refine lv_if_eq (tgt := 76) hx hb dX1_opener_62 (by decide) (fun hc => ?_) (fun hc => ?_)
      · replace hw := hw.1 hc
        refine lv_bipush (v := (-9)) hx hb dX1_opener_76 (by decide) ?_
        exact z_X1_opener_b78 l y k0 h0 x1 C c29 (fun v2 v3 v4 v5 v6 v7 st => w_X1_opener_L44 k0 x1 c29 K n v2 v3 v4 v5 v6 v7 st) K hc29 hc44 v2 v3 v4 v5 v6 v7 (-9) st59 hG (lv_sub hl [0, 1, 2, 3, 4, 5, 6] rfl) hw
      · replace hw := hw.2 hc
        refine lv_aload_n hx hb dX1_opener_65 rfl (lv_at hl 0 rfl) ?_
        refine lv_iload hx hb dX1_opener_66 (lv_at hl 5 rfl) ?_
        refine lv_iload hx hb dX1_opener_68 (lv_at hl 6 rfl) ?_
        refine r_ki (r_run_V (k := k0) (As := [.int v6, .int v7]) (rest := []) hx hb hml hown hts hK hN hG (c_X1_hateOf l y k0 h0 v6 v7 st59 _ hw) (isC.lt h0) (isC.e h0 y _) rfl rfl qM_X1_93 qI_X1_hateOf qS_X1_hateOf qN_X1 qC_X1_hateOf hd_X1_hateOf ⟨Nat.le_of_ble_eq_true rfl, Nat.le_of_ble_eq_true rfl⟩ hl.1 rfl (Nat.le_of_ble_eq_true rfl) dX1_opener_70) hG (fun r70 st70 H locs hw hG => ?_)
        refine lv_goto (tgt := 78) hx hb dX1_opener_73 (by decide) ?_
        exact z_X1_opener_b78 l y k0 h0 x1 C c29 (fun v2 v3 v4 v5 v6 v7 st => w_X1_opener_L44 k0 x1 c29 K n v2 v3 v4 v5 v6 v7 st) K hc29 hc44 v2 v3 v4 v5 v6 v7 r70 st70 hG (lv_sub hl [0, 1, 2, 3, 4, 5, 6] rfl) hw
set_option maxRecDepth 100000 in
set_option maxHeartbeats 4000000 in
theorem z_X1_opener_L29 {p : Program} {e : Env} {s : State} {m : MethodId} {args : Array Value} {below : List Frame} {meth : Method} {c : Code} (l : Launch) (y : Sy) (k0 : Nat) (h0 : isC k0) (x1 : Int32) (C : Sd p s m args meth c cX1_opener 9 RX1 (some .int) y)  (K : Int32 → St → Prop)  : ∀ (n : Nat) (v2 : Int32) (v3 : Int32) (v4 : Int32) (v5 : Int32) (v6 : Int32) (st : St) (H : Heap) (locs : List Loc) (ls : Array Slot), gH 107 enX y st s H locs → lv_has ls 9 [(0, .ref (ad y k0)), (2, .int v2), (3, .int v3), (4, .int v4), (5, .int v5), (6, .int v6)] → w_X1_opener_L29 k0 x1  K n v2 v3 v4 v5 v6 st → W p l e (rmm 2 44) s m args below meth c H locs 0 0 (MQ below (va_Qi K (gB 107 enX y) (gA 107 y)) args s 0 0 (gA 107 y)) (F0 m 29 ls []) := by
  obtain ⟨hx, hb, hml, hown, hts, hr, hlk, hK, hN⟩ := id C
  intro n
  induction n with
  | zero => intro v2 v3 v4 v5 v6 st H locs ls hG hl hw; exact False.elim hw
  | succ n hc29 =>
    intro v2 v3 v4 v5 v6 st H locs ls hG hl hw
    have hw : w_X1_opener_L29q k0 x1  K (fun v2 v3 v4 v5 v6 st => w_X1_opener_L29 k0 x1  K n v2 v3 v4 v5 v6 st) v2 v3 v4 v5 v6 st := hw
    unfold w_X1_opener_L29q at hw
    refine lv_iload hx hb dX1_opener_29 (lv_at hl 5 rfl) ?_
    refine lv_aload_n hx hb dX1_opener_31 rfl (lv_at hl 0 rfl) ?_
    refine r_get (C := RX1) (T := TX1) (Nf := 11) hx hb hts hown hK hG (isC.lt h0) (isC.e h0 y _) rfl inX1 7 (by decide) qF_X1_43 rfl dX1_opener_32 ?_
    refine lv_icmp_ge (tgt := 118) hx hb dX1_opener_35 (by decide) (fun hc => ?_) (fun hc => ?_)
    · replace hw := hw.1 hc
      refine lv_iload hx hb dX1_opener_118 (lv_at hl 3 rfl) ?_
      exact r_iret hx hb hr hlk hK hG rfl hw dX1_opener_120
    · replace hw := hw.2 hc
      refine lv_iload hx hb dX1_opener_38 (lv_at hl 5 rfl) ?_
      refine lv_iconst (v := 1) hx hb dX1_opener_40 (by decide) ?_
      refine lv_iadd hx hb dX1_opener_41 ?_
      refine lv_istore (lv' := [(7, .int (v6 + 1)), (0, .ref (ad y k0)), (2, .int v2), (3, .int v3), (4, .int v4), (5, .int v5), (6, .int v6)]) hx hb dX1_opener_42 hl (Nat.le_of_ble_eq_true rfl) rfl (fun ls hl => ?_)
      obtain ⟨n44, hw⟩ := hw
      exact z_X1_opener_L44 l y k0 h0 x1 C (fun v2 v3 v4 v5 v6 st => w_X1_opener_L29 k0 x1  K n v2 v3 v4 v5 v6 st) K hc29 n44 v2 v3 v4 v5 v6 (v6 + 1) st H locs _ hG (lv_sub hl [1, 2, 3, 4, 5, 6, 0] rfl) hw
theorem hd_X1_opener : yX1_opener.cls ≠ "java/lang/invoke/MethodHandle" ∧ yX1_opener.cls ≠ "java/lang/invoke/VarHandle" ∧ (parseMethodDescriptor yX1_opener.desc).map (fun d => d.parameters.length) = some 1 := by decide +kernel
set_option maxRecDepth 100000 in
set_option maxHeartbeats 4000000 in
theorem c_X1_opener (l : Launch) (y : Sy) (k0 : Nat) (h0 : isC k0) (x1 : Int32) (st : St) (K : Int32 → St → Prop) (hw : w_X1_opener k0 x1 st K) : Ci 107 enX l yX1_opener cX1_opener 9 (some .int) 2 44 y [.ref (ad y k0), .int x1] st K := by
  refine ent (by decide) (Nat.le_of_ble_eq_true rfl) ?_
  intro p e s m below meth c C hG ls hl
  have hl : lv_has ls 9 [(0, .ref (ad y k0)), (1, .int x1)] := hl
  generalize ([.ref (ad y k0), .int x1] : List Value).toArray = args at C ⊢
  have C : Sd p s m args meth c cX1_opener 9 RX1 (some .int) y := C
  obtain ⟨hx, hb, hml, hown, hts, hr, hlk, hK, hN⟩ := id C
  generalize s.heap = H at hG ⊢
  generalize ([] : List Loc) = locs at hG ⊢
  unfold w_X1_opener at hw
  refine lv_aload_n hx hb dX1_opener_0 rfl (lv_at hl 0 rfl) ?_
  refine r_get (C := RX1) (T := TX1) (Nf := 11) hx hb hts hown hK hG (isC.lt h0) (isC.e h0 y _) rfl inX1 5 (by decide) qF_X1_27 rfl dX1_opener_1 ?_
  refine lv_iload_n hx hb dX1_opener_4 rfl (lv_at hl 1 rfl) ?_
  refine r_ki (r_run_N (As := [.ref (ad y (k0 + 6)), .int x1]) (rest := []) hx hb hml hown hts hK hN hG (c_X8_at l y (k0 + 6) 6 (isC.a6 h0) x1 st _ hw) qM_X1_66 qT_X8_at qN_X8 qC_X8_at hd_X8_at ⟨Nat.le_of_ble_eq_true rfl, Nat.le_of_ble_eq_true rfl⟩ hl.1 rfl (Nat.le_of_ble_eq_true rfl) dX1_opener_5) hG (fun r5 st5 H locs hw hG => ?_)
  refine lv_istore_n (lv' := [(2, .int r5), (0, .ref (ad y k0)), (1, .int x1)]) hx hb dX1_opener_8 rfl hl (Nat.le_of_ble_eq_true rfl) rfl (fun ls hl => ?_)
  refine lv_aload_n hx hb dX1_opener_9 rfl (lv_at hl 1 rfl) ?_
  refine r_get (C := RX1) (T := TX1) (Nf := 11) hx hb hts hown hK hG (isC.lt h0) (isC.e h0 y _) rfl inX1 4 (by decide) qF_X1_24 rfl dX1_opener_10 ?_
  refine lv_iload_n hx hb dX1_opener_13 rfl (lv_at hl 2 rfl) ?_
  refine r_ki (r_run_N (As := [.ref (ad y (k0 + 5)), .int x1]) (rest := []) hx hb hml hown hts hK hN hG (c_X8_at l y (k0 + 5) 6 (isC.a5 h0) x1 st5 _ hw) qM_X1_66 qT_X8_at qN_X8 qC_X8_at hd_X8_at ⟨Nat.le_of_ble_eq_true rfl, Nat.le_of_ble_eq_true rfl⟩ hl.1 rfl (Nat.le_of_ble_eq_true rfl) dX1_opener_14) hG (fun r14 st14 H locs hw hG => ?_)
  refine lv_istore_n (lv' := [(3, .int r14), (2, .int r5), (0, .ref (ad y k0)), (1, .int x1)]) hx hb dX1_opener_17 rfl hl (Nat.le_of_ble_eq_true rfl) rfl (fun ls hl => ?_)
  refine lv_bipush (v := (-9)) hx hb dX1_opener_18 (by decide) ?_
  refine lv_istore (lv' := [(4, .int (-9)), (3, .int r14), (2, .int r5), (0, .ref (ad y k0)), (1, .int x1)]) hx hb dX1_opener_20 hl (Nat.le_of_ble_eq_true rfl) rfl (fun ls hl => ?_)
  refine lv_bipush (v := 100) hx hb dX1_opener_22 (by decide) ?_
  refine lv_istore (lv' := [(5, .int 100), (4, .int (-9)), (3, .int r14), (2, .int r5), (0, .ref (ad y k0)), (1, .int x1)]) hx hb dX1_opener_24 hl (Nat.le_of_ble_eq_true rfl) rfl (fun ls hl => ?_)
  refine lv_iconst (v := 0) hx hb dX1_opener_26 (by decide) ?_
  refine lv_istore (lv' := [(6, .int 0), (5, .int 100), (4, .int (-9)), (3, .int r14), (2, .int r5), (0, .ref (ad y k0)), (1, .int x1)]) hx hb dX1_opener_27 hl (Nat.le_of_ble_eq_true rfl) rfl (fun ls hl => ?_)
  obtain ⟨n29, hw⟩ := hw
  exact z_X1_opener_L29 l y k0 h0 x1 C  K  n29 r5 r14 (-9) 100 0 st14 H locs _ hG (lv_sub hl [5, 4, 3, 2, 1, 0] rfl) hw
theorem hd_X1_change : yX1_change.cls ≠ "java/lang/invoke/MethodHandle" ∧ yX1_change.cls ≠ "java/lang/invoke/VarHandle" ∧ (parseMethodDescriptor yX1_change.desc).map (fun d => d.parameters.length) = some 2 := by decide +kernel
set_option maxRecDepth 100000 in
set_option maxHeartbeats 4000000 in
theorem c_X1_change (l : Launch) (y : Sy) (k0 : Nat) (h0 : isC k0) (x1 : Int32) (x2 : Int32) (st : St) (K : Int32 → St → Prop) (hw : w_X1_change k0 x1 x2 st K) : Ci 107 enX l yX1_change cX1_change 5 (some .int) 2 42 y [.ref (ad y k0), .int x1, .int x2] st K := by
  refine ent (by decide) (Nat.le_of_ble_eq_true rfl) ?_
  intro p e s m below meth c C hG ls hl
  have hl : lv_has ls 5 [(0, .ref (ad y k0)), (1, .int x1), (2, .int x2)] := hl
  generalize ([.ref (ad y k0), .int x1, .int x2] : List Value).toArray = args at C ⊢
  have C : Sd p s m args meth c cX1_change 5 RX1 (some .int) y := C
  obtain ⟨hx, hb, hml, hown, hts, hr, hlk, hK, hN⟩ := id C
  generalize s.heap = H at hG ⊢
  generalize ([] : List Loc) = locs at hG ⊢
  unfold w_X1_change at hw
  refine lv_aload_n hx hb dX1_change_0 rfl (lv_at hl 0 rfl) ?_
  refine r_get (C := RX1) (T := TX1) (Nf := 11) hx hb hts hown hK hG (isC.lt h0) (isC.e h0 y _) rfl inX1 2 (by decide) qF_X1_18 rfl dX1_change_1 ?_
  refine lv_iload_n hx hb dX1_change_4 rfl (lv_at hl 1 rfl) ?_
  refine r_ki (r_run_N (As := [.ref (ad y (k0 + 3)), .int x1]) (rest := []) hx hb hml hown hts hK hN hG (c_X8_at l y (k0 + 3) 6 (isC.a3 h0) x1 st _ hw) qM_X1_66 qT_X8_at qN_X8 qC_X8_at hd_X8_at ⟨Nat.le_of_ble_eq_true rfl, Nat.le_of_ble_eq_true rfl⟩ hl.1 rfl (Nat.le_of_ble_eq_true rfl) dX1_change_5) hG (fun r5 st5 H locs hw hG => ?_)
  refine lv_istore_n (lv' := [(3, .int r5), (0, .ref (ad y k0)), (1, .int x1), (2, .int x2)]) hx hb dX1_change_8 rfl hl (Nat.le_of_ble_eq_true rfl) rfl (fun ls hl => ?_)
  refine lv_aload_n hx hb dX1_change_9 rfl (lv_at hl 1 rfl) ?_
  refine r_get (C := RX1) (T := TX1) (Nf := 11) hx hb hts hown hK hG (isC.lt h0) (isC.e h0 y _) rfl inX1 2 (by decide) qF_X1_18 rfl dX1_change_10 ?_
  refine lv_iload_n hx hb dX1_change_13 rfl (lv_at hl 3 rfl) ?_
  refine r_ki (r_run_N (As := [.ref (ad y (k0 + 3)), .int x2]) (rest := []) hx hb hml hown hts hK hN hG (c_X8_at l y (k0 + 3) 6 (isC.a3 h0) x2 st5 _ hw) qM_X1_66 qT_X8_at qN_X8 qC_X8_at hd_X8_at ⟨Nat.le_of_ble_eq_true rfl, Nat.le_of_ble_eq_true rfl⟩ hl.1 rfl (Nat.le_of_ble_eq_true rfl) dX1_change_14) hG (fun r14 st14 H locs hw hG => ?_)
  refine lv_istore (lv' := [(4, .int r14), (3, .int r5), (0, .ref (ad y k0)), (1, .int x1), (2, .int x2)]) hx hb dX1_change_17 hl (Nat.le_of_ble_eq_true rfl) rfl (fun ls hl => ?_)
  refine lv_iload_n hx hb dX1_change_19 rfl (lv_at hl 1 rfl) ?_
  refine lv_iconst (v := (-1)) hx hb dX1_change_20 (by decide) ?_
  refine lv_icmp_eq (tgt := 30) hx hb dX1_change_21 (by decide) (fun hc => ?_) (fun hc => ?_)
  · replace hw := hw.1 hc
    refine lv_iconst (v := 0) hx hb dX1_change_30 (by decide) ?_
    exact r_iret hx hb hr hlk hK hG rfl hw dX1_change_31
  · replace hw := hw.2 hc
    refine lv_iload hx hb dX1_change_24 (lv_at hl 0 rfl) ?_
    refine lv_iconst (v := (-1)) hx hb dX1_change_26 (by decide) ?_
    refine lv_icmp_ne (tgt := 32) hx hb dX1_change_27 (by decide) (fun hc => ?_) (fun hc => ?_)
    · replace hw := hw.1 hc
      refine lv_iload_n hx hb dX1_change_32 rfl (lv_at hl 1 rfl) ?_
      refine lv_iload hx hb dX1_change_33 (lv_at hl 0 rfl) ?_
      refine lv_icmp_ne (tgt := 53) hx hb dX1_change_35 (by decide) (fun hc => ?_) (fun hc => ?_)
      · replace hw := hw.1 hc
        refine lv_aload_n hx hb dX1_change_53 rfl (lv_at hl 2 rfl) ?_
        refine lv_iload_n hx hb dX1_change_54 rfl (lv_at hl 3 rfl) ?_
        refine r_ki (r_run_V (k := k0) (As := [.int x1]) (rest := []) hx hb hml hown hts hK hN hG (c_X1_stirOf l y k0 h0 x1 st14 _ hw) (isC.lt h0) (isC.e h0 y _) rfl rfl qM_X1_133 qI_X1_stirOf qS_X1_stirOf qN_X1 qC_X1_stirOf hd_X1_stirOf ⟨Nat.le_of_ble_eq_true rfl, Nat.le_of_ble_eq_true rfl⟩ hl.1 rfl (Nat.le_of_ble_eq_true rfl) dX1_change_55) hG (fun r55 st55 H locs hw hG => ?_)
        refine lv_aload_n hx hb dX1_change_58 rfl (lv_at hl 2 rfl) ?_
        refine lv_iload_n hx hb dX1_change_59 rfl (lv_at hl 4 rfl) ?_
        refine r_ki (r_run_V (k := k0) (As := [.int x2]) (rest := [.int r55]) hx hb hml hown hts hK hN hG (c_X1_stirOf l y k0 h0 x2 st55 _ hw) (isC.lt h0) (isC.e h0 y _) rfl rfl qM_X1_133 qI_X1_stirOf qS_X1_stirOf qN_X1 qC_X1_stirOf hd_X1_stirOf ⟨Nat.le_of_ble_eq_true rfl, Nat.le_of_ble_eq_true rfl⟩ hl.1 rfl (Nat.le_of_ble_eq_true rfl) dX1_change_60) hG (fun r60 st60 H locs hw hG => ?_)
        refine lv_iadd hx hb dX1_change_63 ?_
        exact r_iret hx hb hr hlk hK hG rfl hw dX1_change_64
      · replace hw := hw.2 hc
        refine lv_aload_n hx hb dX1_change_38 rfl (lv_at hl 2 rfl) ?_
        refine lv_iload_n hx hb dX1_change_39 rfl (lv_at hl 3 rfl) ?_
        refine r_ki (r_run_V (k := k0) (As := [.int x1]) (rest := []) hx hb hml hown hts hK hN hG (c_X1_fadeOf l y k0 h0 x1 st14 _ hw) (isC.lt h0) (isC.e h0 y _) rfl rfl qM_X1_130 qI_X1_fadeOf qS_X1_fadeOf qN_X1 qC_X1_fadeOf hd_X1_fadeOf ⟨Nat.le_of_ble_eq_true rfl, Nat.le_of_ble_eq_true rfl⟩ hl.1 rfl (Nat.le_of_ble_eq_true rfl) dX1_change_40) hG (fun r40 st40 H locs hw hG => ?_)
        refine lv_ineg hx hb dX1_change_43 ?_
        refine lv_aload_n hx hb dX1_change_44 rfl (lv_at hl 2 rfl) ?_
        refine lv_iload_n hx hb dX1_change_45 rfl (lv_at hl 4 rfl) ?_
        refine r_ki (r_run_V (k := k0) (As := [.int x2]) (rest := [.int (-r40)]) hx hb hml hown hts hK hN hG (c_X1_fadeOf l y k0 h0 x2 st40 _ hw) (isC.lt h0) (isC.e h0 y _) rfl rfl qM_X1_130 qI_X1_fadeOf qS_X1_fadeOf qN_X1 qC_X1_fadeOf hd_X1_fadeOf ⟨Nat.le_of_ble_eq_true rfl, Nat.le_of_ble_eq_true rfl⟩ hl.1 rfl (Nat.le_of_ble_eq_true rfl) dX1_change_46) hG (fun r46 st46 H locs hw hG => ?_)
        refine lv_isub hx hb dX1_change_49 ?_
        refine lv_goto (tgt := 64) hx hb dX1_change_50 (by decide) ?_
        exact r_iret hx hb hr hlk hK hG rfl hw dX1_change_64
    · replace hw := hw.2 hc
      refine lv_iconst (v := 0) hx hb dX1_change_30 (by decide) ?_
      exact r_iret hx hb hr hlk hK hG rfl hw dX1_change_31
