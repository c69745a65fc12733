theorem hd_X9_no : yX9_no.cls ≠ "java/lang/invoke/MethodHandle" ∧ yX9_no.cls ≠ "java/lang/invoke/VarHandle" ∧ (parseMethodDescriptor yX9_no.desc).map (fun d => d.parameters.length) = some 1 := by decide +kernel
set_option maxRecDepth 100000 in
set_option maxHeartbeats 4000000 in
theorem c_X9_no (l : Launch) (y : Sy) (x1 : Int32) (st : St) (K : Int32 → St → Prop) (hw : w_X9_no x1 st K) : Ci 17 enM l yX9_no cX9_no 2 (some .int) 0 0 y [.ref (ad y 0), .int x1] st K := by
  refine ent (by decide) (Nat.le_of_ble_eq_true rfl) ?_
  intro p e s m below meth c C hG ls hl
  have hl : lv_has ls 2 [(0, .ref (ad y 0)), (1, .int x1)] := hl
  generalize ([.ref (ad y 0), .int x1] : List Value).toArray = args at C ⊢
  have C : Sd p s m args meth c cX9_no 2 RX9 (some .int) y := C
  obtain ⟨hx, hb, hml, hown, hts, hr, hlk, hK, hN⟩ := id C
  generalize s.heap = H at hG ⊢
  generalize ([] : List Loc) = locs at hG ⊢
  unfold w_X9_no at hw
  refine lv_aload_n hx hb dX9_no_0 rfl (lv_at hl 0 rfl) ?_
  refine r_get (C := RX9) (T := TX9) (Nf := 31) hx hb hts hown hK hG (by decide) rfl rfl inX9 0 (by decide) qF_X9_7 rfl dX9_no_1 ?_
  refine lv_iload_n hx hb dX9_no_4 rfl (lv_at hl 1 rfl) ?_
  refine lv_ineg hx hb dX9_no_5 ?_
  refine lv_dup2_11 hx hb dX9_no_6 rfl rfl ?_
  obtain ⟨hi, hw⟩ := hw
  refine r_iald hx hb hK hG (isB_1).1 ((isB_1).2 y _) hi dX9_no_7 ?_
  refine lv_iconst (v := 1) hx hb dX9_no_8 (by decide) ?_
  refine lv_iadd hx hb dX9_no_9 ?_
  obtain ⟨hi, hw⟩ := hw
  refine r_iast hx hb hK hG (isB_1).1 (fun f => (isB_1).2 y f) hi dX9_no_10 (fun H locs hG => ?_)
  refine lv_iload_n hx hb dX9_no_11 rfl (lv_at hl 1 rfl) ?_
  exact r_iret hx hb hr hlk hK hG rfl hw dX9_no_12
theorem hd_X9_lower : yX9_lower.cls ≠ "java/lang/invoke/MethodHandle" ∧ yX9_lower.cls ≠ "java/lang/invoke/VarHandle" ∧ (parseMethodDescriptor yX9_lower.desc).map (fun d => d.parameters.length) = some 1 := by decide +kernel
set_option maxRecDepth 100000 in
set_option maxHeartbeats 4000000 in
theorem c_X9_lower (l : Launch) (y : Sy) (x1 : Int32) (st : St) (K : Int32 → St → Prop) (hw : w_X9_lower x1 st K) : Ci 17 enM l yX9_lower cX9_lower 2 (some .int) 0 0 y [.ref (ad y 0), .int x1] st K := by
  refine ent (by decide) (Nat.le_of_ble_eq_true rfl) ?_
  intro p e s m below meth c C hG ls hl
  have hl : lv_has ls 2 [(0, .ref (ad y 0)), (1, .int x1)] := hl
  generalize ([.ref (ad y 0), .int x1] : List Value).toArray = args at C ⊢
  have C : Sd p s m args meth c cX9_lower 2 RX9 (some .int) y := C
  obtain ⟨hx, hb, hml, hown, hts, hr, hlk, hK, hN⟩ := id C
  generalize s.heap = H at hG ⊢
  generalize ([] : List Loc) = locs at hG ⊢
  unfold w_X9_lower at hw
  refine lv_aload_n hx hb dX9_lower_0 rfl (lv_at hl 0 rfl) ?_
  refine r_get (C := RX9) (T := TX9) (Nf := 31) hx hb hts hown hK hG (by decide) rfl rfl inX9 0 (by decide) qF_X9_7 rfl dX9_lower_1 ?_
  refine lv_iload_n hx hb dX9_lower_4 rfl (lv_at hl 1 rfl) ?_
  refine lv_ineg hx hb dX9_lower_5 ?_
  refine lv_dup2_11 hx hb dX9_lower_6 rfl rfl ?_
  obtain ⟨hi, hw⟩ := hw
  refine r_iald hx hb hK hG (isB_1).1 ((isB_1).2 y _) hi dX9_lower_7 ?_
  refine lv_iconst (v := 1) hx hb dX9_lower_8 (by decide) ?_
  refine lv_iadd hx hb dX9_lower_9 ?_
  obtain ⟨hi, hw⟩ := hw
  refine r_iast hx hb hK hG (isB_1).1 (fun f => (isB_1).2 y f) hi dX9_lower_10 (fun H locs hG => ?_)
  refine lv_ldc (v := 1000000000) hx hb hown (hts _ qK_X9_62) dX9_lower_11 ?_
  refine lv_iload_n hx hb dX9_lower_13 rfl (lv_at hl 1 rfl) ?_
  refine lv_isub hx hb dX9_lower_14 ?_
  exact r_iret hx hb hr hlk hK hG rfl hw dX9_lower_15
theorem hd_X9_lowestOf : yX9_lowestOf.cls ≠ "java/lang/invoke/MethodHandle" ∧ yX9_lowestOf.cls ≠ "java/lang/invoke/VarHandle" ∧ (parseMethodDescriptor yX9_lowestOf.desc).map (fun d => d.parameters.length) = some 1 := by decide +kernel
set_option maxRecDepth 100000 in
set_option maxHeartbeats 4000000 in
theorem c_X9_lowestOf (l : Launch) (y : Sy) (x1 : Int32) (st : St) (K : Int64 → St → Prop) (hw : w_X9_lowestOf x1 st K) : Cl 17 enM l yX9_lowestOf cX9_lowestOf 2 (some .long) 0 0 y [.ref (ad y 0), .int x1] st K := by
  refine ent (by decide) (Nat.le_of_ble_eq_true rfl) ?_
  intro p e s m below meth c C hG ls hl
  have hl : lv_has ls 2 [(0, .ref (ad y 0)), (1, .int x1)] := hl
  generalize ([.ref (ad y 0), .int x1] : List Value).toArray = args at C ⊢
  have C : Sd p s m args meth c cX9_lowestOf 2 RX9 (some .long) y := C
  obtain ⟨hx, hb, hml, hown, hts, hr, hlk, hK, hN⟩ := id C
  generalize s.heap = H at hG ⊢
  generalize ([] : List Loc) = locs at hG ⊢
  unfold w_X9_lowestOf at hw
  refine lv_aload_n hx hb dX9_lowestOf_0 rfl (lv_at hl 0 rfl) ?_
  refine r_get (C := RX9) (T := TX9) (Nf := 31) hx hb hts hown hK hG (by decide) rfl rfl inX9 0 (by decide) qF_X9_7 rfl dX9_lowestOf_1 ?_
  refine lv_iload_n hx hb dX9_lowestOf_4 rfl (lv_at hl 1 rfl) ?_
  refine lv_ineg hx hb dX9_lowestOf_5 ?_
  refine lv_dup2_11 hx hb dX9_lowestOf_6 rfl rfl ?_
  obtain ⟨hi, hw⟩ := hw
  refine r_iald hx hb hK hG (isB_1).1 ((isB_1).2 y _) hi dX9_lowestOf_7 ?_
  refine lv_iconst (v := 1) hx hb dX9_lowestOf_8 (by decide) ?_
  refine lv_iadd hx hb dX9_lowestOf_9 ?_
  obtain ⟨hi, hw⟩ := hw
  refine r_iast hx hb hK hG (isB_1).1 (fun f => (isB_1).2 y f) hi dX9_lowestOf_10 (fun H locs hG => ?_)
  refine lv_ldc2 (v := 4000000000000000000) hx hb hown (hts _ qK_X9_63) dX9_lowestOf_11 ?_
  refine lv_iload_n hx hb dX9_lowestOf_14 rfl (lv_at hl 1 rfl) ?_
  refine lv_i2l (v := (x1).toInt64) hx hb dX9_lowestOf_15 rfl ?_
  refine lv_lsub hx hb dX9_lowestOf_16 ?_
  exact r_lret hx hb hr hlk hK hG hw dX9_lowestOf_17
theorem hd_X9_isIn : yX9_isIn.cls ≠ "java/lang/invoke/MethodHandle" ∧ yX9_isIn.cls ≠ "java/lang/invoke/VarHandle" ∧ (parseMethodDescriptor yX9_isIn.desc).map (fun d => d.parameters.length) = some 3 := by decide +kernel
set_option maxRecDepth 100000 in
set_option maxHeartbeats 4000000 in
theorem c_X9_isIn (l : Launch) (y : Sy) (x0 : Int32) (x1 : Int32) (x2 : Int32) (st : St) (K : Int32 → St → Prop) (hw : w_X9_isIn x0 x1 x2 st K) : Ci 17 enM l yX9_isIn cX9_isIn 3 (some .boolean) 0 0 y [.int x0, .int x1, .int x2] st K := by
  refine ent (by decide) (Nat.le_of_ble_eq_true rfl) ?_
  intro p e s m below meth c C hG ls hl
  have hl : lv_has ls 3 [(0, .int x0), (1, .int x1), (2, .int x2)] := hl
  generalize ([.int x0, .int x1, .int x2] : List Value).toArray = args at C ⊢
  have C : Sd p s m args meth c cX9_isIn 3 RX9 (some .boolean) y := C
  obtain ⟨hx, hb, hml, hown, hts, hr, hlk, hK, hN⟩ := id C
  generalize s.heap = H at hG ⊢
  generalize ([] : List Loc) = locs at hG ⊢
  unfold w_X9_isIn at hw
  refine lv_iload_n hx hb dX9_isIn_0 rfl (lv_at hl 0 rfl) ?_
  refine lv_iload_n hx hb dX9_isIn_1 rfl (lv_at hl 1 rfl) ?_
  refine lv_icmp_lt (tgt := 14) hx hb dX9_isIn_2 (by decide) (fun hc => ?_) (fun hc => ?_)
  · replace hw := hw.1 hc
    refine lv_iconst (v := 0) hx hb dX9_isIn_14 (by decide) ?_
    exact r_iret hx hb hr hlk hK hG rfl hw dX9_isIn_15
  · replace hw := hw.2 hc
    refine lv_iload_n hx hb dX9_isIn_5 rfl (lv_at hl 0 rfl) ?_
    refine lv_iload_n hx hb dX9_isIn_6 rfl (lv_at hl 2 rfl) ?_
    refine lv_icmp_gt (tgt := 14) hx hb dX9_isIn_7 (by decide) (fun hc => ?_) (fun hc => ?_)
    · replace hw := hw.1 hc
      refine lv_iconst (v := 0) hx hb dX9_isIn_14 (by decide) ?_
      exact r_iret hx hb hr hlk hK hG rfl hw dX9_isIn_15
    · replace hw := hw.2 hc
      refine lv_iconst (v := 1) hx hb dX9_isIn_10 (by decide) ?_
      refine lv_goto (tgt := 15) hx hb dX9_isIn_11 (by decide) ?_
      exact r_iret hx hb hr hlk hK hG rfl hw dX9_isIn_15
theorem hd_X9_bound : yX9_bound.cls ≠ "java/lang/invoke/MethodHandle" ∧ yX9_bound.cls ≠ "java/lang/invoke/VarHandle" ∧ (parseMethodDescriptor yX9_bound.desc).map (fun d => d.parameters.length) = some 3 := by decide +kernel
set_option maxRecDepth 100000 in
set_option maxHeartbeats 4000000 in
theorem c_X9_bound (l : Launch) (y : Sy) (x0 : Int32) (x1 : Int32) (x2 : Int32) (st : St) (K : Int32 → St → Prop) (hw : w_X9_bound x0 x1 x2 st K) : Ci 17 enM l yX9_bound cX9_bound 3 (some .int) 0 0 y [.int x0, .int x1, .int x2] st K := by
  refine ent (by decide) (Nat.le_of_ble_eq_true rfl) ?_
  intro p e s m below meth c C hG ls hl
  have hl : lv_has ls 3 [(0, .int x0), (1, .int x1), (2, .int x2)] := hl
  generalize ([.int x0, .int x1, .int x2] : List Value).toArray = args at C ⊢
  have C : Sd p s m args meth c cX9_bound 3 RX9 (some .int) y := C
  obtain ⟨hx, hb, hml, hown, hts, hr, hlk, hK, hN⟩ := id C
  generalize s.heap = H at hG ⊢
  generalize ([] : List Loc) = locs at hG ⊢
  unfold w_X9_bound at hw
  refine lv_iload_n hx hb dX9_bound_0 rfl (lv_at hl 0 rfl) ?_
  refine lv_iload_n hx hb dX9_bound_1 rfl (lv_at hl 1 rfl) ?_
  refine lv_icmp_ge (tgt := 10) hx hb dX9_bound_2 (by decide) (fun hc => ?_) (fun hc => ?_)
  · replace hw := hw.1 hc
    refine lv_iload_n hx hb dX9_bound_10 rfl (lv_at hl 0 rfl) ?_
    refine lv_iload_n hx hb dX9_bound_11 rfl (lv_at hl 2 rfl) ?_
    refine lv_icmp_le (tgt := 20) hx hb dX9_bound_12 (by decide) (fun hc => ?_) (fun hc => ?_)
    · replace hw := hw.1 hc
      refine lv_iconst (v := 0) hx hb dX9_bound_20 (by decide) ?_
      exact r_iret hx hb hr hlk hK hG rfl hw dX9_bound_21
    · replace hw := hw.2 hc
      refine lv_bipush (v := (-6)) hx hb dX9_bound_15 (by decide) ?_
      refine lv_goto (tgt := 21) hx hb dX9_bound_17 (by decide) ?_
      exact r_iret hx hb hr hlk hK hG rfl hw dX9_bound_21
  · replace hw := hw.2 hc
    refine lv_bipush (v := (-4)) hx hb dX9_bound_5 (by decide) ?_
    refine lv_goto (tgt := 21) hx hb dX9_bound_7 (by decide) ?_
    exact r_iret hx hb hr hlk hK hG rfl hw dX9_bound_21
theorem hd_X9_held : yX9_held.cls ≠ "java/lang/invoke/MethodHandle" ∧ yX9_held.cls ≠ "java/lang/invoke/VarHandle" ∧ (parseMethodDescriptor yX9_held.desc).map (fun d => d.parameters.length) = some 3 := by decide +kernel
set_option maxRecDepth 100000 in
set_option maxHeartbeats 4000000 in
theorem c_X9_held (l : Launch) (y : Sy) (x0 : Int32) (x1 : Int32) (x2 : Int32) (st : St) (K : Int32 → St → Prop) (hw : w_X9_held x0 x1 x2 st K) : Ci 17 enM l yX9_held cX9_held 3 (some .int) 0 0 y [.int x0, .int x1, .int x2] st K := by
  refine ent (by decide) (Nat.le_of_ble_eq_true rfl) ?_
  intro p e s m below meth c C hG ls hl
  have hl : lv_has ls 3 [(0, .int x0), (1, .int x1), (2, .int x2)] := hl
  generalize ([.int x0, .int x1, .int x2] : List Value).toArray = args at C ⊢
  have C : Sd p s m args meth c cX9_held 3 RX9 (some .int) y := C
  obtain ⟨hx, hb, hml, hown, hts, hr, hlk, hK, hN⟩ := id C
  generalize s.heap = H at hG ⊢
  generalize ([] : List Loc) = locs at hG ⊢
  unfold w_X9_held at hw
  refine lv_iload_n hx hb dX9_held_0 rfl (lv_at hl 0 rfl) ?_
  refine lv_iload_n hx hb dX9_held_1 rfl (lv_at hl 1 rfl) ?_
  refine lv_icmp_ge (tgt := 9) hx hb dX9_held_2 (by decide) (fun hc => ?_) (fun hc => ?_)
  · replace hw := hw.1 hc
    refine lv_iload_n hx hb dX9_held_9 rfl (lv_at hl 0 rfl) ?_
    refine lv_iload_n hx hb dX9_held_10 rfl (lv_at hl 2 rfl) ?_
    refine lv_icmp_le (tgt := 18) hx hb dX9_held_11 (by decide) (fun hc => ?_) (fun hc => ?_)
    · replace hw := hw.1 hc
      refine lv_iload_n hx hb dX9_held_18 rfl (lv_at hl 0 rfl) ?_
      exact r_iret hx hb hr hlk hK hG rfl hw dX9_held_19
    · replace hw := hw.2 hc
      refine lv_iload_n hx hb dX9_held_14 rfl (lv_at hl 2 rfl) ?_
      refine lv_goto (tgt := 19) hx hb dX9_held_15 (by decide) ?_
      exact r_iret hx hb hr hlk hK hG rfl hw dX9_held_19
  · replace hw := hw.2 hc
    refine lv_iload_n hx hb dX9_held_5 rfl (lv_at hl 1 rfl) ?_
    refine lv_goto (tgt := 19) hx hb dX9_held_6 (by decide) ?_
    exact r_iret hx hb hr hlk hK hG rfl hw dX9_held_19
theorem hd_X9_has : yX9_has.cls ≠ "java/lang/invoke/MethodHandle" ∧ yX9_has.cls ≠ "java/lang/invoke/VarHandle" ∧ (parseMethodDescriptor yX9_has.desc).map (fun d => d.parameters.length) = some 2 := by decide +kernel
set_option maxRecDepth 100000 in
set_option maxHeartbeats 4000000 in
theorem c_X9_has (l : Launch) (y : Sy) (x0 : Int32) (x1 : Int32) (st : St) (K : Int32 → St → Prop) (hw : w_X9_has x0 x1 st K) : Ci 17 enM l yX9_has cX9_has 2 (some .boolean) 0 0 y [.int x0, .int x1] st K := by
  refine ent (by decide) (Nat.le_of_ble_eq_true rfl) ?_
  intro p e s m below meth c C hG ls hl
  have hl : lv_has ls 2 [(0, .int x0), (1, .int x1)] := hl
  generalize ([.int x0, .int x1] : List Value).toArray = args at C ⊢
  have C : Sd p s m args meth c cX9_has 2 RX9 (some .boolean) y := C
  obtain ⟨hx, hb, hml, hown, hts, hr, hlk, hK, hN⟩ := id C
  generalize s.heap = H at hG ⊢
  generalize ([] : List Loc) = locs at hG ⊢
  unfold w_X9_has at hw
  refine lv_iload_n hx hb dX9_has_0 rfl (lv_at hl 0 rfl) ?_
  refine lv_iload_n hx hb dX9_has_1 rfl (lv_at hl 1 rfl) ?_
  refine lv_ishr hx hb dX9_has_2 ?_
  refine lv_iconst (v := 1) hx hb dX9_has_3 (by decide) ?_
  refine lv_iand hx hb dX9_has_4 ?_
  refine lv_iconst (v := 1) hx hb dX9_has_5 (by decide) ?_
  refine lv_icmp_ne (tgt := 13) hx hb dX9_has_6 (by decide) (fun hc => ?_) (fun hc => ?_)
  · replace hw := hw.1 hc
    refine lv_iconst (v := 0) hx hb dX9_has_13 (by decide) ?_
    exact r_iret hx hb hr hlk hK hG rfl hw dX9_has_14
  · replace hw := hw.2 hc
    refine lv_iconst (v := 1) hx hb dX9_has_9 (by decide) ?_
    refine lv_goto (tgt := 14) hx hb dX9_has_10 (by decide) ?_
    exact r_iret hx hb hr hlk hK hG rfl hw dX9_has_14
set_option maxRecDepth 100000 in
set_option maxHeartbeats 4000000 in
theorem z_X9_bits_L4 {p : Program} {e : Env} {s : State} {m : MethodId} {args : Array Value} {below : List Frame} {meth : Method} {c : Code} (l : Launch) (y : Sy) (x0 : Int32) (C : Sd p s m args meth c cX9_bits 3 RX9 (some .int) y)  (K : Int32 → St → Prop)  : ∀ (n : Nat) (v1 : Int32) (v2 : Int32) (st : St) (H : Heap) (locs : List Loc) (ls : Array Slot), gH 17 enM y st s H locs → lv_has ls 3 [(0, .int x0), (1, .int v1), (2, .int v2)] → w_X9_bits_L4 x0  K n v1 v2 st → W p l e (rmm 0 0) s m args below meth c H locs 0 0 (MQ below (va_Qi K (gB 17 enM y) (gA 17 y)) args s 0 0 (gA 17 y)) (F0 m 4 ls []) := by
  obtain ⟨hx, hb, hml, hown, hts, hr, hlk, hK, hN⟩ := id C
  intro n
  induction n with
  | zero => intro v1 v2 st H locs ls hG hl hw; exact False.elim hw
  | succ n hc4 =>
    intro v1 v2 st H locs ls hG hl hw
    have hw : w_X9_bits_L4q x0  K (fun v1 v2 st => w_X9_bits_L4 x0  K n v1 v2 st) v1 v2 st := hw
    unfold w_X9_bits_L4q at hw
    refine lv_iload_n hx hb dX9_bits_4 rfl (lv_at hl 2 rfl) ?_
    refine lv_bipush (v := 31) hx hb dX9_bits_5 (by decide) ?_
    refine lv_icmp_ge (tgt := 24) hx hb dX9_bits_7 (by decide) (fun hc => ?_) (fun hc => ?_)
    · replace hw := hw.1 hc
      refine lv_iload_n hx hb dX9_bits_24 rfl (lv_at hl 1 rfl) ?_
      exact r_iret hx hb hr hlk hK hG rfl hw dX9_bits_25
    · replace hw := hw.2 hc
      refine lv_iload_n hx hb dX9_bits_10 rfl (lv_at hl 1 rfl) ?_
      refine lv_iload_n hx hb dX9_bits_11 rfl (lv_at hl 0 rfl) ?_
      refine lv_iload_n hx hb dX9_bits_12 rfl (lv_at hl 2 rfl) ?_
      refine lv_ishr hx hb dX9_bits_13 ?_
      refine lv_iconst (v := 1) hx hb dX9_bits_14 (by decide) ?_
      refine lv_iand hx hb dX9_bits_15 ?_
      refine lv_iadd hx hb dX9_bits_16 ?_
      refine lv_istore_n (lv' := [(1, .int (v1 + ((x0 >>> (v2 &&& 31)) &&& 1))), (0, .int x0), (2, .int v2)]) hx hb dX9_bits_17 rfl hl (Nat.le_of_ble_eq_true rfl) rfl (fun ls hl => ?_)
      refine lv_iinc (v := (v2 + 1)) (lv' := [(2, .int (v2 + 1)), (1, .int (v1 + ((x0 >>> (v2 &&& 31)) &&& 1))), (0, .int x0)]) hx hb dX9_bits_18 hl (k := 2) rfl rfl (Nat.le_of_ble_eq_true rfl) rfl (fun ls hl => ?_)
      refine lv_goto (tgt := 4) hx hb dX9_bits_21 (by decide) ?_
      exact hc4 (v1 + ((x0 >>> (v2 &&& 31)) &&& 1)) (v2 + 1) st H locs _ hG (lv_sub hl [2, 1, 0] rfl) hw
theorem hd_X9_bits : yX9_bits.cls ≠ "java/lang/invoke/MethodHandle" ∧ yX9_bits.cls ≠ "java/lang/invoke/VarHandle" ∧ (parseMethodDescriptor yX9_bits.desc).map (fun d => d.parameters.length) = some 1 := by decide +kernel
set_option maxRecDepth 100000 in
set_option maxHeartbeats 4000000 in
theorem c_X9_bits (l : Launch) (y : Sy) (x0 : Int32) (st : St) (K : Int32 → St → Prop) (hw : w_X9_bits x0 st K) : Ci 17 enM l yX9_bits cX9_bits 3 (some .int) 0 0 y [.int x0] st K := by
  refine ent (by decide) (Nat.le_of_ble_eq_true rfl) ?_
  intro p e s m below meth c C hG ls hl
  have hl : lv_has ls 3 [(0, .int x0)] := hl
  generalize ([.int x0] : List Value).toArray = args at C ⊢
  have C : Sd p s m args meth c cX9_bits 3 RX9 (some .int) y := C
  obtain ⟨hx, hb, hml, hown, hts, hr, hlk, hK, hN⟩ := id C
  generalize s.heap = H at hG ⊢
  generalize ([] : List Loc) = locs at hG ⊢
  unfold w_X9_bits at hw
  refine lv_iconst (v := 0) hx hb dX9_bits_0 (by decide) ?_
  refine lv_istore_n (lv' := [(1, .int 0), (0, .int x0)]) hx hb dX9_bits_1 rfl hl (Nat.le_of_ble_eq_true rfl) rfl (fun ls hl => ?_)
  refine lv_iconst (v := 0) hx hb dX9_bits_2 (by decide) ?_
  refine lv_istore_n (lv' := [(2, .int 0), (1, .int 0), (0, .int x0)]) hx hb dX9_bits_3 rfl hl (Nat.le_of_ble_eq_true rfl) rfl (fun ls hl => ?_)
  obtain ⟨n4, hw⟩ := hw
  exact z_X9_bits_L4 l y x0 C  K  n4 0 0 st H locs _ hG (lv_sub hl [2, 1, 0] rfl) hw
theorem hd_X9_isKeeper : yX9_isKeeper.cls ≠ "java/lang/invoke/MethodHandle" ∧ yX9_isKeeper.cls ≠ "java/lang/invoke/VarHandle" ∧ (parseMethodDescriptor yX9_isKeeper.desc).map (fun d => d.parameters.length) = some 1 := by decide +kernel
set_option maxRecDepth 100000 in
set_option maxHeartbeats 4000000 in
theorem c_X9_isKeeper (l : Launch) (y : Sy) (x1 : Int32) (st : St) (K : Int32 → St → Prop) (hw : w_X9_isKeeper x1 st K) : Ci 17 enM l yX9_isKeeper cX9_isKeeper 2 (some .boolean) 0 0 y [.ref (ad y 0), .int x1] st K := by
  refine ent (by decide) (Nat.le_of_ble_eq_true rfl) ?_
  intro p e s m below meth c C hG ls hl
  have hl : lv_has ls 2 [(0, .ref (ad y 0)), (1, .int x1)] := hl
  generalize ([.ref (ad y 0), .int x1] : List Value).toArray = args at C ⊢
  have C : Sd p s m args meth c cX9_isKeeper 2 RX9 (some .boolean) y := C
  obtain ⟨hx, hb, hml, hown, hts, hr, hlk, hK, hN⟩ := id C
  generalize s.heap = H at hG ⊢
  generalize ([] : List Loc) = locs at hG ⊢
  unfold w_X9_isKeeper at hw
  refine lv_iload_n hx hb dX9_isKeeper_0 rfl (lv_at hl 1 rfl) ?_
  refine lv_if_lt (tgt := 16) hx hb dX9_isKeeper_1 (by decide) (fun hc => ?_) (fun hc => ?_)
  · replace hw := hw.1 hc
    refine lv_iconst (v := 0) hx hb dX9_isKeeper_16 (by decide) ?_
    exact r_iret hx hb hr hlk hK hG rfl hw dX9_isKeeper_17
  · replace hw := hw.2 hc
    refine lv_iload_n hx hb dX9_isKeeper_4 rfl (lv_at hl 1 rfl) ?_
    refine lv_aload_n hx hb dX9_isKeeper_5 rfl (lv_at hl 0 rfl) ?_
    refine r_get (C := RX9) (T := TX9) (Nf := 31) hx hb hts hown hK hG (by decide) rfl rfl inX9 8 (by decide) qF_X9_65 rfl dX9_isKeeper_6 ?_
    refine lv_icmp_ge (tgt := 16) hx hb dX9_isKeeper_9 (by decide) (fun hc => ?_) (fun hc => ?_)
    · replace hw := hw.1 hc
      refine lv_iconst (v := 0) hx hb dX9_isKeeper_16 (by decide) ?_
      exact r_iret hx hb hr hlk hK hG rfl hw dX9_isKeeper_17
    · replace hw := hw.2 hc
      refine lv_iconst (v := 1) hx hb dX9_isKeeper_12 (by decide) ?_
      refine lv_goto (tgt := 17) hx hb dX9_isKeeper_13 (by decide) ?_
      exact r_iret hx hb hr hlk hK hG rfl hw dX9_isKeeper_17
theorem hd_X9_areTwo : yX9_areTwo.cls ≠ "java/lang/invoke/MethodHandle" ∧ yX9_areTwo.cls ≠ "java/lang/invoke/VarHandle" ∧ (parseMethodDescriptor yX9_areTwo.desc).map (fun d => d.parameters.length) = some 2 := by decide +kernel
set_option maxRecDepth 100000 in
set_option maxHeartbeats 4000000 in
theorem c_X9_areTwo (l : Launch) (y : Sy) (x1 : Int32) (x2 : Int32) (st : St) (K : Int32 → St → Prop) (hw : w_X9_areTwo x1 x2 st K) : Ci 17 enM l yX9_areTwo cX9_areTwo 3 (some .boolean) 1 21 y [.ref (ad y 0), .int x1, .int x2] st K := by
  refine ent (by decide) (Nat.le_of_ble_eq_true rfl) ?_
  intro p e s m below meth c C hG ls hl
  have hl : lv_has ls 3 [(0, .ref (ad y 0)), (1, .int x1), (2, .int x2)] := hl
  generalize ([.ref (ad y 0), .int x1, .int x2] : List Value).toArray = args at C ⊢
  have C : Sd p s m args meth c cX9_areTwo 3 RX9 (some .boolean) y := C
  obtain ⟨hx, hb, hml, hown, hts, hr, hlk, hK, hN⟩ := id C
  generalize s.heap = H at hG ⊢
  generalize ([] : List Loc) = locs at hG ⊢
  unfold w_X9_areTwo at hw
  refine lv_aload_n hx hb dX9_areTwo_0 rfl (lv_at hl 0 rfl) ?_
  refine lv_iload_n hx hb dX9_areTwo_1 rfl (lv_at hl 1 rfl) ?_
  refine r_ki (r_run_V (k := 0) (As := [.int x1]) (rest := []) hx hb hml hown hts hK hN hG (c_X9_isKeeper l y x1 st _ hw) (by decide) rfl rfl rfl qM_X9_68 qI_X9_isKeeper qS_X9_isKeeper qN_X9 qC_X9_isKeeper hd_X9_isKeeper ⟨Nat.le_of_ble_eq_true rfl, Nat.le_of_ble_eq_true rfl⟩ hl.1 rfl (Nat.le_of_ble_eq_true rfl) dX9_areTwo_2) hG (fun r2 st2 H locs hw hG => ?_)
  refine lv_if_eq (tgt := 25) hx hb dX9_areTwo_5 (by decide) (fun hc => ?_) (fun hc => ?_)
  · replace hw := hw.1 hc
    refine lv_iconst (v := 0) hx hb dX9_areTwo_25 (by decide) ?_
    exact r_iret hx hb hr hlk hK hG rfl hw dX9_areTwo_26
  · replace hw := hw.2 hc
    refine lv_aload_n hx hb dX9_areTwo_8 rfl (lv_at hl 0 rfl) ?_
    refine lv_iload_n hx hb dX9_areTwo_9 rfl (lv_at hl 2 rfl) ?_
    refine r_ki (r_run_V (k := 0) (As := [.int x2]) (rest := []) hx hb hml hown hts hK hN hG (c_X9_isKeeper l y x2 st2 _ hw) (by decide) rfl rfl rfl qM_X9_68 qI_X9_isKeeper qS_X9_isKeeper qN_X9 qC_X9_isKeeper hd_X9_isKeeper ⟨Nat.le_of_ble_eq_true rfl, Nat.le_of_ble_eq_true rfl⟩ hl.1 rfl (Nat.le_of_ble_eq_true rfl) dX9_areTwo_10) hG (fun r10 st10 H locs hw hG => ?_)
    refine lv_if_eq (tgt := 25) hx hb dX9_areTwo_13 (by decide) (fun hc => ?_) (fun hc => ?_)
    · replace hw := hw.1 hc
      refine lv_iconst (v := 0) hx hb dX9_areTwo_25 (by decide) ?_
      exact r_iret hx hb hr hlk hK hG rfl hw dX9_areTwo_26
    · replace hw := hw.2 hc
      refine lv_iload_n hx hb dX9_areTwo_16 rfl (lv_at hl 1 rfl) ?_
      refine lv_iload_n hx hb dX9_areTwo_17 rfl (lv_at hl 2 rfl) ?_
      refine lv_icmp_eq (tgt := 25) hx hb dX9_areTwo_18 (by decide) (fun hc => ?_) (fun hc => ?_)
      · replace hw := hw.1 hc
        refine lv_iconst (v := 0) hx hb dX9_areTwo_25 (by decide) ?_
        exact r_iret hx hb hr hlk hK hG rfl hw dX9_areTwo_26
      · replace hw := hw.2 hc
        refine lv_iconst (v := 1) hx hb dX9_areTwo_21 (by decide) ?_
        refine lv_goto (tgt := 26) hx hb dX9_areTwo_22 (by decide) ?_
        exact r_iret hx hb hr hlk hK hG rfl hw dX9_areTwo_26
theorem hd_X9_isLetter : yX9_isLetter.cls ≠ "java/lang/invoke/MethodHandle" ∧ yX9_isLetter.cls ≠ "java/lang/invoke/VarHandle" ∧ (parseMethodDescriptor yX9_isLetter.desc).map (fun d => d.parameters.length) = some 1 := by decide +kernel
set_option maxRecDepth 100000 in
set_option maxHeartbeats 4000000 in
theorem c_X9_isLetter (l : Launch) (y : Sy) (x1 : Int32) (st : St) (K : Int32 → St → Prop) (hw : w_X9_isLetter x1 st K) : Ci 17 enM l yX9_isLetter cX9_isLetter 2 (some .boolean) 0 0 y [.ref (ad y 0), .int x1] st K := by
  refine ent (by decide) (Nat.le_of_ble_eq_true rfl) ?_
  intro p e s m below meth c C hG ls hl
  have hl : lv_has ls 2 [(0, .ref (ad y 0)), (1, .int x1)] := hl
  generalize ([.ref (ad y 0), .int x1] : List Value).toArray = args at C ⊢
  have C : Sd p s m args meth c cX9_isLetter 2 RX9 (some .boolean) y := C
  obtain ⟨hx, hb, hml, hown, hts, hr, hlk, hK, hN⟩ := id C
  generalize s.heap = H at hG ⊢
  generalize ([] : List Loc) = locs at hG ⊢
  unfold w_X9_isLetter at hw
  refine lv_iload_n hx hb dX9_isLetter_0 rfl (lv_at hl 1 rfl) ?_
  refine lv_if_lt (tgt := 16) hx hb dX9_isLetter_1 (by decide) (fun hc => ?_) (fun hc => ?_)
  · replace hw := hw.1 hc
    refine lv_iconst (v := 0) hx hb dX9_isLetter_16 (by decide) ?_
    exact r_iret hx hb hr hlk hK hG rfl hw dX9_isLetter_17
  · replace hw := hw.2 hc
    refine lv_iload_n hx hb dX9_isLetter_4 rfl (lv_at hl 1 rfl) ?_
    refine lv_aload_n hx hb dX9_isLetter_5 rfl (lv_at hl 0 rfl) ?_
    refine r_get (C := RX9) (T := TX9) (Nf := 31) hx hb hts hown hK hG (by decide) rfl rfl inX9 9 (by decide) qF_X9_58 rfl dX9_isLetter_6 ?_
    refine lv_icmp_ge (tgt := 16) hx hb dX9_isLetter_9 (by decide) (fun hc => ?_) (fun hc => ?_)
    · replace hw := hw.1 hc
      refine lv_iconst (v := 0) hx hb dX9_isLetter_16 (by decide) ?_
      exact r_iret hx hb hr hlk hK hG rfl hw dX9_isLetter_17
    · replace hw := hw.2 hc
      refine lv_iconst (v := 1) hx hb dX9_isLetter_12 (by decide) ?_
      refine lv_goto (tgt := 17) hx hb dX9_isLetter_13 (by decide) ?_
      exact r_iret hx hb hr hlk hK hG rfl hw dX9_isLetter_17
theorem hd_X9_isTown : yX9_isTown.cls ≠ "java/lang/invoke/MethodHandle" ∧ yX9_isTown.cls ≠ "java/lang/invoke/VarHandle" ∧ (parseMethodDescriptor yX9_isTown.desc).map (fun d => d.parameters.length) = some 1 := by decide +kernel
set_option maxRecDepth 100000 in
set_option maxHeartbeats 4000000 in
theorem c_X9_isTown (l : Launch) (y : Sy) (x0 : Int32) (st : St) (K : Int32 → St → Prop) (hw : w_X9_isTown x0 st K) : Ci 17 enM l yX9_isTown cX9_isTown 1 (some .boolean) 0 0 y [.int x0] st K := by
  refine ent (by decide) (Nat.le_of_ble_eq_true rfl) ?_
  intro p e s m below meth c C hG ls hl
  have hl : lv_has ls 1 [(0, .int x0)] := hl
  generalize ([.int x0] : List Value).toArray = args at C ⊢
  have C : Sd p s m args meth c cX9_isTown 1 RX9 (some .boolean) y := C
  obtain ⟨hx, hb, hml, hown, hts, hr, hlk, hK, hN⟩ := id C
  generalize s.heap = H at hG ⊢
  generalize ([] : List Loc) = locs at hG ⊢
  unfold w_X9_isTown at hw
  refine lv_iload_n hx hb dX9_isTown_0 rfl (lv_at hl 0 rfl) ?_
  refine lv_if_lt (tgt := 13) hx hb dX9_isTown_1 (by decide) (fun hc => ?_) (fun hc => ?_)
  · replace hw := hw.1 hc
    refine lv_iconst (v := 0) hx hb dX9_isTown_13 (by decide) ?_
    exact r_iret hx hb hr hlk hK hG rfl hw dX9_isTown_14
  · replace hw := hw.2 hc
    refine lv_iload_n hx hb dX9_isTown_4 rfl (lv_at hl 0 rfl) ?_
    refine lv_iconst (v := 4) hx hb dX9_isTown_5 (by decide) ?_
    refine lv_icmp_ge (tgt := 13) hx hb dX9_isTown_6 (by decide) (fun hc => ?_) (fun hc => ?_)
    · replace hw := hw.1 hc
      refine lv_iconst (v := 0) hx hb dX9_isTown_13 (by decide) ?_
      exact r_iret hx hb hr hlk hK hG rfl hw dX9_isTown_14
    · replace hw := hw.2 hc
      refine lv_iconst (v := 1) hx hb dX9_isTown_9 (by decide) ?_
      refine lv_goto (tgt := 14) hx hb dX9_isTown_10 (by decide) ?_
      exact r_iret hx hb hr hlk hK hG rfl hw dX9_isTown_14
theorem hd_X9_hateOf : yX9_hateOf.cls ≠ "java/lang/invoke/MethodHandle" ∧ yX9_hateOf.cls ≠ "java/lang/invoke/VarHandle" ∧ (parseMethodDescriptor yX9_hateOf.desc).map (fun d => d.parameters.length) = some 2 := by decide +kernel
set_option maxRecDepth 100000 in
set_option maxHeartbeats 4000000 in
theorem c_X9_hateOf (l : Launch) (y : Sy) (x1 : Int32) (x2 : Int32) (st : St) (K : Int32 → St → Prop) (hw : w_X9_hateOf x1 x2 st K) : Ci 17 enM l yX9_hateOf cX9_hateOf 3 (some .int) 0 0 y [.ref (ad y 0), .int x1, .int x2] st K := by
  refine ent (by decide) (Nat.le_of_ble_eq_true rfl) ?_
  intro p e s m below meth c C hG ls hl
  have hl : lv_has ls 3 [(0, .ref (ad y 0)), (1, .int x1), (2, .int x2)] := hl
  generalize ([.ref (ad y 0), .int x1, .int x2] : List Value).toArray = args at C ⊢
  have C : Sd p s m args meth c cX9_hateOf 3 RX9 (some .int) y := C
  obtain ⟨hx, hb, hml, hown, hts, hr, hlk, hK, hN⟩ := id C
  generalize s.heap = H at hG ⊢
  generalize ([] : List Loc) = locs at hG ⊢
  unfold w_X9_hateOf at hw
  refine lv_aload_n hx hb dX9_hateOf_0 rfl (lv_at hl 0 rfl) ?_
  refine r_get (C := RX9) (T := TX9) (Nf := 31) hx hb hts hown hK hG (by decide) rfl rfl inX9 4 (by decide) qF_X9_22 rfl dX9_hateOf_1 ?_
  refine lv_bipush (v := 6) hx hb dX9_hateOf_4 (by decide) ?_
  refine lv_iload_n hx hb dX9_hateOf_6 rfl (lv_at hl 1 rfl) ?_
  refine lv_imul hx hb dX9_hateOf_7 ?_
  refine lv_iload_n hx hb dX9_hateOf_8 rfl (lv_at hl 2 rfl) ?_
  refine lv_iadd hx hb dX9_hateOf_9 ?_
  obtain ⟨hi, hw⟩ := hw
  refine r_iald hx hb hK hG (isB_5).1 ((isB_5).2 y _) hi dX9_hateOf_10 ?_
  exact r_iret hx hb hr hlk hK hG rfl hw dX9_hateOf_11
theorem hd_X9_sets : yX9_sets.cls ≠ "java/lang/invoke/MethodHandle" ∧ yX9_sets.cls ≠ "java/lang/invoke/VarHandle" ∧ (parseMethodDescriptor yX9_sets.desc).map (fun d => d.parameters.length) = some 3 := by decide +kernel
set_option maxRecDepth 100000 in
set_option maxHeartbeats 4000000 in
theorem c_X9_sets (l : Launch) (y : Sy) (x1 : Int32) (x2 : Int32) (x3 : Int32) (st : St) (K : St → Prop) (hw : w_X9_sets x1 x2 x3 st K) : Cv 17 enM l yX9_sets cX9_sets 4 none 0 0 y [.ref (ad y 0), .int x1, .int x2, .int x3] st K := by
  refine ent (by decide) (Nat.le_of_ble_eq_true rfl) ?_
  intro p e s m below meth c C hG ls hl
  have hl : lv_has ls 4 [(0, .ref (ad y 0)), (1, .int x1), (2, .int x2), (3, .int x3)] := hl
  generalize ([.ref (ad y 0), .int x1, .int x2, .int x3] : List Value).toArray = args at C ⊢
  have C : Sd p s m args meth c cX9_sets 4 RX9 none y := C
  obtain ⟨hx, hb, hml, hown, hts, hr, hlk, hK, hN⟩ := id C
  generalize s.heap = H at hG ⊢
  generalize ([] : List Loc) = locs at hG ⊢
  unfold w_X9_sets at hw
  refine lv_aload_n hx hb dX9_sets_0 rfl (lv_at hl 0 rfl) ?_
  refine r_get (C := RX9) (T := TX9) (Nf := 31) hx hb hts hown hK hG (by decide) rfl rfl inX9 4 (by decide) qF_X9_22 rfl dX9_sets_1 ?_
  refine lv_bipush (v := 6) hx hb dX9_sets_4 (by decide) ?_
  refine lv_iload_n hx hb dX9_sets_6 rfl (lv_at hl 1 rfl) ?_
  refine lv_imul hx hb dX9_sets_7 ?_
  refine lv_iload_n hx hb dX9_sets_8 rfl (lv_at hl 2 rfl) ?_
  refine lv_iadd hx hb dX9_sets_9 ?_
  refine lv_iload_n hx hb dX9_sets_10 rfl (lv_at hl 3 rfl) ?_
  obtain ⟨hi, hw⟩ := hw
  refine r_iast hx hb hK hG (isB_5).1 (fun f => (isB_5).2 y f) hi dX9_sets_11 (fun H locs hG => ?_)
  refine lv_aload_n hx hb dX9_sets_12 rfl (lv_at hl 0 rfl) ?_
  refine r_get (C := RX9) (T := TX9) (Nf := 31) hx hb hts hown hK hG (by decide) rfl rfl inX9 4 (by decide) qF_X9_22 rfl dX9_sets_13 ?_
  refine lv_bipush (v := 6) hx hb dX9_sets_16 (by decide) ?_
  refine lv_iload_n hx hb dX9_sets_18 rfl (lv_at hl 2 rfl) ?_
  refine lv_imul hx hb dX9_sets_19 ?_
  refine lv_iload_n hx hb dX9_sets_20 rfl (lv_at hl 1 rfl) ?_
  refine lv_iadd hx hb dX9_sets_21 ?_
  refine lv_iload_n hx hb dX9_sets_22 rfl (lv_at hl 3 rfl) ?_
  obtain ⟨hi, hw⟩ := hw
  refine r_iast hx hb hK hG (isB_5).1 (fun f => (isB_5).2 y f) hi dX9_sets_23 (fun H locs hG => ?_)
  exact r_vret hx hb hr hlk hK hG hw dX9_sets_24
set_option maxRecDepth 100000 in
set_option maxHeartbeats 4000000 in
theorem z_X9_feed_b25 {p : Program} {e : Env} {s : State} {m : MethodId} {args : Array Value} {below : List Frame} {meth : Method} {c : Code} (l : Launch) (y : Sy) (x1 : Int32) (C : Sd p s m args meth c cX9_feed 3 RX9 (some .int) y)  (K : Int32 → St → Prop)  (v2 : Int32) (st : St) {H : Heap} {locs : List Loc} {ls : Array Slot} (hG : gH 17 enM y st s H locs) (hl : lv_has ls 3 [(0, .ref (ad y 0)), (1, .int x1), (2, .int v2)]) (hw : w_X9_feed_b25 x1  K v2 st) : W p l e (rmm 1 22) s m args below meth c H locs 0 0 (MQ below (va_Qi K (gB 17 enM y) (gA 17 y)) args s 0 0 (gA 17 y)) (F0 m 25 ls []) := by
  obtain ⟨hx, hb, hml, hown, hts, hr, hlk, hK, hN⟩ := id C
  unfold w_X9_feed_b25 at hw
  refine lv_iload_n hx hb dX9_feed_25 rfl (lv_at hl 2 rfl) ?_
  refine lv_if_eq (tgt := 35) hx hb dX9_feed_26 (by decide) (fun hc => ?_) (fun hc => ?_)
  · replace hw := hw.1 hc
    refine lv_aload_n hx hb dX9_feed_35 rfl (lv_at hl 0 rfl) ?_
    refine r_get (C := RX9) (T := TX9) (Nf := 31) hx hb hts hown hK hG (by decide) rfl rfl inX9 12 (by decide) qF_X9_34 rfl dX9_feed_36 ?_
    refine lv_aload_n hx hb dX9_feed_39 rfl (lv_at hl 0 rfl) ?_
    refine r_get (C := RX9) (T := TX9) (Nf := 31) hx hb hts hown hK hG (by decide) rfl rfl inX9 16 (by decide) qF_X9_76 rfl dX9_feed_40 ?_
    refine lv_iload_n hx hb dX9_feed_43 rfl (lv_at hl 1 rfl) ?_
    obtain ⟨hi, hw⟩ := hw
    refine r_iast hx hb hK hG (isB_9).1 (fun f => (isB_9).2 y f) hi dX9_feed_44 (fun H locs hG => ?_)
    refine lv_aload_n hx hb dX9_feed_45 rfl (lv_at hl 0 rfl) ?_
    refine lv_dup hx hb dX9_feed_46 rfl ?_
    refine r_get (C := RX9) (T := TX9) (Nf := 31) hx hb hts hown hK hG (by decide) rfl rfl inX9 16 (by decide) qF_X9_76 rfl dX9_feed_47 ?_
    refine lv_iconst (v := 1) hx hb dX9_feed_50 (by decide) ?_
    refine lv_iadd hx hb dX9_feed_51 ?_
    refine r_put (C := RX9) (T := TX9) (Nf := 31) hx hb hts hown hK hG (by decide) rfl rfl inX9 tyX9_ok nmX9 16 (by decide) qF_X9_76 rfl (((u2 st 9 ((st 0 16)).toNatClampNeg x1) 0 16) + 1) rfl rfl rfl (Nat.le_of_ble_eq_true rfl) dX9_feed_52 (fun H locs hG => ?_)
    refine lv_aload_n hx hb dX9_feed_55 rfl (lv_at hl 0 rfl) ?_
    refine r_get (C := RX9) (T := TX9) (Nf := 31) hx hb hts hown hK hG (by decide) rfl rfl inX9 16 (by decide) qF_X9_76 rfl dX9_feed_56 ?_
    exact r_iret hx hb hr hlk hK hG rfl hw dX9_feed_59
  · replace hw := hw.2 hc
    refine lv_aload_n hx hb dX9_feed_29 rfl (lv_at hl 0 rfl) ?_
    refine lv_iload_n hx hb dX9_feed_30 rfl (lv_at hl 2 rfl) ?_
    refine r_ki (r_run_V (k := 0) (As := [.int v2]) (rest := []) hx hb hml hown hts hK hN hG (c_X9_no l y v2 st _ hw) (by decide) rfl rfl rfl qM_X9_79 qI_X9_no qS_X9_no qN_X9 qC_X9_no hd_X9_no ⟨Nat.le_of_ble_eq_true rfl, Nat.le_of_ble_eq_true rfl⟩ hl.1 rfl (Nat.le_of_ble_eq_true rfl) dX9_feed_31) hG (fun r31 st31 H locs hw hG => ?_)
    exact r_iret hx hb hr hlk hK hG rfl hw dX9_feed_34
theorem hd_X9_feed : yX9_feed.cls ≠ "java/lang/invoke/MethodHandle" ∧ yX9_feed.cls ≠ "java/lang/invoke/VarHandle" ∧ (parseMethodDescriptor yX9_feed.desc).map (fun d => d.parameters.length) = some 1 := by decide +kernel
set_option maxRecDepth 100000 in
set_option maxHeartbeats 4000000 in
theorem c_X9_feed (l : Launch) (y : Sy) (x1 : Int32) (st : St) (K : Int32 → St → Prop) (hw : w_X9_feed x1 st K) : Ci 17 enM l yX9_feed cX9_feed 3 (some .int) 1 22 y [.ref (ad y 0), .int x1] st K := by
  refine ent (by decide) (Nat.le_of_ble_eq_true rfl) ?_
  intro p e s m below meth c C hG ls hl
  have hl : lv_has ls 3 [(0, .ref (ad y 0)), (1, .int x1)] := hl
  generalize ([.ref (ad y 0), .int x1] : List Value).toArray = args at C ⊢
  have C : Sd p s m args meth c cX9_feed 3 RX9 (some .int) y := C
  obtain ⟨hx, hb, hml, hown, hts, hr, hlk, hK, hN⟩ := id C
  generalize s.heap = H at hG ⊢
  generalize ([] : List Loc) = locs at hG ⊢
  unfold w_X9_feed at hw
  refine lv_iload_n hx hb dX9_feed_0 rfl (lv_at hl 1 rfl) ?_
  refine lv_iconst (v := 0) hx hb dX9_feed_1 (by decide) ?_
  refine lv_sipush (v := 255) hx hb dX9_feed_2 (by decide) ?_
  refine r_ki (r_run_S (As := [.int x1, .int 0, .int 255]) (rest := []) hx hb hml hown hts hK hN hG (c_X9_bound l y x1 0 255 st _ hw) qM_X9_72 qT_X9_bound qN_X9 qC_X9_bound hd_X9_bound ⟨Nat.le_of_ble_eq_true rfl, Nat.le_of_ble_eq_true rfl⟩ hl.1 rfl (Nat.le_of_ble_eq_true rfl) dX9_feed_5) hG (fun r5 st5 H locs hw hG => ?_)
  refine lv_istore_n (lv' := [(2, .int r5), (0, .ref (ad y 0)), (1, .int x1)]) hx hb dX9_feed_8 rfl hl (Nat.le_of_ble_eq_true rfl) rfl (fun ls hl => ?_)
  refine lv_iload_n hx hb dX9_feed_9 rfl (lv_at hl 0 rfl) ?_
  refine lv_if_ne (tgt := 25) hx hb dX9_feed_10 (by decide) (fun hc => ?_) (fun hc => ?_)
  · replace hw := hw.1 hc
    exact z_X9_feed_b25 l y x1 C  K  r5 st5 hG (lv_sub hl [1, 2, 0] rfl) hw
  · replace hw := hw.2 hc
    refine lv_aload_n hx hb dX9_feed_13 rfl (lv_at hl 1 rfl) ?_
    refine r_get (C := RX9) (T := TX9) (Nf := 31) hx hb hts hown hK hG (by decide) rfl rfl inX9 16 (by decide) qF_X9_76 rfl dX9_feed_14 ?_
    refine lv_bipush (v := 96) hx hb dX9_feed_17 (by decide) ?_
    refine lv_icmp_ne (tgt := 25) hx hb dX9_feed_19 (by decide) (fun hc => ?_) (fun hc => ?_)
    · replace hw := hw.1 hc
      exact z_X9_feed_b25 l y x1 C  K  r5 st5 hG (lv_sub hl [1, 2, 0] rfl) hw
    · replace hw := hw.2 hc
      refine lv_bipush (v := (-6)) hx hb dX9_feed_22 (by decide) ?_
      refine lv_istore_n (lv' := [(2, .int (-6)), (0, .ref (ad y 0)), (1, .int x1)]) hx hb dX9_feed_24 rfl hl (Nat.le_of_ble_eq_true rfl) rfl (fun ls hl => ?_)
      exact z_X9_feed_b25 l y x1 C  K  (-6) st5 hG (lv_sub hl [1, 2, 0] rfl) hw
theorem hd_X9_next : yX9_next.cls ≠ "java/lang/invoke/MethodHandle" ∧ yX9_next.cls ≠ "java/lang/invoke/VarHandle" ∧ (parseMethodDescriptor yX9_next.desc).map (fun d => d.parameters.length) = some 0 := by decide +kernel
set_option maxRecDepth 100000 in
set_option maxHeartbeats 4000000 in
theorem c_X9_next (l : Launch) (y : Sy)  (st : St) (K : Int32 → St → Prop) (hw : w_X9_next  st K) : Ci 17 enM l yX9_next cX9_next 1 (some .int) 0 0 y [.ref (ad y 0)] st K := by
  refine ent (by decide) (Nat.le_of_ble_eq_true rfl) ?_
  intro p e s m below meth c C hG ls hl
  have hl : lv_has ls 1 [(0, .ref (ad y 0))] := hl
  generalize ([.ref (ad y 0)] : List Value).toArray = args at C ⊢
  have C : Sd p s m args meth c cX9_next 1 RX9 (some .int) y := C
  obtain ⟨hx, hb, hml, hown, hts, hr, hlk, hK, hN⟩ := id C
  generalize s.heap = H at hG ⊢
  generalize ([] : List Loc) = locs at hG ⊢
  unfold w_X9_next at hw
  refine lv_aload_n hx hb dX9_next_0 rfl (lv_at hl 0 rfl) ?_
  refine r_get (C := RX9) (T := TX9) (Nf := 31) hx hb hts hown hK hG (by decide) rfl rfl inX9 17 (by decide) qF_X9_83 rfl dX9_next_1 ?_
  refine lv_aload_n hx hb dX9_next_4 rfl (lv_at hl 0 rfl) ?_
  refine r_get (C := RX9) (T := TX9) (Nf := 31) hx hb hts hown hK hG (by decide) rfl rfl inX9 16 (by decide) qF_X9_76 rfl dX9_next_5 ?_
  refine lv_icmp_ge (tgt := 23) hx hb dX9_next_8 (by decide) (fun hc => ?_) (fun hc => ?_)
  · replace hw := hw.1 hc
    refine lv_iconst (v := (-1)) hx hb dX9_next_23 (by decide) ?_
    exact r_iret hx hb hr hlk hK hG rfl hw dX9_next_24
  · replace hw := hw.2 hc
    refine lv_aload_n hx hb dX9_next_11 rfl (lv_at hl 0 rfl) ?_
    refine r_get (C := RX9) (T := TX9) (Nf := 31) hx hb hts hown hK hG (by decide) rfl rfl inX9 12 (by decide) qF_X9_34 rfl dX9_next_12 ?_
    refine lv_aload_n hx hb dX9_next_15 rfl (lv_at hl 0 rfl) ?_
    refine r_get (C := RX9) (T := TX9) (Nf := 31) hx hb hts hown hK hG (by decide) rfl rfl inX9 17 (by decide) qF_X9_83 rfl dX9_next_16 ?_
    obtain ⟨hi, hw⟩ := hw
    refine r_iald hx hb hK hG (isB_9).1 ((isB_9).2 y _) hi dX9_next_19 ?_
    refine lv_goto (tgt := 24) hx hb dX9_next_20 (by decide) ?_
    exact r_iret hx hb hr hlk hK hG rfl hw dX9_next_24
set_option maxRecDepth 100000 in
set_option maxHeartbeats 4000000 in
theorem z_X9_readsDigits_b56 {p : Program} {e : Env} {s : State} {m : MethodId} {args : Array Value} {below : List Frame} {meth : Method} {c : Code} (l : Launch) (y : Sy) (x1 : Int32) (x2 : Int32) (C : Sd p s m args meth c cX9_readsDigits 5 RX9 (some .boolean) y)  (K : Int32 → St → Prop)  (v3 : Int32) (st : St) {H : Heap} {locs : List Loc} {ls : Array Slot} (hG : gH 17 enM y st s H locs) (hl : lv_has ls 5 [(0, .ref (ad y 0)), (1, .int x1), (3, .int v3)]) (hw : w_X9_readsDigits_b56 x1 x2  K v3 st) : W p l e (rmm 1 22) s m args below meth c H locs 0 0 (MQ below (va_Qi K (gB 17 enM y) (gA 17 y)) args s 0 0 (gA 17 y)) (F0 m 56 ls []) := by
  obtain ⟨hx, hb, hml, hown, hts, hr, hlk, hK, hN⟩ := id C
  unfold w_X9_readsDigits_b56 at hw
  refine lv_aload_n hx hb dX9_readsDigits_56 rfl (lv_at hl 0 rfl) ?_
  refine r_get (C := RX9) (T := TX9) (Nf := 31) hx hb hts hown hK hG (by decide) rfl rfl inX9 15 (by decide) qF_X9_43 rfl dX9_readsDigits_57 ?_
  refine lv_iload_n hx hb dX9_readsDigits_60 rfl (lv_at hl 1 rfl) ?_
  refine lv_iload_n hx hb dX9_readsDigits_61 rfl (lv_at hl 2 rfl) ?_
  obtain ⟨hi, hw⟩ := hw
  refine r_iast hx hb hK hG (isB_12).1 (fun f => (isB_12).2 y f) hi dX9_readsDigits_62 (fun H locs hG => ?_)
  refine lv_iconst (v := 1) hx hb dX9_readsDigits_63 (by decide) ?_
  exact r_iret hx hb hr hlk hK hG rfl hw dX9_readsDigits_64
set_option maxRecDepth 100000 in
set_option maxHeartbeats 4000000 in
theorem z_X9_readsDigits_L5 {p : Program} {e : Env} {s : State} {m : MethodId} {args : Array Value} {below : List Frame} {meth : Method} {c : Code} (l : Launch) (y : Sy) (x1 : Int32) (x2 : Int32) (C : Sd p s m args meth c cX9_readsDigits 5 RX9 (some .boolean) y)  (K : Int32 → St → Prop)  : ∀ (n : Nat) (v3 : Int32) (v4 : Int32) (st : St) (H : Heap) (locs : List Loc) (ls : Array Slot), gH 17 enM y st s H locs → lv_has ls 5 [(0, .ref (ad y 0)), (1, .int x1), (2, .int x2), (3, .int v3), (4, .int v4)] → w_X9_readsDigits_L5 x1 x2  K n v3 v4 st → W p l e (rmm 1 22) s m args below meth c H locs 0 0 (MQ below (va_Qi K (gB 17 enM y) (gA 17 y)) args s 0 0 (gA 17 y)) (F0 m 5 ls []) := by
  obtain ⟨hx, hb, hml, hown, hts, hr, hlk, hK, hN⟩ := id C
  intro n
  induction n with
  | zero => intro v3 v4 st H locs ls hG hl hw; exact False.elim hw
  | succ n hc5 =>
    intro v3 v4 st H locs ls hG hl hw
    have hw : w_X9_readsDigits_L5q x1 x2  K (fun v3 v4 st => w_X9_readsDigits_L5 x1 x2  K n v3 v4 st) v3 v4 st := hw
    unfold w_X9_readsDigits_L5q at hw
    refine lv_iload hx hb dX9_readsDigits_5 (lv_at hl 4 rfl) ?_
    refine lv_iload_n hx hb dX9_readsDigits_7 rfl (lv_at hl 2 rfl) ?_
    refine lv_icmp_ge (tgt := 56) hx hb dX9_readsDigits_8 (by decide) (fun hc => ?_) (fun hc => ?_)
    · replace hw := hw.1 hc
      exact z_X9_readsDigits_b56 l y x1 x2 C  K  v3 st hG (lv_sub hl [0, 1, 3] rfl) hw
    · replace hw := hw.2 hc
      refine lv_aload_n hx hb dX9_readsDigits_11 rfl (lv_at hl 0 rfl) ?_
      refine r_ki (r_run_V (k := 0) (As := []) (rest := []) hx hb hml hown hts hK hN hG (c_X9_next l y  st _ hw) (by decide) rfl rfl rfl qM_X9_86 qI_X9_next qS_X9_next qN_X9 qC_X9_next hd_X9_next ⟨Nat.le_of_ble_eq_true rfl, Nat.le_of_ble_eq_true rfl⟩ hl.1 rfl (Nat.le_of_ble_eq_true rfl) dX9_readsDigits_12) hG (fun r12 st12 H locs hw hG => ?_)
      refine lv_bipush (v := 48) hx hb dX9_readsDigits_15 (by decide) ?_
      refine lv_bipush (v := 57) hx hb dX9_readsDigits_17 (by decide) ?_
      refine r_ki (r_run_S (As := [.int r12, .int 48, .int 57]) (rest := []) hx hb hml hown hts hK hN hG (c_X9_isIn l y r12 48 57 st12 _ hw) qM_X9_90 qT_X9_isIn qN_X9 qC_X9_isIn hd_X9_isIn ⟨Nat.le_of_ble_eq_true rfl, Nat.le_of_ble_eq_true rfl⟩ hl.1 rfl (Nat.le_of_ble_eq_true rfl) dX9_readsDigits_19) hG (fun r19 st19 H locs hw hG => ?_)
      refine lv_if_ne (tgt := 27) hx hb dX9_readsDigits_22 (by decide) (fun hc => ?_) (fun hc => ?_)
      · replace hw := hw.1 hc
        refine lv_bipush (v := 10) hx hb dX9_readsDigits_27 (by decide) ?_
        refine lv_iload_n hx hb dX9_readsDigits_29 rfl (lv_at hl 3 rfl) ?_
        refine lv_imul hx hb dX9_readsDigits_30 ?_
        refine lv_aload_n hx hb dX9_readsDigits_31 rfl (lv_at hl 0 rfl) ?_
        refine r_ki (r_run_V (k := 0) (As := []) (rest := [.int (10 * v3)]) hx hb hml hown hts hK hN hG (c_X9_next l y  st19 _ hw) (by decide) rfl rfl rfl qM_X9_86 qI_X9_next qS_X9_next qN_X9 qC_X9_next hd_X9_next ⟨Nat.le_of_ble_eq_true rfl, Nat.le_of_ble_eq_true rfl⟩ hl.1 rfl (Nat.le_of_ble_eq_true rfl) dX9_readsDigits_32) hG (fun r32 st32 H locs hw hG => ?_)
        refine lv_iadd hx hb dX9_readsDigits_35 ?_
        refine lv_bipush (v := 48) hx hb dX9_readsDigits_36 (by decide) ?_
        refine lv_isub hx hb dX9_readsDigits_38 ?_
        refine lv_istore_n (lv' := [(3, .int (((10 * v3) + r32) - 48)), (0, .ref (ad y 0)), (1, .int x1), (2, .int x2), (4, .int v4)]) hx hb dX9_readsDigits_39 rfl hl (Nat.le_of_ble_eq_true rfl) rfl (fun ls hl => ?_)
        refine lv_aload_n hx hb dX9_readsDigits_40 rfl (lv_at hl 1 rfl) ?_
        refine lv_dup hx hb dX9_readsDigits_41 rfl ?_
        refine r_get (C := RX9) (T := TX9) (Nf := 31) hx hb hts hown hK hG (by decide) rfl rfl inX9 17 (by decide) qF_X9_83 rfl dX9_readsDigits_42 ?_
        refine lv_iconst (v := 1) hx hb dX9_readsDigits_45 (by decide) ?_
        refine lv_iadd hx hb dX9_readsDigits_46 ?_
        refine r_put (C := RX9) (T := TX9) (Nf := 31) hx hb hts hown hK hG (by decide) rfl rfl inX9 tyX9_ok nmX9 17 (by decide) qF_X9_83 rfl ((st32 0 17) + 1) rfl rfl rfl (Nat.le_of_ble_eq_true rfl) dX9_readsDigits_47 (fun H locs hG => ?_)
        refine lv_iinc (v := (v4 + 1)) (lv' := [(4, .int (v4 + 1)), (3, .int (((10 * v3) + r32) - 48)), (0, .ref (ad y 0)), (1, .int x1), (2, .int x2)]) hx hb dX9_readsDigits_50 hl (k := 4) rfl rfl (Nat.le_of_ble_eq_true rfl) rfl (fun ls hl => ?_)
        refine lv_goto (tgt := 5) hx hb dX9_readsDigits_53 (by decide) ?_
        exact hc5 (((10 * v3) + r32) - 48) (v4 + 1) (u2 st32 0 17 ((st32 0 17) + 1)) H locs _ hG (lv_sub hl [2, 3, 4, 1, 0] rfl) hw
      · replace hw := hw.2 hc
        refine lv_iconst (v := 0) hx hb dX9_readsDigits_25 (by decide) ?_
        exact r_iret hx hb hr hlk hK hG rfl hw dX9_readsDigits_26
theorem hd_X9_readsDigits : yX9_readsDigits.cls ≠ "java/lang/invoke/MethodHandle" ∧ yX9_readsDigits.cls ≠ "java/lang/invoke/VarHandle" ∧ (parseMethodDescriptor yX9_readsDigits.desc).map (fun d => d.parameters.length) = some 2 := by decide +kernel
set_option maxRecDepth 100000 in
set_option maxHeartbeats 4000000 in
theorem c_X9_readsDigits (l : Launch) (y : Sy) (x1 : Int32) (x2 : Int32) (st : St) (K : Int32 → St → Prop) (hw : w_X9_readsDigits x1 x2 st K) : Ci 17 enM l yX9_readsDigits cX9_readsDigits 5 (some .boolean) 1 22 y [.ref (ad y 0), .int x1, .int x2] st K := by
  refine ent (by decide) (Nat.le_of_ble_eq_true rfl) ?_
  intro p e s m below meth c C hG ls hl
  have hl : lv_has ls 5 [(0, .ref (ad y 0)), (1, .int x1), (2, .int x2)] := hl
  generalize ([.ref (ad y 0), .int x1, .int x2] : List Value).toArray = args at C ⊢
  have C : Sd p s m args meth c cX9_readsDigits 5 RX9 (some .boolean) y := C
  obtain ⟨hx, hb, hml, hown, hts, hr, hlk, hK, hN⟩ := id C
  generalize s.heap = H at hG ⊢
  generalize ([] : List Loc) = locs at hG ⊢
  unfold w_X9_readsDigits at hw
  refine lv_iconst (v := 0) hx hb dX9_readsDigits_0 (by decide) ?_
  refine lv_istore_n (lv' := [(3, .int 0), (0, .ref (ad y 0)), (1, .int x1), (2, .int x2)]) hx hb dX9_readsDigits_1 rfl hl (Nat.le_of_ble_eq_true rfl) rfl (fun ls hl => ?_)
  refine lv_iconst (v := 0) hx hb dX9_readsDigits_2 (by decide) ?_
  refine lv_istore (lv' := [(4, .int 0), (3, .int 0), (0, .ref (ad y 0)), (1, .int x1), (2, .int x2)]) hx hb dX9_readsDigits_3 hl (Nat.le_of_ble_eq_true rfl) rfl (fun ls hl => ?_)
  obtain ⟨n5, hw⟩ := hw
  exact z_X9_readsDigits_L5 l y x1 x2 C  K  n5 0 0 st H locs _ hG (lv_sub hl [2, 3, 4, 1, 0] rfl) hw
theorem hd_X9_readsAll : yX9_readsAll.cls ≠ "java/lang/invoke/MethodHandle" ∧ yX9_readsAll.cls ≠ "java/lang/invoke/VarHandle" ∧ (parseMethodDescriptor yX9_readsAll.desc).map (fun d => d.parameters.length) = some 2 := by decide +kernel
set_option maxRecDepth 100000 in
set_option maxHeartbeats 4000000 in
theorem c_X9_readsAll (l : Launch) (y : Sy) (x1 : Int32) (x2 : Int32) (st : St) (K : Int32 → St → Prop) (hw : w_X9_readsAll x1 x2 st K) : Ci 17 enM l yX9_readsAll cX9_readsAll 3 (some .boolean) 2 46 y [.ref (ad y 0), .int x1, .int x2] st K := by
  refine ent (by decide) (Nat.le_of_ble_eq_true rfl) ?_
  intro p e s m below meth c C hG ls hl
  have hl : lv_has ls 3 [(0, .ref (ad y 0)), (1, .int x1), (2, .int x2)] := hl
  generalize ([.ref (ad y 0), .int x1, .int x2] : List Value).toArray = args at C ⊢
  have C : Sd p s m args meth c cX9_readsAll 3 RX9 (some .boolean) y := C
  obtain ⟨hx, hb, hml, hown, hts, hr, hlk, hK, hN⟩ := id C
  generalize s.heap = H at hG ⊢
  generalize ([] : List Loc) = locs at hG ⊢
  unfold w_X9_readsAll at hw
  refine lv_iload_n hx hb dX9_readsAll_0 rfl (lv_at hl 1 rfl) ?_
  by_cases g103 : x1 = 103
  · replace hw := hw.1 g103
    refine r_tabin (v := 103) (tgt := 168) hx hb dX9_readsAll_1 g103 (by decide) (by decide) rfl (by decide) ?_
    refine lv_aload_n hx hb dX9_readsAll_168 rfl (lv_at hl 0 rfl) ?_
    refine lv_iload_n hx hb dX9_readsAll_169 rfl (lv_at hl 2 rfl) ?_
    refine lv_iconst (v := 1) hx hb dX9_readsAll_170 (by decide) ?_
    refine r_ki (r_run_V (k := 0) (As := [.int x2, .int 1]) (rest := []) hx hb hml hown hts hK hN hG (c_X9_readsDigits l y x2 1 st _ hw) (by decide) rfl rfl rfl qM_X9_94 qI_X9_readsDigits qS_X9_readsDigits qN_X9 qC_X9_readsDigits hd_X9_readsDigits ⟨Nat.le_of_ble_eq_true rfl, Nat.le_of_ble_eq_true rfl⟩ hl.1 rfl (Nat.le_of_ble_eq_true rfl) dX9_readsAll_171) hG (fun r171 st171 H locs hw hG => ?_)
    refine lv_if_eq (tgt := 192) hx hb dX9_readsAll_174 (by decide) (fun hc => ?_) (fun hc => ?_)
    · replace hw := hw.1 hc
      refine lv_iconst (v := 0) hx hb dX9_readsAll_192 (by decide) ?_
      exact r_iret hx hb hr hlk hK hG rfl hw dX9_readsAll_193
    · replace hw := hw.2 hc
      refine lv_aload_n hx hb dX9_readsAll_177 rfl (lv_at hl 0 rfl) ?_
      refine lv_iload_n hx hb dX9_readsAll_178 rfl (lv_at hl 2 rfl) ?_
      refine lv_iconst (v := 1) hx hb dX9_readsAll_179 (by decide) ?_
      refine lv_iadd hx hb dX9_readsAll_180 ?_
      refine lv_iconst (v := 1) hx hb dX9_readsAll_181 (by decide) ?_
      refine r_ki (r_run_V (k := 0) (As := [.int (x2 + 1), .int 1]) (rest := []) hx hb hml hown hts hK hN hG (c_X9_readsDigits l y (x2 + 1) 1 st171 _ hw) (by decide) rfl rfl rfl qM_X9_94 qI_X9_readsDigits qS_X9_readsDigits qN_X9 qC_X9_readsDigits hd_X9_readsDigits ⟨Nat.le_of_ble_eq_true rfl, Nat.le_of_ble_eq_true rfl⟩ hl.1 rfl (Nat.le_of_ble_eq_true rfl) dX9_readsAll_182) hG (fun r182 st182 H locs hw hG => ?_)
      refine lv_if_eq (tgt := 192) hx hb dX9_readsAll_185 (by decide) (fun hc => ?_) (fun hc => ?_)
      · replace hw := hw.1 hc
        refine lv_iconst (v := 0) hx hb dX9_readsAll_192 (by decide) ?_
        exact r_iret hx hb hr hlk hK hG rfl hw dX9_readsAll_193
      · replace hw := hw.2 hc
        refine lv_iconst (v := 1) hx hb dX9_readsAll_188 (by decide) ?_
        refine lv_goto (tgt := 193) hx hb dX9_readsAll_189 (by decide) ?_
        exact r_iret hx hb hr hlk hK hG rfl hw dX9_readsAll_193
  replace hw := hw.2 g103
  by_cases g104 : x1 = 104
  · replace hw := hw.1 g104
    refine r_tabin (v := 104) (tgt := 105) hx hb dX9_readsAll_1 g104 (by decide) (by decide) rfl (by decide) ?_
    refine lv_aload_n hx hb dX9_readsAll_105 rfl (lv_at hl 0 rfl) ?_
    refine lv_iload_n hx hb dX9_readsAll_106 rfl (lv_at hl 2 rfl) ?_
    refine lv_iconst (v := 1) hx hb dX9_readsAll_107 (by decide) ?_
    refine r_ki (r_run_V (k := 0) (As := [.int x2, .int 1]) (rest := []) hx hb hml hown hts hK hN hG (c_X9_readsDigits l y x2 1 st _ hw) (by decide) rfl rfl rfl qM_X9_94 qI_X9_readsDigits qS_X9_readsDigits qN_X9 qC_X9_readsDigits hd_X9_readsDigits ⟨Nat.le_of_ble_eq_true rfl, Nat.le_of_ble_eq_true rfl⟩ hl.1 rfl (Nat.le_of_ble_eq_true rfl) dX9_readsAll_108) hG (fun r108 st108 H locs hw hG => ?_)
    refine lv_if_eq (tgt := 140) hx hb dX9_readsAll_111 (by decide) (fun hc => ?_) (fun hc => ?_)
    · replace hw := hw.1 hc
      refine lv_iconst (v := 0) hx hb dX9_readsAll_140 (by decide) ?_
      exact r_iret hx hb hr hlk hK hG rfl hw dX9_readsAll_141
    · replace hw := hw.2 hc
      refine lv_aload_n hx hb dX9_readsAll_114 rfl (lv_at hl 0 rfl) ?_
      refine lv_iload_n hx hb dX9_readsAll_115 rfl (lv_at hl 2 rfl) ?_
      refine lv_iconst (v := 1) hx hb dX9_readsAll_116 (by decide) ?_
      refine lv_iadd hx hb dX9_readsAll_117 ?_
      refine lv_iconst (v := 1) hx hb dX9_readsAll_118 (by decide) ?_
      refine r_ki (r_run_V (k := 0) (As := [.int (x2 + 1), .int 1]) (rest := []) hx hb hml hown hts hK hN hG (c_X9_readsDigits l y (x2 + 1) 1 st108 _ hw) (by decide) rfl rfl rfl qM_X9_94 qI_X9_readsDigits qS_X9_readsDigits qN_X9 qC_X9_readsDigits hd_X9_readsDigits ⟨Nat.le_of_ble_eq_true rfl, Nat.le_of_ble_eq_true rfl⟩ hl.1 rfl (Nat.le_of_ble_eq_true rfl) dX9_readsAll_119) hG (fun r119 st119 H locs hw hG => ?_)
      refine lv_if_eq (tgt := 140) hx hb dX9_readsAll_122 (by decide) (fun hc => ?_) (fun hc => ?_)
      · replace hw := hw.1 hc
        refine lv_iconst (v := 0) hx hb dX9_readsAll_140 (by decide) ?_
        exact r_iret hx hb hr hlk hK hG rfl hw dX9_readsAll_141
      · replace hw := hw.2 hc
        refine lv_aload_n hx hb dX9_readsAll_125 rfl (lv_at hl 0 rfl) ?_
        refine lv_iload_n hx hb dX9_readsAll_126 rfl (lv_at hl 2 rfl) ?_
        refine lv_iconst (v := 2) hx hb dX9_readsAll_127 (by decide) ?_
        refine lv_iadd hx hb dX9_readsAll_128 ?_
        refine lv_iconst (v := 2) hx hb dX9_readsAll_129 (by decide) ?_
        refine r_ki (r_run_V (k := 0) (As := [.int (x2 + 2), .int 2]) (rest := []) hx hb hml hown hts hK hN hG (c_X9_readsDigits l y (x2 + 2) 2 st119 _ hw) (by decide) rfl rfl rfl qM_X9_94 qI_X9_readsDigits qS_X9_readsDigits qN_X9 qC_X9_readsDigits hd_X9_readsDigits ⟨Nat.le_of_ble_eq_true rfl, Nat.le_of_ble_eq_true rfl⟩ hl.1 rfl (Nat.le_of_ble_eq_true rfl) dX9_readsAll_130) hG (fun r130 st130 H locs hw hG => ?_)
        refine lv_if_eq (tgt := 140) hx hb dX9_readsAll_133 (by decide) (fun hc => ?_) (fun hc => ?_)
        · replace hw := hw.1 hc
          refine lv_iconst (v := 0) hx hb dX9_readsAll_140 (by decide) ?_
          exact r_iret hx hb hr hlk hK hG rfl hw dX9_readsAll_141
        · replace hw := hw.2 hc
          refine lv_iconst (v := 1) hx hb dX9_readsAll_136 (by decide) ?_
          refine lv_goto (tgt := 141) hx hb dX9_readsAll_137 (by decide) ?_
          exact r_iret hx hb hr hlk hK hG rfl hw dX9_readsAll_141
  replace hw := hw.2 g104
  by_cases g107 : x1 = 107
  · replace hw := hw.1 g107
    refine r_tabin (v := 107) (tgt := 68) hx hb dX9_readsAll_1 g107 (by decide) (by decide) rfl (by decide) ?_
    refine lv_aload_n hx hb dX9_readsAll_68 rfl (lv_at hl 0 rfl) ?_
    refine lv_iload_n hx hb dX9_readsAll_69 rfl (lv_at hl 2 rfl) ?_
    refine lv_iconst (v := 1) hx hb dX9_readsAll_70 (by decide) ?_
    refine r_ki (r_run_V (k := 0) (As := [.int x2, .int 1]) (rest := []) hx hb hml hown hts hK hN hG (c_X9_readsDigits l y x2 1 st _ hw) (by decide) rfl rfl rfl qM_X9_94 qI_X9_readsDigits qS_X9_readsDigits qN_X9 qC_X9_readsDigits hd_X9_readsDigits ⟨Nat.le_of_ble_eq_true rfl, Nat.le_of_ble_eq_true rfl⟩ hl.1 rfl (Nat.le_of_ble_eq_true rfl) dX9_readsAll_71) hG (fun r71 st71 H locs hw hG => ?_)
    refine lv_if_eq (tgt := 103) hx hb dX9_readsAll_74 (by decide) (fun hc => ?_) (fun hc => ?_)
    · replace hw := hw.1 hc
      refine lv_iconst (v := 0) hx hb dX9_readsAll_103 (by decide) ?_
      exact r_iret hx hb hr hlk hK hG rfl hw dX9_readsAll_104
    · replace hw := hw.2 hc
      refine lv_aload_n hx hb dX9_readsAll_77 rfl (lv_at hl 0 rfl) ?_
      refine lv_iload_n hx hb dX9_readsAll_78 rfl (lv_at hl 2 rfl) ?_
      refine lv_iconst (v := 1) hx hb dX9_readsAll_79 (by decide) ?_
      refine lv_iadd hx hb dX9_readsAll_80 ?_
      refine lv_iconst (v := 1) hx hb dX9_readsAll_81 (by decide) ?_
      refine r_ki (r_run_V (k := 0) (As := [.int (x2 + 1), .int 1]) (rest := []) hx hb hml hown hts hK hN hG (c_X9_readsDigits l y (x2 + 1) 1 st71 _ hw) (by decide) rfl rfl rfl qM_X9_94 qI_X9_readsDigits qS_X9_readsDigits qN_X9 qC_X9_readsDigits hd_X9_readsDigits ⟨Nat.le_of_ble_eq_true rfl, Nat.le_of_ble_eq_true rfl⟩ hl.1 rfl (Nat.le_of_ble_eq_true rfl) dX9_readsAll_82) hG (fun r82 st82 H locs hw hG => ?_)
      refine lv_if_eq (tgt := 103) hx hb dX9_readsAll_85 (by decide) (fun hc => ?_) (fun hc => ?_)
      · replace hw := hw.1 hc
        refine lv_iconst (v := 0) hx hb dX9_readsAll_103 (by decide) ?_
        exact r_iret hx hb hr hlk hK hG rfl hw dX9_readsAll_104
      · replace hw := hw.2 hc
        refine lv_aload_n hx hb dX9_readsAll_88 rfl (lv_at hl 0 rfl) ?_
        refine lv_iload_n hx hb dX9_readsAll_89 rfl (lv_at hl 2 rfl) ?_
        refine lv_iconst (v := 2) hx hb dX9_readsAll_90 (by decide) ?_
        refine lv_iadd hx hb dX9_readsAll_91 ?_
        refine lv_iconst (v := 1) hx hb dX9_readsAll_92 (by decide) ?_
        refine r_ki (r_run_V (k := 0) (As := [.int (x2 + 2), .int 1]) (rest := []) hx hb hml hown hts hK hN hG (c_X9_readsDigits l y (x2 + 2) 1 st82 _ hw) (by decide) rfl rfl rfl qM_X9_94 qI_X9_readsDigits qS_X9_readsDigits qN_X9 qC_X9_readsDigits hd_X9_readsDigits ⟨Nat.le_of_ble_eq_true rfl, Nat.le_of_ble_eq_true rfl⟩ hl.1 rfl (Nat.le_of_ble_eq_true rfl) dX9_readsAll_93) hG (fun r93 st93 H locs hw hG => ?_)
        refine lv_if_eq (tgt := 103) hx hb dX9_readsAll_96 (by decide) (fun hc => ?_) (fun hc => ?_)
        · replace hw := hw.1 hc
          refine lv_iconst (v := 0) hx hb dX9_readsAll_103 (by decide) ?_
          exact r_iret hx hb hr hlk hK hG rfl hw dX9_readsAll_104
        · replace hw := hw.2 hc
          refine lv_iconst (v := 1) hx hb dX9_readsAll_99 (by decide) ?_
          refine lv_goto (tgt := 104) hx hb dX9_readsAll_100 (by decide) ?_
          exact r_iret hx hb hr hlk hK hG rfl hw dX9_readsAll_104
  replace hw := hw.2 g107
  by_cases g108 : x1 = 108
  · replace hw := hw.1 g108
    refine r_tabin (v := 108) (tgt := 142) hx hb dX9_readsAll_1 g108 (by decide) (by decide) rfl (by decide) ?_
    refine lv_aload_n hx hb dX9_readsAll_142 rfl (lv_at hl 0 rfl) ?_
    refine lv_iload_n hx hb dX9_readsAll_143 rfl (lv_at hl 2 rfl) ?_
    refine lv_iconst (v := 2) hx hb dX9_readsAll_144 (by decide) ?_
    refine r_ki (r_run_V (k := 0) (As := [.int x2, .int 2]) (rest := []) hx hb hml hown hts hK hN hG (c_X9_readsDigits l y x2 2 st _ hw) (by decide) rfl rfl rfl qM_X9_94 qI_X9_readsDigits qS_X9_readsDigits qN_X9 qC_X9_readsDigits hd_X9_readsDigits ⟨Nat.le_of_ble_eq_true rfl, Nat.le_of_ble_eq_true rfl⟩ hl.1 rfl (Nat.le_of_ble_eq_true rfl) dX9_readsAll_145) hG (fun r145 st145 H locs hw hG => ?_)
    refine lv_if_eq (tgt := 166) hx hb dX9_readsAll_148 (by decide) (fun hc => ?_) (fun hc => ?_)
    · replace hw := hw.1 hc
      refine lv_iconst (v := 0) hx hb dX9_readsAll_166 (by decide) ?_
      exact r_iret hx hb hr hlk hK hG rfl hw dX9_readsAll_167
    · replace hw := hw.2 hc
      refine lv_aload_n hx hb dX9_readsAll_151 rfl (lv_at hl 0 rfl) ?_
      refine lv_iload_n hx hb dX9_readsAll_152 rfl (lv_at hl 2 rfl) ?_
      refine lv_iconst (v := 1) hx hb dX9_readsAll_153 (by decide) ?_
      refine lv_iadd hx hb dX9_readsAll_154 ?_
      refine lv_iconst (v := 1) hx hb dX9_readsAll_155 (by decide) ?_
      refine r_ki (r_run_V (k := 0) (As := [.int (x2 + 1), .int 1]) (rest := []) hx hb hml hown hts hK hN hG (c_X9_readsDigits l y (x2 + 1) 1 st145 _ hw) (by decide) rfl rfl rfl qM_X9_94 qI_X9_readsDigits qS_X9_readsDigits qN_X9 qC_X9_readsDigits hd_X9_readsDigits ⟨Nat.le_of_ble_eq_true rfl, Nat.le_of_ble_eq_true rfl⟩ hl.1 rfl (Nat.le_of_ble_eq_true rfl) dX9_readsAll_156) hG (fun r156 st156 H locs hw hG => ?_)
      refine lv_if_eq (tgt := 166) hx hb dX9_readsAll_159 (by decide) (fun hc => ?_) (fun hc => ?_)
      · replace hw := hw.1 hc
        refine lv_iconst (v := 0) hx hb dX9_readsAll_166 (by decide) ?_
        exact r_iret hx hb hr hlk hK hG rfl hw dX9_readsAll_167
      · replace hw := hw.2 hc
        refine lv_iconst (v := 1) hx hb dX9_readsAll_162 (by decide) ?_
        refine lv_goto (tgt := 167) hx hb dX9_readsAll_163 (by decide) ?_
        exact r_iret hx hb hr hlk hK hG rfl hw dX9_readsAll_167
  replace hw := hw.2 g108
  by_cases g115 : x1 = 115
  · replace hw := hw.1 g115
    refine r_tabin (v := 115) (tgt := 194) hx hb dX9_readsAll_1 g115 (by decide) (by decide) rfl (by decide) ?_
    refine lv_aload_n hx hb dX9_readsAll_194 rfl (lv_at hl 0 rfl) ?_
    refine lv_iload_n hx hb dX9_readsAll_195 rfl (lv_at hl 2 rfl) ?_
    refine lv_iconst (v := 1) hx hb dX9_readsAll_196 (by decide) ?_
    refine r_ki (r_run_V (k := 0) (As := [.int x2, .int 1]) (rest := []) hx hb hml hown hts hK hN hG (c_X9_readsDigits l y x2 1 st _ hw) (by decide) rfl rfl rfl qM_X9_94 qI_X9_readsDigits qS_X9_readsDigits qN_X9 qC_X9_readsDigits hd_X9_readsDigits ⟨Nat.le_of_ble_eq_true rfl, Nat.le_of_ble_eq_true rfl⟩ hl.1 rfl (Nat.le_of_ble_eq_true rfl) dX9_readsAll_197) hG (fun r197 st197 H locs hw hG => ?_)
    exact r_iret hx hb hr hlk hK hG (r_nb hw.1) hw.2 dX9_readsAll_200
  replace hw := hw.2 g115
  refine r_tabdef (tgt := 201) hx hb dX9_readsAll_1 (by decide) (fun v q1 q2 q3 => ?_) ?_
  · rcases (show v = 103 ∨ v = 104 ∨ v = 105 ∨ v = 106 ∨ v = 107 ∨ v = 108 ∨ v = 109 ∨ v = 110 ∨ v = 111 ∨ v = 112 ∨ v = 113 ∨ v = 114 ∨ v = 115 by omega) with rfl | rfl | rfl | rfl | rfl | rfl | rfl | rfl | rfl | rfl | rfl | rfl | rfl
    · exact absurd (r_toI (v := 103) q3) g103
    · exact absurd (r_toI (v := 104) q3) g104
    · rfl
    · rfl
    · exact absurd (r_toI (v := 107) q3) g107
    · exact absurd (r_toI (v := 108) q3) g108
    · rfl
    · rfl
    · rfl
    · rfl
    · rfl
    · rfl
    · exact absurd (r_toI (v := 115) q3) g115
  refine lv_aload_n hx hb dX9_readsAll_201 rfl (lv_at hl 0 rfl) ?_
  refine lv_iload_n hx hb dX9_readsAll_202 rfl (lv_at hl 2 rfl) ?_
  refine lv_iconst (v := 2) hx hb dX9_readsAll_203 (by decide) ?_
  refine r_ki (r_run_V (k := 0) (As := [.int x2, .int 2]) (rest := []) hx hb hml hown hts hK hN hG (c_X9_readsDigits l y x2 2 st _ hw) (by decide) rfl rfl rfl qM_X9_94 qI_X9_readsDigits qS_X9_readsDigits qN_X9 qC_X9_readsDigits hd_X9_readsDigits ⟨Nat.le_of_ble_eq_true rfl, Nat.le_of_ble_eq_true rfl⟩ hl.1 rfl (Nat.le_of_ble_eq_true rfl) dX9_readsAll_204) hG (fun r204 st204 H locs hw hG => ?_)
  exact r_iret hx hb hr hlk hK hG (r_nb hw.1) hw.2 dX9_readsAll_207
set_option maxRecDepth 100000 in
set_option maxHeartbeats 4000000 in
theorem z_X9_statement_b43 {p : Program} {e : Env} {s : State} {m : MethodId} {args : Array Value} {below : List Frame} {meth : Method} {c : Code} (l : Launch) (y : Sy)  (C : Sd p s m args meth c cX9_statement 2 RX9 (some .boolean) y)  (K : Int32 → St → Prop)  (v1 : Int32) (st : St) {H : Heap} {locs : List Loc} {ls : Array Slot} (hG : gH 17 enM y st s H locs) (hl : lv_has ls 2 [(0, .ref (ad y 0)), (1, .int v1)]) (hw : w_X9_statement_b43   K v1 st) : W p l e (rmm 3 68) s m args below meth c H locs 0 0 (MQ below (va_Qi K (gB 17 enM y) (gA 17 y)) args s 0 0 (gA 17 y)) (F0 m 43 ls []) := by
  obtain ⟨hx, hb, hml, hown, hts, hr, hlk, hK, hN⟩ := id C
  unfold w_X9_statement_b43 at hw
  refine lv_aload_n hx hb dX9_statement_43 rfl (lv_at hl 0 rfl) ?_
  refine r_get (C := RX9) (T := TX9) (Nf := 31) hx hb hts hown hK hG (by decide) rfl rfl inX9 13 (by decide) qF_X9_37 rfl dX9_statement_44 ?_
  refine lv_aload_n hx hb dX9_statement_47 rfl (lv_at hl 0 rfl) ?_
  refine r_get (C := RX9) (T := TX9) (Nf := 31) hx hb hts hown hK hG (by decide) rfl rfl inX9 18 (by decide) qF_X9_98 rfl dX9_statement_48 ?_
  refine lv_iload_n hx hb dX9_statement_51 rfl (lv_at hl 1 rfl) ?_
  obtain ⟨hi, hw⟩ := hw
  refine r_iast hx hb hK hG (isB_10).1 (fun f => (isB_10).2 y f) hi dX9_statement_52 (fun H locs hG => ?_)
  refine lv_aload_n hx hb dX9_statement_53 rfl (lv_at hl 0 rfl) ?_
  refine r_get (C := RX9) (T := TX9) (Nf := 31) hx hb hts hown hK hG (by decide) rfl rfl inX9 14 (by decide) qF_X9_40 rfl dX9_statement_54 ?_
  refine lv_aload_n hx hb dX9_statement_57 rfl (lv_at hl 0 rfl) ?_
  refine r_get (C := RX9) (T := TX9) (Nf := 31) hx hb hts hown hK hG (by decide) rfl rfl inX9 18 (by decide) qF_X9_98 rfl dX9_statement_58 ?_
  refine lv_aload_n hx hb dX9_statement_61 rfl (lv_at hl 0 rfl) ?_
  refine r_get (C := RX9) (T := TX9) (Nf := 31) hx hb hts hown hK hG (by decide) rfl rfl inX9 17 (by decide) qF_X9_83 rfl dX9_statement_62 ?_
  obtain ⟨hi, hw⟩ := hw
  refine r_iast hx hb hK hG (isB_11).1 (fun f => (isB_11).2 y f) hi dX9_statement_65 (fun H locs hG => ?_)
  refine lv_aload_n hx hb dX9_statement_66 rfl (lv_at hl 0 rfl) ?_
  refine lv_dup hx hb dX9_statement_67 rfl ?_
  refine r_get (C := RX9) (T := TX9) (Nf := 31) hx hb hts hown hK hG (by decide) rfl rfl inX9 17 (by decide) qF_X9_83 rfl dX9_statement_68 ?_
  refine lv_iconst (v := 1) hx hb dX9_statement_71 (by decide) ?_
  refine lv_iadd hx hb dX9_statement_72 ?_
  refine r_put (C := RX9) (T := TX9) (Nf := 31) hx hb hts hown hK hG (by decide) rfl rfl inX9 tyX9_ok nmX9 17 (by decide) qF_X9_83 rfl (((u2 (u2 st 10 ((st 0 18)).toNatClampNeg v1) 11 (((u2 st 10 ((st 0 18)).toNatClampNeg v1) 0 18)).toNatClampNeg ((u2 st 10 ((st 0 18)).toNatClampNeg v1) 0 17)) 0 17) + 1) rfl rfl rfl (Nat.le_of_ble_eq_true rfl) dX9_statement_73 (fun H locs hG => ?_)
  refine lv_aload_n hx hb dX9_statement_76 rfl (lv_at hl 0 rfl) ?_
  refine lv_iload_n hx hb dX9_statement_77 rfl (lv_at hl 1 rfl) ?_
  refine lv_iconst (v := 3) hx hb dX9_statement_78 (by decide) ?_
  refine lv_aload_n hx hb dX9_statement_79 rfl (lv_at hl 0 rfl) ?_
  refine r_get (C := RX9) (T := TX9) (Nf := 31) hx hb hts hown hK hG (by decide) rfl rfl inX9 18 (by decide) qF_X9_98 rfl dX9_statement_80 ?_
  refine lv_imul hx hb dX9_statement_83 ?_
  refine r_ki (r_run_V (k := 0) (As := [.int v1, .int (3 * ((u2 (u2 (u2 st 10 ((st 0 18)).toNatClampNeg v1) 11 (((u2 st 10 ((st 0 18)).toNatClampNeg v1) 0 18)).toNatClampNeg ((u2 st 10 ((st 0 18)).toNatClampNeg v1) 0 17)) 0 17 (((u2 (u2 st 10 ((st 0 18)).toNatClampNeg v1) 11 (((u2 st 10 ((st 0 18)).toNatClampNeg v1) 0 18)).toNatClampNeg ((u2 st 10 ((st 0 18)).toNatClampNeg v1) 0 17)) 0 17) + 1)) 0 18))]) (rest := []) hx hb hml hown hts hK hN hG (c_X9_readsAll l y v1 (3 * ((u2 (u2 (u2 st 10 ((st 0 18)).toNatClampNeg v1) 11 (((u2 st 10 ((st 0 18)).toNatClampNeg v1) 0 18)).toNatClampNeg ((u2 st 10 ((st 0 18)).toNatClampNeg v1) 0 17)) 0 17 (((u2 (u2 st 10 ((st 0 18)).toNatClampNeg v1) 11 (((u2 st 10 ((st 0 18)).toNatClampNeg v1) 0 18)).toNatClampNeg ((u2 st 10 ((st 0 18)).toNatClampNeg v1) 0 17)) 0 17) + 1)) 0 18)) (u2 (u2 (u2 st 10 ((st 0 18)).toNatClampNeg v1) 11 (((u2 st 10 ((st 0 18)).toNatClampNeg v1) 0 18)).toNatClampNeg ((u2 st 10 ((st 0 18)).toNatClampNeg v1) 0 17)) 0 17 (((u2 (u2 st 10 ((st 0 18)).toNatClampNeg v1) 11 (((u2 st 10 ((st 0 18)).toNatClampNeg v1) 0 18)).toNatClampNeg ((u2 st 10 ((st 0 18)).toNatClampNeg v1) 0 17)) 0 17) + 1)) _ hw) (by decide) rfl rfl rfl qM_X9_101 qI_X9_readsAll qS_X9_readsAll qN_X9 qC_X9_readsAll hd_X9_readsAll ⟨Nat.le_of_ble_eq_true rfl, Nat.le_of_ble_eq_true rfl⟩ hl.1 rfl (Nat.le_of_ble_eq_true rfl) dX9_statement_84) hG (fun r84 st84 H locs hw hG => ?_)
  refine lv_if_eq (tgt := 99) hx hb dX9_statement_87 (by decide) (fun hc => ?_) (fun hc => ?_)
  · replace hw := hw.1 hc
    refine lv_iconst (v := 0) hx hb dX9_statement_99 (by decide) ?_
    exact r_iret hx hb hr hlk hK hG rfl hw dX9_statement_100
  · replace hw := hw.2 hc
    refine lv_aload_n hx hb dX9_statement_90 rfl (lv_at hl 0 rfl) ?_
    refine r_ki (r_run_V (k := 0) (As := []) (rest := []) hx hb hml hown hts hK hN hG (c_X9_next l y  st84 _ hw) (by decide) rfl rfl rfl qM_X9_86 qI_X9_next qS_X9_next qN_X9 qC_X9_next hd_X9_next ⟨Nat.le_of_ble_eq_true rfl, Nat.le_of_ble_eq_true rfl⟩ hl.1 rfl (Nat.le_of_ble_eq_true rfl) dX9_statement_91) hG (fun r91 st91 H locs hw hG => ?_)
    refine lv_bipush (v := 59) hx hb dX9_statement_94 (by decide) ?_
    refine lv_icmp_eq (tgt := 101) hx hb dX9_statement_96 (by decide) (fun hc => ?_) (fun hc => ?_)
    · replace hw := hw.1 hc
      refine lv_aload_n hx hb dX9_statement_101 rfl (lv_at hl 0 rfl) ?_
      refine lv_dup hx hb dX9_statement_102 rfl ?_
      refine r_get (C := RX9) (T := TX9) (Nf := 31) hx hb hts hown hK hG (by decide) rfl rfl inX9 17 (by decide) qF_X9_83 rfl dX9_statement_103 ?_
      refine lv_iconst (v := 1) hx hb dX9_statement_106 (by decide) ?_
      refine lv_iadd hx hb dX9_statement_107 ?_
      refine r_put (C := RX9) (T := TX9) (Nf := 31) hx hb hts hown hK hG (by decide) rfl rfl inX9 tyX9_ok nmX9 17 (by decide) qF_X9_83 rfl ((st91 0 17) + 1) rfl rfl rfl (Nat.le_of_ble_eq_true rfl) dX9_statement_108 (fun H locs hG => ?_)
      refine lv_iconst (v := 1) hx hb dX9_statement_111 (by decide) ?_
      exact r_iret hx hb hr hlk hK hG rfl hw dX9_statement_112
    · replace hw := hw.2 hc
      refine lv_iconst (v := 0) hx hb dX9_statement_99 (by decide) ?_
      exact r_iret hx hb hr hlk hK hG rfl hw dX9_statement_100
theorem hd_X9_statement : yX9_statement.cls ≠ "java/lang/invoke/MethodHandle" ∧ yX9_statement.cls ≠ "java/lang/invoke/VarHandle" ∧ (parseMethodDescriptor yX9_statement.desc).map (fun d => d.parameters.length) = some 0 := by decide +kernel
set_option maxRecDepth 100000 in
set_option maxHeartbeats 4000000 in
theorem c_X9_statement (l : Launch) (y : Sy)  (st : St) (K : Int32 → St → Prop) (hw : w_X9_statement  st K) : Ci 17 enM l yX9_statement cX9_statement 2 (some .boolean) 3 68 y [.ref (ad y 0)] st K := by
  refine ent (by decide) (Nat.le_of_ble_eq_true rfl) ?_
  intro p e s m below meth c C hG ls hl
  have hl : lv_has ls 2 [(0, .ref (ad y 0))] := hl
  generalize ([.ref (ad y 0)] : List Value).toArray = args at C ⊢
  have C : Sd p s m args meth c cX9_statement 2 RX9 (some .boolean) y := C
  obtain ⟨hx, hb, hml, hown, hts, hr, hlk, hK, hN⟩ := id C
  generalize s.heap = H at hG ⊢
  generalize ([] : List Loc) = locs at hG ⊢
  unfold w_X9_statement at hw
  refine lv_aload_n hx hb dX9_statement_0 rfl (lv_at hl 0 rfl) ?_
  refine r_ki (r_run_V (k := 0) (As := []) (rest := []) hx hb hml hown hts hK hN hG (c_X9_next l y  st _ hw) (by decide) rfl rfl rfl qM_X9_86 qI_X9_next qS_X9_next qN_X9 qC_X9_next hd_X9_next ⟨Nat.le_of_ble_eq_true rfl, Nat.le_of_ble_eq_true rfl⟩ hl.1 rfl (Nat.le_of_ble_eq_true rfl) dX9_statement_1) hG (fun r1 st1 H locs hw hG => ?_)
  refine lv_istore_n (lv' := [(1, .int r1), (0, .ref (ad y 0))]) hx hb dX9_statement_4 rfl hl (Nat.le_of_ble_eq_true rfl) rfl (fun ls hl => ?_)
  refine lv_iload_n hx hb dX9_statement_5 rfl (lv_at hl 0 rfl) ?_
  refine lv_bipush (v := 107) hx hb dX9_statement_6 (by decide) ?_
  refine lv_icmp_eq (tgt := 43) hx hb dX9_statement_8 (by decide) (fun hc => ?_) (fun hc => ?_)
  · replace hw := hw.1 hc
    exact z_X9_statement_b43 l y  C  K  r1 st1 hG (lv_sub hl [1, 0] rfl) hw
  · replace hw := hw.2 hc
    refine lv_iload_n hx hb dX9_statement_11 rfl (lv_at hl 0 rfl) ?_
    refine lv_bipush (v := 104) hx hb dX9_statement_12 (by decide) ?_
    refine lv_icmp_eq (tgt := 43) hx hb dX9_statement_14 (by decide) (fun hc => ?_) (fun hc => ?_)
    · replace hw := hw.1 hc
      exact z_X9_statement_b43 l y  C  K  r1 st1 hG (lv_sub hl [1, 0] rfl) hw
    · replace hw := hw.2 hc
      refine lv_iload_n hx hb dX9_statement_17 rfl (lv_at hl 0 rfl) ?_
      refine lv_bipush (v := 108) hx hb dX9_statement_18 (by decide) ?_
      refine lv_icmp_eq (tgt := 43) hx hb dX9_statement_20 (by decide) (fun hc => ?_) (fun hc => ?_)
      · replace hw := hw.1 hc
        exact z_X9_statement_b43 l y  C  K  r1 st1 hG (lv_sub hl [1, 0] rfl) hw
      · replace hw := hw.2 hc
        refine lv_iload_n hx hb dX9_statement_23 rfl (lv_at hl 0 rfl) ?_
        refine lv_bipush (v := 103) hx hb dX9_statement_24 (by decide) ?_
        refine lv_icmp_eq (tgt := 43) hx hb dX9_statement_26 (by decide) (fun hc => ?_) (fun hc => ?_)
        · replace hw := hw.1 hc
          exact z_X9_statement_b43 l y  C  K  r1 st1 hG (lv_sub hl [1, 0] rfl) hw
        · replace hw := hw.2 hc
          refine lv_iload_n hx hb dX9_statement_29 rfl (lv_at hl 0 rfl) ?_
          refine lv_bipush (v := 115) hx hb dX9_statement_30 (by decide) ?_
          refine lv_icmp_eq (tgt := 43) hx hb dX9_statement_32 (by decide) (fun hc => ?_) (fun hc => ?_)
          · replace hw := hw.1 hc
            exact z_X9_statement_b43 l y  C  K  r1 st1 hG (lv_sub hl [1, 0] rfl) hw
          · replace hw := hw.2 hc
            refine lv_iload_n hx hb dX9_statement_35 rfl (lv_at hl 0 rfl) ?_
            refine lv_bipush (v := 119) hx hb dX9_statement_36 (by decide) ?_
            refine lv_icmp_eq (tgt := 43) hx hb dX9_statement_38 (by decide) (fun hc => ?_) (fun hc => ?_)
            · replace hw := hw.1 hc
              exact z_X9_statement_b43 l y  C  K  r1 st1 hG (lv_sub hl [1, 0] rfl) hw
            · replace hw := hw.2 hc
              refine lv_iconst (v := 0) hx hb dX9_statement_41 (by decide) ?_
              exact r_iret hx hb hr hlk hK hG rfl hw dX9_statement_42
set_option maxRecDepth 100000 in
set_option maxHeartbeats 4000000 in
theorem z_X9_addsKeeper_b60 {p : Program} {e : Env} {s : State} {m : MethodId} {args : Array Value} {below : List Frame} {meth : Method} {c : Code} (l : Launch) (y : Sy) (x1 : Int32) (x2 : Int32) (x3 : Int32) (C : Sd p s m args meth c cX9_addsKeeper 5 RX9 none y)  (K : St → Prop)   (st : St) {H : Heap} {locs : List Loc} {ls : Array Slot} (hG : gH 17 enM y st s H locs) (hl : lv_has ls 5 [(0, .ref (ad y 0))]) (hw : w_X9_addsKeeper_b60 x1 x2 x3  K  st) : W p l e (rmm 1 23) s m args below meth c H locs 0 0 (MQ below (va_Qv K (gB 17 enM y) (gA 17 y)) args s 0 0 (gA 17 y)) (F0 m 60 ls []) := by
  obtain ⟨hx, hb, hml, hown, hts, hr, hlk, hK, hN⟩ := id C
  unfold w_X9_addsKeeper_b60 at hw
  refine lv_aload_n hx hb dX9_addsKeeper_60 rfl (lv_at hl 0 rfl) ?_
  refine lv_dup hx hb dX9_addsKeeper_61 rfl ?_
  refine r_get (C := RX9) (T := TX9) (Nf := 31) hx hb hts hown hK hG (by decide) rfl rfl inX9 8 (by decide) qF_X9_65 rfl dX9_addsKeeper_62 ?_
  refine lv_iconst (v := 1) hx hb dX9_addsKeeper_65 (by decide) ?_
  refine lv_iadd hx hb dX9_addsKeeper_66 ?_
  refine r_put (C := RX9) (T := TX9) (Nf := 31) hx hb hts hown hK hG (by decide) rfl rfl inX9 tyX9_ok nmX9 8 (by decide) qF_X9_65 rfl ((st 0 8) + 1) rfl rfl rfl (Nat.le_of_ble_eq_true rfl) dX9_addsKeeper_67 (fun H locs hG => ?_)
  exact r_vret hx hb hr hlk hK hG hw dX9_addsKeeper_70
set_option maxRecDepth 100000 in
set_option maxHeartbeats 4000000 in
theorem z_X9_addsKeeper_L33 {p : Program} {e : Env} {s : State} {m : MethodId} {args : Array Value} {below : List Frame} {meth : Method} {c : Code} (l : Launch) (y : Sy) (x1 : Int32) (x2 : Int32) (x3 : Int32) (C : Sd p s m args meth c cX9_addsKeeper 5 RX9 none y)  (K : St → Prop)  : ∀ (n : Nat) (v4 : Int32) (st : St) (H : Heap) (locs : List Loc) (ls : Array Slot), gH 17 enM y st s H locs → lv_has ls 5 [(0, .ref (ad y 0)), (4, .int v4)] → w_X9_addsKeeper_L33 x1 x2 x3  K n v4 st → W p l e (rmm 1 23) s m args below meth c H locs 0 0 (MQ below (va_Qv K (gB 17 enM y) (gA 17 y)) args s 0 0 (gA 17 y)) (F0 m 33 ls []) := by
  obtain ⟨hx, hb, hml, hown, hts, hr, hlk, hK, hN⟩ := id C
  intro n
  induction n with
  | zero => intro v4 st H locs ls hG hl hw; exact False.elim hw
  | succ n hc33 =>
    intro v4 st H locs ls hG hl hw
    have hw : w_X9_addsKeeper_L33q x1 x2 x3  K (fun v4 st => w_X9_addsKeeper_L33 x1 x2 x3  K n v4 st) v4 st := hw
    unfold w_X9_addsKeeper_L33q at hw
    refine lv_iload hx hb dX9_addsKeeper_33 (lv_at hl 1 rfl) ?_
    refine lv_aload_n hx hb dX9_addsKeeper_35 rfl (lv_at hl 0 rfl) ?_
    refine r_get (C := RX9) (T := TX9) (Nf := 31) hx hb hts hown hK hG (by decide) rfl rfl inX9 8 (by decide) qF_X9_65 rfl dX9_addsKeeper_36 ?_
    refine lv_icmp_ge (tgt := 60) hx hb dX9_addsKeeper_39 (by decide) (fun hc => ?_) (fun hc => ?_)
    · replace hw := hw.1 hc
      exact z_X9_addsKeeper_b60 l y x1 x2 x3 C  K  st hG (lv_sub hl [0] rfl) hw
    · replace hw := hw.2 hc
      refine lv_aload_n hx hb dX9_addsKeeper_42 rfl (lv_at hl 0 rfl) ?_
      refine lv_iload hx hb dX9_addsKeeper_43 (lv_at hl 1 rfl) ?_
      refine lv_aload_n hx hb dX9_addsKeeper_45 rfl (lv_at hl 0 rfl) ?_
      refine r_get (C := RX9) (T := TX9) (Nf := 31) hx hb hts hown hK hG (by decide) rfl rfl inX9 8 (by decide) qF_X9_65 rfl dX9_addsKeeper_46 ?_
      refine lv_bipush (v := 20) hx hb dX9_addsKeeper_49 (by decide) ?_
      refine r_kv (r_run_V (k := 0) (As := [.int v4, .int (st 0 8), .int 20]) (rest := []) hx hb hml hown hts hK hN hG (c_X9_sets l y v4 (st 0 8) 20 st _ hw) (by decide) rfl rfl rfl qM_X9_128 qI_X9_sets qS_X9_sets qN_X9 qC_X9_sets hd_X9_sets ⟨Nat.le_of_ble_eq_true rfl, Nat.le_of_ble_eq_true rfl⟩ hl.1 rfl (Nat.le_of_ble_eq_true rfl) dX9_addsKeeper_51) hG (fun st51 H locs hw hG => ?_)
      refine lv_iinc (v := (v4 + 1)) (lv' := [(4, .int (v4 + 1)), (0, .ref (ad y 0))]) hx hb dX9_addsKeeper_54 hl (k := 1) rfl rfl (Nat.le_of_ble_eq_true rfl) rfl (fun ls hl => ?_)
      refine lv_goto (tgt := 33) hx hb dX9_addsKeeper_57 (by decide) ?_
      exact hc33 (v4 + 1) st51 H locs _ hG (lv_sub hl [1, 0] rfl) hw
theorem hd_X9_addsKeeper : yX9_addsKeeper.cls ≠ "java/lang/invoke/MethodHandle" ∧ yX9_addsKeeper.cls ≠ "java/lang/invoke/VarHandle" ∧ (parseMethodDescriptor yX9_addsKeeper.desc).map (fun d => d.parameters.length) = some 3 := by decide +kernel
set_option maxRecDepth 100000 in
set_option maxHeartbeats 4000000 in
theorem c_X9_addsKeeper (l : Launch) (y : Sy) (x1 : Int32) (x2 : Int32) (x3 : Int32) (st : St) (K : St → Prop) (hw : w_X9_addsKeeper x1 x2 x3 st K) : Cv 17 enM l yX9_addsKeeper cX9_addsKeeper 5 none 1 23 y [.ref (ad y 0), .int x1, .int x2, .int x3] st K := by
  refine ent (by decide) (Nat.le_of_ble_eq_true rfl) ?_
  intro p e s m below meth c C hG ls hl
  have hl : lv_has ls 5 [(0, .ref (ad y 0)), (1, .int x1), (2, .int x2), (3, .int x3)] := hl
  generalize ([.ref (ad y 0), .int x1, .int x2, .int x3] : List Value).toArray = args at C ⊢
  have C : Sd p s m args meth c cX9_addsKeeper 5 RX9 none y := C
  obtain ⟨hx, hb, hml, hown, hts, hr, hlk, hK, hN⟩ := id C
  generalize s.heap = H at hG ⊢
  generalize ([] : List Loc) = locs at hG ⊢
  unfold w_X9_addsKeeper at hw
  refine lv_aload_n hx hb dX9_addsKeeper_0 rfl (lv_at hl 0 rfl) ?_
  refine r_get (C := RX9) (T := TX9) (Nf := 31) hx hb hts hown hK hG (by decide) rfl rfl inX9 1 (by decide) qF_X9_13 rfl dX9_addsKeeper_1 ?_
  refine lv_aload_n hx hb dX9_addsKeeper_4 rfl (lv_at hl 0 rfl) ?_
  refine r_get (C := RX9) (T := TX9) (Nf := 31) hx hb hts hown hK hG (by decide) rfl rfl inX9 8 (by decide) qF_X9_65 rfl dX9_addsKeeper_5 ?_
  refine lv_iload_n hx hb dX9_addsKeeper_8 rfl (lv_at hl 1 rfl) ?_
  obtain ⟨hi, hw⟩ := hw
  refine r_iast hx hb hK hG (isB_2).1 (fun f => (isB_2).2 y f) hi dX9_addsKeeper_9 (fun H locs hG => ?_)
  refine lv_aload_n hx hb dX9_addsKeeper_10 rfl (lv_at hl 0 rfl) ?_
  refine r_get (C := RX9) (T := TX9) (Nf := 31) hx hb hts hown hK hG (by decide) rfl rfl inX9 2 (by decide) qF_X9_16 rfl dX9_addsKeeper_11 ?_
  refine lv_aload_n hx hb dX9_addsKeeper_14 rfl (lv_at hl 0 rfl) ?_
  refine r_get (C := RX9) (T := TX9) (Nf := 31) hx hb hts hown hK hG (by decide) rfl rfl inX9 8 (by decide) qF_X9_65 rfl dX9_addsKeeper_15 ?_
  refine lv_iload_n hx hb dX9_addsKeeper_18 rfl (lv_at hl 2 rfl) ?_
  obtain ⟨hi, hw⟩ := hw
  refine r_iast hx hb hK hG (isB_3).1 (fun f => (isB_3).2 y f) hi dX9_addsKeeper_19 (fun H locs hG => ?_)
  refine lv_aload_n hx hb dX9_addsKeeper_20 rfl (lv_at hl 0 rfl) ?_
  refine r_get (C := RX9) (T := TX9) (Nf := 31) hx hb hts hown hK hG (by decide) rfl rfl inX9 3 (by decide) qF_X9_19 rfl dX9_addsKeeper_21 ?_
  refine lv_aload_n hx hb dX9_addsKeeper_24 rfl (lv_at hl 0 rfl) ?_
  refine r_get (C := RX9) (T := TX9) (Nf := 31) hx hb hts hown hK hG (by decide) rfl rfl inX9 8 (by decide) qF_X9_65 rfl dX9_addsKeeper_25 ?_
  refine lv_iload_n hx hb dX9_addsKeeper_28 rfl (lv_at hl 3 rfl) ?_
  obtain ⟨hi, hw⟩ := hw
  refine r_iast hx hb hK hG (isB_4).1 (fun f => (isB_4).2 y f) hi dX9_addsKeeper_29 (fun H locs hG => ?_)
  refine lv_iconst (v := 0) hx hb dX9_addsKeeper_30 (by decide) ?_
  refine lv_istore (lv' := [(4, .int 0), (0, .ref (ad y 0)), (1, .int x1), (2, .int x2), (3, .int x3)]) hx hb dX9_addsKeeper_31 hl (Nat.le_of_ble_eq_true rfl) rfl (fun ls hl => ?_)
  obtain ⟨n33, hw⟩ := hw
  exact z_X9_addsKeeper_L33 l y x1 x2 x3 C  K  n33 0 (u2 (u2 (u2 st 2 ((st 0 8)).toNatClampNeg x1) 3 (((u2 st 2 ((st 0 8)).toNatClampNeg x1) 0 8)).toNatClampNeg x2) 4 (((u2 (u2 st 2 ((st 0 8)).toNatClampNeg x1) 3 (((u2 st 2 ((st 0 8)).toNatClampNeg x1) 0 8)).toNatClampNeg x2) 0 8)).toNatClampNeg x3) H locs _ hG (lv_sub hl [1, 0] rfl) hw
theorem hd_X9_comesKeeper : yX9_comesKeeper.cls ≠ "java/lang/invoke/MethodHandle" ∧ yX9_comesKeeper.cls ≠ "java/lang/invoke/VarHandle" ∧ (parseMethodDescriptor yX9_comesKeeper.desc).map (fun d => d.parameters.length) = some 3 := by decide +kernel
set_option maxRecDepth 100000 in
set_option maxHeartbeats 4000000 in
theorem c_X9_comesKeeper (l : Launch) (y : Sy) (x1 : Int32) (x2 : Int32) (x3 : Int32) (st : St) (K : Int32 → St → Prop) (hw : w_X9_comesKeeper x1 x2 x3 st K) : Ci 17 enM l yX9_comesKeeper cX9_comesKeeper 4 (some .boolean) 2 47 y [.ref (ad y 0), .int x1, .int x2, .int x3] st K := by
  refine ent (by decide) (Nat.le_of_ble_eq_true rfl) ?_
  intro p e s m below meth c C hG ls hl
  have hl : lv_has ls 4 [(0, .ref (ad y 0)), (1, .int x1), (2, .int x2), (3, .int x3)] := hl
  generalize ([.ref (ad y 0), .int x1, .int x2, .int x3] : List Value).toArray = args at C ⊢
  have C : Sd p s m args meth c cX9_comesKeeper 4 RX9 (some .boolean) y := C
  obtain ⟨hx, hb, hml, hown, hts, hr, hlk, hK, hN⟩ := id C
  generalize s.heap = H at hG ⊢
  generalize ([] : List Loc) = locs at hG ⊢
  unfold w_X9_comesKeeper at hw
  refine lv_iload_n hx hb dX9_comesKeeper_0 rfl (lv_at hl 1 rfl) ?_
  refine lv_iconst (v := 5) hx hb dX9_comesKeeper_1 (by decide) ?_
  refine lv_icmp_gt (tgt := 21) hx hb dX9_comesKeeper_2 (by decide) (fun hc => ?_) (fun hc => ?_)
  · replace hw := hw.1 hc
    refine lv_iconst (v := 0) hx hb dX9_comesKeeper_21 (by decide) ?_
    exact r_iret hx hb hr hlk hK hG rfl hw dX9_comesKeeper_22
  · replace hw := hw.2 hc
    refine lv_iload_n hx hb dX9_comesKeeper_5 rfl (lv_at hl 3 rfl) ?_
    refine r_ki (r_run_S (As := [.int x3]) (rest := []) hx hb hml hown hts hK hN hG (c_X9_isTown l y x3 st _ hw) qM_X9_104 qT_X9_isTown qN_X9 qC_X9_isTown hd_X9_isTown ⟨Nat.le_of_ble_eq_true rfl, Nat.le_of_ble_eq_true rfl⟩ hl.1 rfl (Nat.le_of_ble_eq_true rfl) dX9_comesKeeper_6) hG (fun r6 st6 H locs hw hG => ?_)
    refine lv_if_eq (tgt := 21) hx hb dX9_comesKeeper_9 (by decide) (fun hc => ?_) (fun hc => ?_)
    · replace hw := hw.1 hc
      refine lv_iconst (v := 0) hx hb dX9_comesKeeper_21 (by decide) ?_
      exact r_iret hx hb hr hlk hK hG rfl hw dX9_comesKeeper_22
    · replace hw := hw.2 hc
      refine lv_aload_n hx hb dX9_comesKeeper_12 rfl (lv_at hl 0 rfl) ?_
      refine r_get (C := RX9) (T := TX9) (Nf := 31) hx hb hts hown hK hG (by decide) rfl rfl inX9 8 (by decide) qF_X9_65 rfl dX9_comesKeeper_13 ?_
      refine lv_bipush (v := 6) hx hb dX9_comesKeeper_16 (by decide) ?_
      refine lv_icmp_ne (tgt := 23) hx hb dX9_comesKeeper_18 (by decide) (fun hc => ?_) (fun hc => ?_)
      · replace hw := hw.1 hc
        refine lv_aload_n hx hb dX9_comesKeeper_23 rfl (lv_at hl 0 rfl) ?_
        refine lv_iload_n hx hb dX9_comesKeeper_24 rfl (lv_at hl 1 rfl) ?_
        refine lv_iload_n hx hb dX9_comesKeeper_25 rfl (lv_at hl 2 rfl) ?_
        refine lv_iload_n hx hb dX9_comesKeeper_26 rfl (lv_at hl 3 rfl) ?_
        refine r_kv (r_run_V (k := 0) (As := [.int x1, .int x2, .int x3]) (rest := []) hx hb hml hown hts hK hN hG (c_X9_addsKeeper l y x1 x2 x3 st6 _ hw) (by decide) rfl rfl rfl qM_X9_107 qI_X9_addsKeeper qS_X9_addsKeeper qN_X9 qC_X9_addsKeeper hd_X9_addsKeeper ⟨Nat.le_of_ble_eq_true rfl, Nat.le_of_ble_eq_true rfl⟩ hl.1 rfl (Nat.le_of_ble_eq_true rfl) dX9_comesKeeper_27) hG (fun st27 H locs hw hG => ?_)
        refine lv_iconst (v := 1) hx hb dX9_comesKeeper_30 (by decide) ?_
        exact r_iret hx hb hr hlk hK hG rfl hw dX9_comesKeeper_31
      · replace hw := hw.2 hc
        refine lv_iconst (v := 0) hx hb dX9_comesKeeper_21 (by decide) ?_
        exact r_iret hx hb hr hlk hK hG rfl hw dX9_comesKeeper_22
theorem hd_X9_addsLetter : yX9_addsLetter.cls ≠ "java/lang/invoke/MethodHandle" ∧ yX9_addsLetter.cls ≠ "java/lang/invoke/VarHandle" ∧ (parseMethodDescriptor yX9_addsLetter.desc).map (fun d => d.parameters.length) = some 2 := by decide +kernel
set_option maxRecDepth 100000 in
set_option maxHeartbeats 4000000 in
theorem c_X9_addsLetter (l : Launch) (y : Sy) (x1 : Int32) (x2 : Int32) (st : St) (K : St → Prop) (hw : w_X9_addsLetter x1 x2 st K) : Cv 17 enM l yX9_addsLetter cX9_addsLetter 3 none 0 0 y [.ref (ad y 0), .int x1, .int x2] st K := by
  refine ent (by decide) (Nat.le_of_ble_eq_true rfl) ?_
  intro p e s m below meth c C hG ls hl
  have hl : lv_has ls 3 [(0, .ref (ad y 0)), (1, .int x1), (2, .int x2)] := hl
  generalize ([.ref (ad y 0), .int x1, .int x2] : List Value).toArray = args at C ⊢
  have C : Sd p s m args meth c cX9_addsLetter 3 RX9 none y := C
  obtain ⟨hx, hb, hml, hown, hts, hr, hlk, hK, hN⟩ := id C
  generalize s.heap = H at hG ⊢
  generalize ([] : List Loc) = locs at hG ⊢
  unfold w_X9_addsLetter at hw
  refine lv_aload_n hx hb dX9_addsLetter_0 rfl (lv_at hl 0 rfl) ?_
  refine r_get (C := RX9) (T := TX9) (Nf := 31) hx hb hts hown hK hG (by decide) rfl rfl inX9 5 (by decide) qF_X9_25 rfl dX9_addsLetter_1 ?_
  refine lv_aload_n hx hb dX9_addsLetter_4 rfl (lv_at hl 0 rfl) ?_
  refine r_get (C := RX9) (T := TX9) (Nf := 31) hx hb hts hown hK hG (by decide) rfl rfl inX9 9 (by decide) qF_X9_58 rfl dX9_addsLetter_5 ?_
  refine lv_iload_n hx hb dX9_addsLetter_8 rfl (lv_at hl 2 rfl) ?_
  obtain ⟨hi, hw⟩ := hw
  refine r_iast hx hb hK hG (isB_6).1 (fun f => (isB_6).2 y f) hi dX9_addsLetter_9 (fun H locs hG => ?_)
  refine lv_aload_n hx hb dX9_addsLetter_10 rfl (lv_at hl 0 rfl) ?_
  refine r_get (C := RX9) (T := TX9) (Nf := 31) hx hb hts hown hK hG (by decide) rfl rfl inX9 6 (by decide) qF_X9_28 rfl dX9_addsLetter_11 ?_
  refine lv_aload_n hx hb dX9_addsLetter_14 rfl (lv_at hl 0 rfl) ?_
  refine r_get (C := RX9) (T := TX9) (Nf := 31) hx hb hts hown hK hG (by decide) rfl rfl inX9 9 (by decide) qF_X9_58 rfl dX9_addsLetter_15 ?_
  refine lv_iload_n hx hb dX9_addsLetter_18 rfl (lv_at hl 1 rfl) ?_
  obtain ⟨hi, hw⟩ := hw
  refine r_iast hx hb hK hG (isB_7).1 (fun f => (isB_7).2 y f) hi dX9_addsLetter_19 (fun H locs hG => ?_)
  refine lv_aload_n hx hb dX9_addsLetter_20 rfl (lv_at hl 0 rfl) ?_
  refine r_get (C := RX9) (T := TX9) (Nf := 31) hx hb hts hown hK hG (by decide) rfl rfl inX9 7 (by decide) qF_X9_31 rfl dX9_addsLetter_21 ?_
  refine lv_aload_n hx hb dX9_addsLetter_24 rfl (lv_at hl 0 rfl) ?_
  refine r_get (C := RX9) (T := TX9) (Nf := 31) hx hb hts hown hK hG (by decide) rfl rfl inX9 9 (by decide) qF_X9_58 rfl dX9_addsLetter_25 ?_
  refine lv_iconst (v := 0) hx hb dX9_addsLetter_28 (by decide) ?_
  obtain ⟨hi, hw⟩ := hw
  refine r_iast hx hb hK hG (isB_8).1 (fun f => (isB_8).2 y f) hi dX9_addsLetter_29 (fun H locs hG => ?_)
  refine lv_aload_n hx hb dX9_addsLetter_30 rfl (lv_at hl 0 rfl) ?_
  refine lv_dup hx hb dX9_addsLetter_31 rfl ?_
  refine r_get (C := RX9) (T := TX9) (Nf := 31) hx hb hts hown hK hG (by decide) rfl rfl inX9 9 (by decide) qF_X9_58 rfl dX9_addsLetter_32 ?_
  refine lv_iconst (v := 1) hx hb dX9_addsLetter_35 (by decide) ?_
  refine lv_iadd hx hb dX9_addsLetter_36 ?_
  refine r_put (C := RX9) (T := TX9) (Nf := 31) hx hb hts hown hK hG (by decide) rfl rfl inX9 tyX9_ok nmX9 9 (by decide) qF_X9_58 rfl (((u2 (u2 (u2 st 6 ((st 0 9)).toNatClampNeg x2) 7 (((u2 st 6 ((st 0 9)).toNatClampNeg x2) 0 9)).toNatClampNeg x1) 8 (((u2 (u2 st 6 ((st 0 9)).toNatClampNeg x2) 7 (((u2 st 6 ((st 0 9)).toNatClampNeg x2) 0 9)).toNatClampNeg x1) 0 9)).toNatClampNeg 0) 0 9) + 1) rfl rfl rfl (Nat.le_of_ble_eq_true rfl) dX9_addsLetter_37 (fun H locs hG => ?_)
  exact r_vret hx hb hr hlk hK hG hw dX9_addsLetter_40
theorem hd_X9_comesLetter : yX9_comesLetter.cls ≠ "java/lang/invoke/MethodHandle" ∧ yX9_comesLetter.cls ≠ "java/lang/invoke/VarHandle" ∧ (parseMethodDescriptor yX9_comesLetter.desc).map (fun d => d.parameters.length) = some 2 := by decide +kernel
set_option maxRecDepth 100000 in
set_option maxHeartbeats 4000000 in
theorem c_X9_comesLetter (l : Launch) (y : Sy) (x1 : Int32) (x2 : Int32) (st : St) (K : Int32 → St → Prop) (hw : w_X9_comesLetter x1 x2 st K) : Ci 17 enM l yX9_comesLetter cX9_comesLetter 3 (some .boolean) 1 22 y [.ref (ad y 0), .int x1, .int x2] st K := by
  refine ent (by decide) (Nat.le_of_ble_eq_true rfl) ?_
  intro p e s m below meth c C hG ls hl
  have hl : lv_has ls 3 [(0, .ref (ad y 0)), (1, .int x1), (2, .int x2)] := hl
  generalize ([.ref (ad y 0), .int x1, .int x2] : List Value).toArray = args at C ⊢
  have C : Sd p s m args meth c cX9_comesLetter 3 RX9 (some .boolean) y := C
  obtain ⟨hx, hb, hml, hown, hts, hr, hlk, hK, hN⟩ := id C
  generalize s.heap = H at hG ⊢
  generalize ([] : List Loc) = locs at hG ⊢
  unfold w_X9_comesLetter at hw
  refine lv_iload_n hx hb dX9_comesLetter_0 rfl (lv_at hl 2 rfl) ?_
  refine r_ki (r_run_S (As := [.int x2]) (rest := []) hx hb hml hown hts hK hN hG (c_X9_isTown l y x2 st _ hw) qM_X9_104 qT_X9_isTown qN_X9 qC_X9_isTown hd_X9_isTown ⟨Nat.le_of_ble_eq_true rfl, Nat.le_of_ble_eq_true rfl⟩ hl.1 rfl (Nat.le_of_ble_eq_true rfl) dX9_comesLetter_1) hG (fun r1 st1 H locs hw hG => ?_)
  refine lv_if_eq (tgt := 16) hx hb dX9_comesLetter_4 (by decide) (fun hc => ?_) (fun hc => ?_)
  · replace hw := hw.1 hc
    refine lv_iconst (v := 0) hx hb dX9_comesLetter_16 (by decide) ?_
    exact r_iret hx hb hr hlk hK hG rfl hw dX9_comesLetter_17
  · replace hw := hw.2 hc
    refine lv_aload_n hx hb dX9_comesLetter_7 rfl (lv_at hl 0 rfl) ?_
    refine r_get (C := RX9) (T := TX9) (Nf := 31) hx hb hts hown hK hG (by decide) rfl rfl inX9 9 (by decide) qF_X9_58 rfl dX9_comesLetter_8 ?_
    refine lv_bipush (v := 6) hx hb dX9_comesLetter_11 (by decide) ?_
    refine lv_icmp_ne (tgt := 18) hx hb dX9_comesLetter_13 (by decide) (fun hc => ?_) (fun hc => ?_)
    · replace hw := hw.1 hc
      refine lv_aload_n hx hb dX9_comesLetter_18 rfl (lv_at hl 0 rfl) ?_
      refine lv_iload_n hx hb dX9_comesLetter_19 rfl (lv_at hl 2 rfl) ?_
      refine lv_iload_n hx hb dX9_comesLetter_20 rfl (lv_at hl 1 rfl) ?_
      refine r_kv (r_run_V (k := 0) (As := [.int x2, .int x1]) (rest := []) hx hb hml hown hts hK hN hG (c_X9_addsLetter l y x2 x1 st1 _ hw) (by decide) rfl rfl rfl qM_X9_111 qI_X9_addsLetter qS_X9_addsLetter qN_X9 qC_X9_addsLetter hd_X9_addsLetter ⟨Nat.le_of_ble_eq_true rfl, Nat.le_of_ble_eq_true rfl⟩ hl.1 rfl (Nat.le_of_ble_eq_true rfl) dX9_comesLetter_21) hG (fun st21 H locs hw hG => ?_)
      refine lv_iconst (v := 1) hx hb dX9_comesLetter_24 (by decide) ?_
      exact r_iret hx hb hr hlk hK hG rfl hw dX9_comesLetter_25
    · replace hw := hw.2 hc
      refine lv_iconst (v := 0) hx hb dX9_comesLetter_16 (by decide) ?_
      exact r_iret hx hb hr hlk hK hG rfl hw dX9_comesLetter_17
theorem hd_X9_fadesOf : yX9_fadesOf.cls ≠ "java/lang/invoke/MethodHandle" ∧ yX9_fadesOf.cls ≠ "java/lang/invoke/VarHandle" ∧ (parseMethodDescriptor yX9_fadesOf.desc).map (fun d => d.parameters.length) = some 1 := by decide +kernel
set_option maxRecDepth 100000 in
set_option maxHeartbeats 4000000 in
theorem c_X9_fadesOf (l : Launch) (y : Sy) (x1 : Int32) (st : St) (K : Int32 → St → Prop) (hw : w_X9_fadesOf x1 st K) : Ci 17 enM l yX9_fadesOf cX9_fadesOf 2 (some .int) 0 0 y [.ref (ad y 0), .int x1] st K := by
  refine ent (by decide) (Nat.le_of_ble_eq_true rfl) ?_
  intro p e s m below meth c C hG ls hl
  have hl : lv_has ls 2 [(0, .ref (ad y 0)), (1, .int x1)] := hl
  generalize ([.ref (ad y 0), .int x1] : List Value).toArray = args at C ⊢
  have C : Sd p s m args meth c cX9_fadesOf 2 RX9 (some .int) y := C
  obtain ⟨hx, hb, hml, hown, hts, hr, hlk, hK, hN⟩ := id C
  generalize s.heap = H at hG ⊢
  generalize ([] : List Loc) = locs at hG ⊢
  unfold w_X9_fadesOf at hw
  refine lv_aload_n hx hb dX9_fadesOf_0 rfl (lv_at hl 0 rfl) ?_
  refine r_get (C := RX9) (T := TX9) (Nf := 31) hx hb hts hown hK hG (by decide) rfl rfl inX9 1 (by decide) qF_X9_13 rfl dX9_fadesOf_1 ?_
  refine lv_iload_n hx hb dX9_fadesOf_4 rfl (lv_at hl 1 rfl) ?_
  obtain ⟨hi, hw⟩ := hw
  refine r_iald hx hb hK hG (isB_2).1 ((isB_2).2 y _) hi dX9_fadesOf_5 ?_
  by_cases g1 : (st 2 (x1).toNatClampNeg) = 1
  · replace hw := hw.1 g1
    refine r_tabin (v := 1) (tgt := 40) hx hb dX9_fadesOf_6 g1 (by decide) (by decide) rfl (by decide) ?_
    refine lv_iconst (v := 0) hx hb dX9_fadesOf_40 (by decide) ?_
    exact r_iret hx hb hr hlk hK hG rfl hw dX9_fadesOf_41
  replace hw := hw.2 g1
  by_cases g2 : (st 2 (x1).toNatClampNeg) = 2
  · replace hw := hw.1 g2
    refine r_tabin (v := 2) (tgt := 42) hx hb dX9_fadesOf_6 g2 (by decide) (by decide) rfl (by decide) ?_
    refine lv_iconst (v := 2) hx hb dX9_fadesOf_42 (by decide) ?_
    exact r_iret hx hb hr hlk hK hG rfl hw dX9_fadesOf_43
  replace hw := hw.2 g2
  by_cases g3 : (st 2 (x1).toNatClampNeg) = 3
  · replace hw := hw.1 g3
    refine r_tabin (v := 3) (tgt := 44) hx hb dX9_fadesOf_6 g3 (by decide) (by decide) rfl (by decide) ?_
    refine lv_aload_n hx hb dX9_fadesOf_44 rfl (lv_at hl 0 rfl) ?_
    refine r_get (C := RX9) (T := TX9) (Nf := 31) hx hb hts hown hK hG (by decide) rfl rfl inX9 2 (by decide) qF_X9_16 rfl dX9_fadesOf_45 ?_
    refine lv_iload_n hx hb dX9_fadesOf_48 rfl (lv_at hl 1 rfl) ?_
    obtain ⟨hi, hw⟩ := hw
    refine r_iald hx hb hK hG (isB_3).1 ((isB_3).2 y _) hi dX9_fadesOf_49 ?_
    refine lv_iconst (v := 2) hx hb dX9_fadesOf_50 (by decide) ?_
    refine lv_idiv hx hb dX9_fadesOf_51 (by decide) ?_
    refine lv_iconst (v := 1) hx hb dX9_fadesOf_52 (by decide) ?_
    refine lv_iadd hx hb dX9_fadesOf_53 ?_
    exact r_iret hx hb hr hlk hK hG rfl hw dX9_fadesOf_54
  replace hw := hw.2 g3
  by_cases g4 : (st 2 (x1).toNatClampNeg) = 4
  · replace hw := hw.1 g4
    refine r_tabin (v := 4) (tgt := 40) hx hb dX9_fadesOf_6 g4 (by decide) (by decide) rfl (by decide) ?_
    refine lv_iconst (v := 0) hx hb dX9_fadesOf_40 (by decide) ?_
    exact r_iret hx hb hr hlk hK hG rfl hw dX9_fadesOf_41
  replace hw := hw.2 g4
  by_cases g5 : (st 2 (x1).toNatClampNeg) = 5
  · replace hw := hw.1 g5
    refine r_tabin (v := 5) (tgt := 55) hx hb dX9_fadesOf_6 g5 (by decide) (by decide) rfl (by decide) ?_
    refine lv_iconst (v := 3) hx hb dX9_fadesOf_55 (by decide) ?_
    exact r_iret hx hb hr hlk hK hG rfl hw dX9_fadesOf_56
  replace hw := hw.2 g5
  refine r_tabdef (tgt := 57) hx hb dX9_fadesOf_6 (by decide) (fun v q1 q2 q3 => ?_) ?_
  · rcases (show v = 1 ∨ v = 2 ∨ v = 3 ∨ v = 4 ∨ v = 5 by omega) with rfl | rfl | rfl | rfl | rfl
    · exact absurd (r_toI (v := 1) q3) g1
    · exact absurd (r_toI (v := 2) q3) g2
    · exact absurd (r_toI (v := 3) q3) g3
    · exact absurd (r_toI (v := 4) q3) g4
    · exact absurd (r_toI (v := 5) q3) g5
  refine lv_iconst (v := 1) hx hb dX9_fadesOf_57 (by decide) ?_
  exact r_iret hx hb hr hlk hK hG rfl hw dX9_fadesOf_58
theorem hd_X9_stirsOf : yX9_stirsOf.cls ≠ "java/lang/invoke/MethodHandle" ∧ yX9_stirsOf.cls ≠ "java/lang/invoke/VarHandle" ∧ (parseMethodDescriptor yX9_stirsOf.desc).map (fun d => d.parameters.length) = some 1 := by decide +kernel
set_option maxRecDepth 100000 in
set_option maxHeartbeats 4000000 in
theorem c_X9_stirsOf (l : Launch) (y : Sy) (x1 : Int32) (st : St) (K : Int32 → St → Prop) (hw : w_X9_stirsOf x1 st K) : Ci 17 enM l yX9_stirsOf cX9_stirsOf 2 (some .int) 0 0 y [.ref (ad y 0), .int x1] st K := by
  refine ent (by decide) (Nat.le_of_ble_eq_true rfl) ?_
  intro p e s m below meth c C hG ls hl
  have hl : lv_has ls 2 [(0, .ref (ad y 0)), (1, .int x1)] := hl
  generalize ([.ref (ad y 0), .int x1] : List Value).toArray = args at C ⊢
  have C : Sd p s m args meth c cX9_stirsOf 2 RX9 (some .int) y := C
  obtain ⟨hx, hb, hml, hown, hts, hr, hlk, hK, hN⟩ := id C
  generalize s.heap = H at hG ⊢
  generalize ([] : List Loc) = locs at hG ⊢
  unfold w_X9_stirsOf at hw
  refine lv_aload_n hx hb dX9_stirsOf_0 rfl (lv_at hl 0 rfl) ?_
  refine r_get (C := RX9) (T := TX9) (Nf := 31) hx hb hts hown hK hG (by decide) rfl rfl inX9 1 (by decide) qF_X9_13 rfl dX9_stirsOf_1 ?_
  refine lv_iload_n hx hb dX9_stirsOf_4 rfl (lv_at hl 1 rfl) ?_
  obtain ⟨hi, hw⟩ := hw
  refine r_iald hx hb hK hG (isB_2).1 ((isB_2).2 y _) hi dX9_stirsOf_5 ?_
  refine lv_iconst (v := 1) hx hb dX9_stirsOf_6 (by decide) ?_
  refine lv_icmp_ne (tgt := 14) hx hb dX9_stirsOf_7 (by decide) (fun hc => ?_) (fun hc => ?_)
  · replace hw := hw.1 hc
    refine lv_aload_n hx hb dX9_stirsOf_14 rfl (lv_at hl 0 rfl) ?_
    refine r_get (C := RX9) (T := TX9) (Nf := 31) hx hb hts hown hK hG (by decide) rfl rfl inX9 1 (by decide) qF_X9_13 rfl dX9_stirsOf_15 ?_
    refine lv_iload_n hx hb dX9_stirsOf_18 rfl (lv_at hl 1 rfl) ?_
    obtain ⟨hi, hw⟩ := hw
    refine r_iald hx hb hK hG (isB_2).1 ((isB_2).2 y _) hi dX9_stirsOf_19 ?_
    refine lv_iconst (v := 4) hx hb dX9_stirsOf_20 (by decide) ?_
    refine lv_icmp_ne (tgt := 37) hx hb dX9_stirsOf_21 (by decide) (fun hc => ?_) (fun hc => ?_)
    · replace hw := hw.1 hc
      refine lv_iconst (v := 0) hx hb dX9_stirsOf_37 (by decide) ?_
      exact r_iret hx hb hr hlk hK hG rfl hw dX9_stirsOf_38
    · replace hw := hw.2 hc
      refine lv_aload_n hx hb dX9_stirsOf_24 rfl (lv_at hl 0 rfl) ?_
      refine r_get (C := RX9) (T := TX9) (Nf := 31) hx hb hts hown hK hG (by decide) rfl rfl inX9 2 (by decide) qF_X9_16 rfl dX9_stirsOf_25 ?_
      refine lv_iload_n hx hb dX9_stirsOf_28 rfl (lv_at hl 1 rfl) ?_
      obtain ⟨hi, hw⟩ := hw
      refine r_iald hx hb hK hG (isB_3).1 ((isB_3).2 y _) hi dX9_stirsOf_29 ?_
      refine lv_iconst (v := 4) hx hb dX9_stirsOf_30 (by decide) ?_
      refine lv_idiv hx hb dX9_stirsOf_31 (by decide) ?_
      refine lv_iconst (v := 1) hx hb dX9_stirsOf_32 (by decide) ?_
      refine lv_iadd hx hb dX9_stirsOf_33 ?_
      refine lv_goto (tgt := 38) hx hb dX9_stirsOf_34 (by decide) ?_
      exact r_iret hx hb hr hlk hK hG rfl hw dX9_stirsOf_38
  · replace hw := hw.2 hc
    refine lv_iconst (v := 1) hx hb dX9_stirsOf_10 (by decide) ?_
    refine lv_goto (tgt := 38) hx hb dX9_stirsOf_11 (by decide) ?_
    exact r_iret hx hb hr hlk hK hG rfl hw dX9_stirsOf_38
set_option maxRecDepth 100000 in
set_option maxHeartbeats 4000000 in
theorem z_X9_fadesTwo_b89 {p : Program} {e : Env} {s : State} {m : MethodId} {args : Array Value} {below : List Frame} {meth : Method} {c : Code} (l : Launch) (y : Sy) (x1 : Int32) (x2 : Int32) (C : Sd p s m args meth c cX9_fadesTwo 4 RX9 none y)  (K : St → Prop)  (s0 : Int32) (s1 : Int32) (s2 : Int32) (st : St) {H : Heap} {locs : List Loc} {ls : Array Slot} (hG : gH 17 enM y st s H locs) (hl : lv_has ls 4 []) (hw : w_X9_fadesTwo_b89 x1 x2  K s0 s1 s2 st) : W p l e (rmm 1 23) s m args below meth c H locs 0 0 (MQ below (va_Qv K (gB 17 enM y) (gA 17 y)) args s 0 0 (gA 17 y)) (F0 m 89 ls [.int s0, .int s1, .int s2, .ref (ad y 0)]) := by
  obtain ⟨hx, hb, hml, hown, hts, hr, hlk, hK, hN⟩ := id C
  unfold w_X9_fadesTwo_b89 at hw
  refine r_kv (r_run_V (k := 0) (As := [.int s2, .int s1, .int s0]) (rest := []) hx hb hml hown hts hK hN hG (c_X9_sets l y s2 s1 s0 st _ hw) (by decide) rfl rfl rfl qM_X9_128 qI_X9_sets qS_X9_sets qN_X9 qC_X9_sets hd_X9_sets ⟨Nat.le_of_ble_eq_true rfl, Nat.le_of_ble_eq_true rfl⟩ hl.1 rfl (Nat.le_of_ble_eq_true rfl) dX9_fadesTwo_89) hG (fun st89 H locs hw hG => ?_)
  exact r_vret hx hb hr hlk hK hG hw dX9_fadesTwo_92
theorem hd_X9_fadesTwo : yX9_fadesTwo.cls ≠ "java/lang/invoke/MethodHandle" ∧ yX9_fadesTwo.cls ≠ "java/lang/invoke/VarHandle" ∧ (parseMethodDescriptor yX9_fadesTwo.desc).map (fun d => d.parameters.length) = some 2 := by decide +kernel
set_option maxRecDepth 100000 in
set_option maxHeartbeats 4000000 in
theorem c_X9_fadesTwo (l : Launch) (y : Sy) (x1 : Int32) (x2 : Int32) (st : St) (K : St → Prop) (hw : w_X9_fadesTwo x1 x2 st K) : Cv 17 enM l yX9_fadesTwo cX9_fadesTwo 4 none 1 23 y [.ref (ad y 0), .int x1, .int x2] st K := by
  refine ent (by decide) (Nat.le_of_ble_eq_true rfl) ?_
  intro p e s m below meth c C hG ls hl
  have hl : lv_has ls 4 [(0, .ref (ad y 0)), (1, .int x1), (2, .int x2)] := hl
  generalize ([.ref (ad y 0), .int x1, .int x2] : List Value).toArray = args at C ⊢
  have C : Sd p s m args meth c cX9_fadesTwo 4 RX9 none y := C
  obtain ⟨hx, hb, hml, hown, hts, hr, hlk, hK, hN⟩ := id C
  generalize s.heap = H at hG ⊢
  generalize ([] : List Loc) = locs at hG ⊢
  unfold w_X9_fadesTwo at hw
  refine lv_aload_n hx hb dX9_fadesTwo_0 rfl (lv_at hl 0 rfl) ?_
  refine r_get (C := RX9) (T := TX9) (Nf := 31) hx hb hts hown hK hG (by decide) rfl rfl inX9 11 (by decide) qF_X9_171 rfl dX9_fadesTwo_1 ?_
  refine lv_iload_n hx hb dX9_fadesTwo_4 rfl (lv_at hl 1 rfl) ?_
  refine r_ki (r_run_S (As := [.int (st 0 11), .int x1]) (rest := []) hx hb hml hown hts hK hN hG (c_X9_has l y (st 0 11) x1 st _ hw) qM_X9_174 qT_X9_has qN_X9 qC_X9_has hd_X9_has ⟨Nat.le_of_ble_eq_true rfl, Nat.le_of_ble_eq_true rfl⟩ hl.1 rfl (Nat.le_of_ble_eq_true rfl) dX9_fadesTwo_5) hG (fun r5 st5 H locs hw hG => ?_)
  refine lv_if_ne (tgt := 22) hx hb dX9_fadesTwo_8 (by decide) (fun hc => ?_) (fun hc => ?_)
  · replace hw := hw.1 hc
    exact r_vret hx hb hr hlk hK hG hw dX9_fadesTwo_22
  · replace hw := hw.2 hc
    refine lv_aload_n hx hb dX9_fadesTwo_11 rfl (lv_at hl 0 rfl) ?_
    refine r_get (C := RX9) (T := TX9) (Nf := 31) hx hb hts hown hK hG (by decide) rfl rfl inX9 11 (by decide) qF_X9_171 rfl dX9_fadesTwo_12 ?_
    refine lv_iload_n hx hb dX9_fadesTwo_15 rfl (lv_at hl 2 rfl) ?_
    refine r_ki (r_run_S (As := [.int (st5 0 11), .int x2]) (rest := []) hx hb hml hown hts hK hN hG (c_X9_has l y (st5 0 11) x2 st5 _ hw) qM_X9_174 qT_X9_has qN_X9 qC_X9_has hd_X9_has ⟨Nat.le_of_ble_eq_true rfl, Nat.le_of_ble_eq_true rfl⟩ hl.1 rfl (Nat.le_of_ble_eq_true rfl) dX9_fadesTwo_16) hG (fun r16 st16 H locs hw hG => ?_)
    refine lv_if_eq (tgt := 23) hx hb dX9_fadesTwo_19 (by decide) (fun hc => ?_) (fun hc => ?_)
    · replace hw := hw.1 hc
      refine lv_aload_n hx hb dX9_fadesTwo_23 rfl (lv_at hl 0 rfl) ?_
      refine lv_iload_n hx hb dX9_fadesTwo_24 rfl (lv_at hl 1 rfl) ?_
      refine lv_iload_n hx hb dX9_fadesTwo_25 rfl (lv_at hl 2 rfl) ?_
      refine r_ki (r_run_V (k := 0) (As := [.int x1, .int x2]) (rest := []) hx hb hml hown hts hK hN hG (c_X9_hateOf l y x1 x2 st16 _ hw) (by decide) rfl rfl rfl qM_X9_180 qI_X9_hateOf qS_X9_hateOf qN_X9 qC_X9_hateOf hd_X9_hateOf ⟨Nat.le_of_ble_eq_true rfl, Nat.le_of_ble_eq_true rfl⟩ hl.1 rfl (Nat.le_of_ble_eq_true rfl) dX9_fadesTwo_26) hG (fun r26 st26 H locs hw hG => ?_)
      refine lv_istore_n (lv' := [(3, .int r26), (0, .ref (ad y 0)), (1, .int x1), (2, .int x2)]) hx hb dX9_fadesTwo_29 rfl hl (Nat.le_of_ble_eq_true rfl) rfl (fun ls hl => ?_)
      refine lv_aload_n hx hb dX9_fadesTwo_30 rfl (lv_at hl 1 rfl) ?_
      refine lv_iload_n hx hb dX9_fadesTwo_31 rfl (lv_at hl 2 rfl) ?_
      refine lv_iload_n hx hb dX9_fadesTwo_32 rfl (lv_at hl 3 rfl) ?_
      refine lv_aload_n hx hb dX9_fadesTwo_33 rfl (lv_at hl 1 rfl) ?_
      refine r_get (C := RX9) (T := TX9) (Nf := 31) hx hb hts hown hK hG (by decide) rfl rfl inX9 3 (by decide) qF_X9_19 rfl dX9_fadesTwo_34 ?_
      refine lv_iload_n hx hb dX9_fadesTwo_37 rfl (lv_at hl 2 rfl) ?_
      obtain ⟨hi, hw⟩ := hw
      refine r_iald hx hb hK hG (isB_4).1 ((isB_4).2 y _) hi dX9_fadesTwo_38 ?_
      refine lv_aload_n hx hb dX9_fadesTwo_39 rfl (lv_at hl 1 rfl) ?_
      refine r_get (C := RX9) (T := TX9) (Nf := 31) hx hb hts hown hK hG (by decide) rfl rfl inX9 3 (by decide) qF_X9_19 rfl dX9_fadesTwo_40 ?_
      refine lv_iload_n hx hb dX9_fadesTwo_43 rfl (lv_at hl 3 rfl) ?_
      obtain ⟨hi, hw⟩ := hw
      refine r_iald hx hb hK hG (isB_4).1 ((isB_4).2 y _) hi dX9_fadesTwo_44 ?_
      refine lv_icmp_ne (tgt := 70) hx hb dX9_fadesTwo_45 (by decide) (fun hc => ?_) (fun hc => ?_)
      · replace hw := hw.1 hc
        refine lv_iload_n hx hb dX9_fadesTwo_70 rfl (lv_at hl 0 rfl) ?_
        refine lv_aload_n hx hb dX9_fadesTwo_71 rfl (lv_at hl 1 rfl) ?_
        refine lv_iload_n hx hb dX9_fadesTwo_72 rfl (lv_at hl 2 rfl) ?_
        refine r_ki (r_run_V (k := 0) (As := [.int x1]) (rest := [.int r26, .int x2, .int x1, .ref (ad y 0)]) hx hb hml hown hts hK hN hG (c_X9_stirsOf l y x1 st26 _ hw) (by decide) rfl rfl rfl qM_X9_190 qI_X9_stirsOf qS_X9_stirsOf qN_X9 qC_X9_stirsOf hd_X9_stirsOf ⟨Nat.le_of_ble_eq_true rfl, Nat.le_of_ble_eq_true rfl⟩ hl.1 rfl (Nat.le_of_ble_eq_true rfl) dX9_fadesTwo_73) hG (fun r73 st73 H locs hw hG => ?_)
        refine lv_iadd hx hb dX9_fadesTwo_76 ?_
        refine lv_aload_n hx hb dX9_fadesTwo_77 rfl (lv_at hl 1 rfl) ?_
        refine lv_iload_n hx hb dX9_fadesTwo_78 rfl (lv_at hl 3 rfl) ?_
        refine r_ki (r_run_V (k := 0) (As := [.int x2]) (rest := [.int (r26 + r73), .int x2, .int x1, .ref (ad y 0)]) hx hb hml hown hts hK hN hG (c_X9_stirsOf l y x2 st73 _ hw) (by decide) rfl rfl rfl qM_X9_190 qI_X9_stirsOf qS_X9_stirsOf qN_X9 qC_X9_stirsOf hd_X9_stirsOf ⟨Nat.le_of_ble_eq_true rfl, Nat.le_of_ble_eq_true rfl⟩ hl.1 rfl (Nat.le_of_ble_eq_true rfl) dX9_fadesTwo_79) hG (fun r79 st79 H locs hw hG => ?_)
        refine lv_iadd hx hb dX9_fadesTwo_82 ?_
        refine lv_iconst (v := 0) hx hb dX9_fadesTwo_83 (by decide) ?_
        refine lv_bipush (v := 99) hx hb dX9_fadesTwo_84 (by decide) ?_
        refine r_ki (r_run_S (As := [.int ((r26 + r73) + r79), .int 0, .int 99]) (rest := [.int x2, .int x1, .ref (ad y 0)]) hx hb hml hown hts hK hN hG (c_X9_held l y ((r26 + r73) + r79) 0 99 st79 _ hw) qM_X9_187 qT_X9_held qN_X9 qC_X9_held hd_X9_held ⟨Nat.le_of_ble_eq_true rfl, Nat.le_of_ble_eq_true rfl⟩ hl.1 rfl (Nat.le_of_ble_eq_true rfl) dX9_fadesTwo_86) hG (fun r86 st86 H locs hw hG => ?_)
        exact z_X9_fadesTwo_b89 l y x1 x2 C  K  r86 x2 x1 st86 hG (lv_sub hl [] rfl) hw
      · replace hw := hw.2 hc
        refine lv_iload_n hx hb dX9_fadesTwo_48 rfl (lv_at hl 0 rfl) ?_
        refine lv_aload_n hx hb dX9_fadesTwo_49 rfl (lv_at hl 1 rfl) ?_
        refine lv_iload_n hx hb dX9_fadesTwo_50 rfl (lv_at hl 2 rfl) ?_
        refine r_ki (r_run_V (k := 0) (As := [.int x1]) (rest := [.int r26, .int x2, .int x1, .ref (ad y 0)]) hx hb hml hown hts hK hN hG (c_X9_fadesOf l y x1 st26 _ hw) (by decide) rfl rfl rfl qM_X9_184 qI_X9_fadesOf qS_X9_fadesOf qN_X9 qC_X9_fadesOf hd_X9_fadesOf ⟨Nat.le_of_ble_eq_true rfl, Nat.le_of_ble_eq_true rfl⟩ hl.1 rfl (Nat.le_of_ble_eq_true rfl) dX9_fadesTwo_51) hG (fun r51 st51 H locs hw hG => ?_)
        refine lv_isub hx hb dX9_fadesTwo_54 ?_
        refine lv_aload_n hx hb dX9_fadesTwo_55 rfl (lv_at hl 1 rfl) ?_
        refine lv_iload_n hx hb dX9_fadesTwo_56 rfl (lv_at hl 3 rfl) ?_
        refine r_ki (r_run_V (k := 0) (As := [.int x2]) (rest := [.int (r26 - r51), .int x2, .int x1, .ref (ad y 0)]) hx hb hml hown hts hK hN hG (c_X9_fadesOf l y x2 st51 _ hw) (by decide) rfl rfl rfl qM_X9_184 qI_X9_fadesOf qS_X9_fadesOf qN_X9 qC_X9_fadesOf hd_X9_fadesOf ⟨Nat.le_of_ble_eq_true rfl, Nat.le_of_ble_eq_true rfl⟩ hl.1 rfl (Nat.le_of_ble_eq_true rfl) dX9_fadesTwo_57) hG (fun r57 st57 H locs hw hG => ?_)
        refine lv_isub hx hb dX9_fadesTwo_60 ?_
        refine lv_iconst (v := 0) hx hb dX9_fadesTwo_61 (by decide) ?_
        refine lv_bipush (v := 99) hx hb dX9_fadesTwo_62 (by decide) ?_
        refine r_ki (r_run_S (As := [.int ((r26 - r51) - r57), .int 0, .int 99]) (rest := [.int x2, .int x1, .ref (ad y 0)]) hx hb hml hown hts hK hN hG (c_X9_held l y ((r26 - r51) - r57) 0 99 st57 _ hw) qM_X9_187 qT_X9_held qN_X9 qC_X9_held hd_X9_held ⟨Nat.le_of_ble_eq_true rfl, Nat.le_of_ble_eq_true rfl⟩ hl.1 rfl (Nat.le_of_ble_eq_true rfl) dX9_fadesTwo_64) hG (fun r64 st64 H locs hw hG => ?_)
        refine lv_goto (tgt := 89) hx hb dX9_fadesTwo_67 (by decide) ?_
        exact z_X9_fadesTwo_b89 l y x1 x2 C  K  r64 x2 x1 st64 hG (lv_sub hl [] rfl) hw
    · replace hw := hw.2 hc
      exact r_vret hx hb hr hlk hK hG hw dX9_fadesTwo_22
theorem hd_X9_areThere : yX9_areThere.cls ≠ "java/lang/invoke/MethodHandle" ∧ yX9_areThere.cls ≠ "java/lang/invoke/VarHandle" ∧ (parseMethodDescriptor yX9_areThere.desc).map (fun d => d.parameters.length) = some 3 := by decide +kernel
set_option maxRecDepth 100000 in
set_option maxHeartbeats 4000000 in
theorem c_X9_areThere (l : Launch) (y : Sy) (x1 : Int32) (x2 : Int32) (x3 : Int32) (st : St) (K : Int32 → St → Prop) (hw : w_X9_areThere x1 x2 x3 st K) : Ci 17 enM l yX9_areThere cX9_areThere 4 (some .boolean) 1 21 y [.ref (ad y 0), .int x1, .int x2, .int x3] st K := by
  refine ent (by decide) (Nat.le_of_ble_eq_true rfl) ?_
  intro p e s m below meth c C hG ls hl
  have hl : lv_has ls 4 [(0, .ref (ad y 0)), (1, .int x1), (2, .int x2), (3, .int x3)] := hl
  generalize ([.ref (ad y 0), .int x1, .int x2, .int x3] : List Value).toArray = args at C ⊢
  have C : Sd p s m args meth c cX9_areThere 4 RX9 (some .boolean) y := C
  obtain ⟨hx, hb, hml, hown, hts, hr, hlk, hK, hN⟩ := id C
  generalize s.heap = H at hG ⊢
  generalize ([] : List Loc) = locs at hG ⊢
  unfold w_X9_areThere at hw
  refine lv_aload_n hx hb dX9_areThere_0 rfl (lv_at hl 0 rfl) ?_
  refine r_get (C := RX9) (T := TX9) (Nf := 31) hx hb hts hown hK hG (by decide) rfl rfl inX9 3 (by decide) qF_X9_19 rfl dX9_areThere_1 ?_
  refine lv_iload_n hx hb dX9_areThere_4 rfl (lv_at hl 1 rfl) ?_
  obtain ⟨hi, hw⟩ := hw
  refine r_iald hx hb hK hG (isB_4).1 ((isB_4).2 y _) hi dX9_areThere_5 ?_
  refine lv_iload_n hx hb dX9_areThere_6 rfl (lv_at hl 3 rfl) ?_
  refine lv_icmp_ne (tgt := 46) hx hb dX9_areThere_7 (by decide) (fun hc => ?_) (fun hc => ?_)
  · replace hw := hw.1 hc
    refine lv_iconst (v := 0) hx hb dX9_areThere_46 (by decide) ?_
    exact r_iret hx hb hr hlk hK hG rfl hw dX9_areThere_47
  · replace hw := hw.2 hc
    refine lv_aload_n hx hb dX9_areThere_10 rfl (lv_at hl 0 rfl) ?_
    refine r_get (C := RX9) (T := TX9) (Nf := 31) hx hb hts hown hK hG (by decide) rfl rfl inX9 3 (by decide) qF_X9_19 rfl dX9_areThere_11 ?_
    refine lv_iload_n hx hb dX9_areThere_14 rfl (lv_at hl 2 rfl) ?_
    obtain ⟨hi, hw⟩ := hw
    refine r_iald hx hb hK hG (isB_4).1 ((isB_4).2 y _) hi dX9_areThere_15 ?_
    refine lv_iload_n hx hb dX9_areThere_16 rfl (lv_at hl 3 rfl) ?_
    refine lv_icmp_ne (tgt := 46) hx hb dX9_areThere_17 (by decide) (fun hc => ?_) (fun hc => ?_)
    · replace hw := hw.1 hc
      refine lv_iconst (v := 0) hx hb dX9_areThere_46 (by decide) ?_
      exact r_iret hx hb hr hlk hK hG rfl hw dX9_areThere_47
    · replace hw := hw.2 hc
      refine lv_aload_n hx hb dX9_areThere_20 rfl (lv_at hl 0 rfl) ?_
      refine r_get (C := RX9) (T := TX9) (Nf := 31) hx hb hts hown hK hG (by decide) rfl rfl inX9 11 (by decide) qF_X9_171 rfl dX9_areThere_21 ?_
      refine lv_iload_n hx hb dX9_areThere_24 rfl (lv_at hl 1 rfl) ?_
      refine r_ki (r_run_S (As := [.int (st 0 11), .int x1]) (rest := []) hx hb hml hown hts hK hN hG (c_X9_has l y (st 0 11) x1 st _ hw) qM_X9_174 qT_X9_has qN_X9 qC_X9_has hd_X9_has ⟨Nat.le_of_ble_eq_true rfl, Nat.le_of_ble_eq_true rfl⟩ hl.1 rfl (Nat.le_of_ble_eq_true rfl) dX9_areThere_25) hG (fun r25 st25 H locs hw hG => ?_)
      refine lv_if_ne (tgt := 46) hx hb dX9_areThere_28 (by decide) (fun hc => ?_) (fun hc => ?_)
      · replace hw := hw.1 hc
        refine lv_iconst (v := 0) hx hb dX9_areThere_46 (by decide) ?_
        exact r_iret hx hb hr hlk hK hG rfl hw dX9_areThere_47
      · replace hw := hw.2 hc
        refine lv_aload_n hx hb dX9_areThere_31 rfl (lv_at hl 0 rfl) ?_
        refine r_get (C := RX9) (T := TX9) (Nf := 31) hx hb hts hown hK hG (by decide) rfl rfl inX9 11 (by decide) qF_X9_171 rfl dX9_areThere_32 ?_
        refine lv_iload_n hx hb dX9_areThere_35 rfl (lv_at hl 2 rfl) ?_
        refine r_ki (r_run_S (As := [.int (st25 0 11), .int x2]) (rest := []) hx hb hml hown hts hK hN hG (c_X9_has l y (st25 0 11) x2 st25 _ hw) qM_X9_174 qT_X9_has qN_X9 qC_X9_has hd_X9_has ⟨Nat.le_of_ble_eq_true rfl, Nat.le_of_ble_eq_true rfl⟩ hl.1 rfl (Nat.le_of_ble_eq_true rfl) dX9_areThere_36) hG (fun r36 st36 H locs hw hG => ?_)
        refine lv_if_ne (tgt := 46) hx hb dX9_areThere_39 (by decide) (fun hc => ?_) (fun hc => ?_)
        · replace hw := hw.1 hc
          refine lv_iconst (v := 0) hx hb dX9_areThere_46 (by decide) ?_
          exact r_iret hx hb hr hlk hK hG rfl hw dX9_areThere_47
        · replace hw := hw.2 hc
          refine lv_iconst (v := 1) hx hb dX9_areThere_42 (by decide) ?_
          refine lv_goto (tgt := 47) hx hb dX9_areThere_43 (by decide) ?_
          exact r_iret hx hb hr hlk hK hG rfl hw dX9_areThere_47
set_option maxRecDepth 100000 in
set_option maxHeartbeats 4000000 in
theorem z_X9_opensAt_b93 {p : Program} {e : Env} {s : State} {m : MethodId} {args : Array Value} {below : List Frame} {meth : Method} {c : Code} (l : Launch) (y : Sy) (x1 : Int32) (x2 : Int32) (C : Sd p s m args meth c cX9_opensAt 7 RX9 (some .int) y) (c10 : Int32 → Int32 → Int32 → St → Prop) (c25 : Int32 → Int32 → Int32 → Int32 → St → Prop) (K : Int32 → St → Prop) (hc10 : ∀ (v3 : Int32) (v4 : Int32) (v5 : Int32) (st : St) (H : Heap) (locs : List Loc) (ls : Array Slot), gH 17 enM y st s H locs → lv_has ls 7 [(0, .ref (ad y 0)), (1, .int x1), (2, .int x2), (3, .int v3), (4, .int v4), (5, .int v5)] → c10 v3 v4 v5 st → W p l e (rmm 2 44) s m args below meth c H locs 0 0 (MQ below (va_Qi K (gB 17 enM y) (gA 17 y)) args s 0 0 (gA 17 y)) (F0 m 10 ls [])) (hc25 : ∀ (v3 : Int32) (v4 : Int32) (v5 : Int32) (v6 : Int32) (st : St) (H : Heap) (locs : List Loc) (ls : Array Slot), gH 17 enM y st s H locs → lv_has ls 7 [(0, .ref (ad y 0)), (1, .int x1), (2, .int x2), (3, .int v3), (4, .int v4), (5, .int v5), (6, .int v6)] → c25 v3 v4 v5 v6 st → W p l e (rmm 2 44) s m args below meth c H locs 0 0 (MQ below (va_Qi K (gB 17 enM y) (gA 17 y)) args s 0 0 (gA 17 y)) (F0 m 25 ls [])) (v3 : Int32) (v4 : Int32) (v5 : Int32) (v6 : Int32) (st : St) {H : Heap} {locs : List Loc} {ls : Array Slot} (hG : gH 17 enM y st s H locs) (hl : lv_has ls 7 [(0, .ref (ad y 0)), (1, .int x1), (2, .int x2), (3, .int v3), (4, .int v4), (5, .int v5), (6, .int v6)]) (hw : w_X9_opensAt_b93 x1 x2 c10 c25 K v3 v4 v5 v6 st) : W p l e (rmm 2 44) s m args below meth c H locs 0 0 (MQ below (va_Qi K (gB 17 enM y) (gA 17 y)) args s 0 0 (gA 17 y)) (F0 m 93 ls []) := by
  obtain ⟨hx, hb, hml, hown, hts, hr, hlk, hK, hN⟩ := id C
  unfold w_X9_opensAt_b93 at hw
  refine lv_iinc (v := (v6 + 1)) (lv' := [(6, .int (v6 + 1)), (0, .ref (ad y 0)), (1, .int x1), (2, .int x2), (3, .int v3), (4, .int v4), (5, .int v5)]) hx hb dX9_opensAt_93 hl (k := 6) rfl rfl (Nat.le_of_ble_eq_true rfl) rfl (fun ls hl => ?_)
  refine lv_goto (tgt := 25) hx hb dX9_opensAt_96 (by decide) ?_
  exact hc25 v3 v4 v5 (v6 + 1) st H locs _ hG (lv_sub hl [1, 2, 3, 4, 5, 6, 0] rfl) hw
set_option maxRecDepth 100000 in
set_option maxHeartbeats 4000000 in
theorem z_X9_opensAt_b99 {p : Program} {e : Env} {s : State} {m : MethodId} {args : Array Value} {below : List Frame} {meth : Method} {c : Code} (l : Launch) (y : Sy) (x1 : Int32) (x2 : Int32) (C : Sd p s m args meth c cX9_opensAt 7 RX9 (some .int) y) (c10 : Int32 → Int32 → Int32 → St → Prop) (K : Int32 → St → Prop) (hc10 : ∀ (v3 : Int32) (v4 : Int32) (v5 : Int32) (st : St) (H : Heap) (locs : List Loc) (ls : Array Slot), gH 17 enM y st s H locs → lv_has ls 7 [(0, .ref (ad y 0)), (1, .int x1), (2, .int x2), (3, .int v3), (4, .int v4), (5, .int v5)] → c10 v3 v4 v5 st → W p l e (rmm 2 44) s m args below meth c H locs 0 0 (MQ below (va_Qi K (gB 17 enM y) (gA 17 y)) args s 0 0 (gA 17 y)) (F0 m 10 ls [])) (v3 : Int32) (v4 : Int32) (v5 : Int32) (st : St) {H : Heap} {locs : List Loc} {ls : Array Slot} (hG : gH 17 enM y st s H locs) (hl : lv_has ls 7 [(0, .ref (ad y 0)), (1, .int x1), (2, .int x2), (3, .int v3), (4, .int v4), (5, .int v5)]) (hw : w_X9_opensAt_b99 x1 x2 c10 K v3 v4 v5 st) : W p l e (rmm 2 44) s m args below meth c H locs 0 0 (MQ below (va_Qi K (gB 17 enM y) (gA 17 y)) args s 0 0 (gA 17 y)) (F0 m 99 ls []) := by
  obtain ⟨hx, hb, hml, hown, hts, hr, hlk, hK, hN⟩ := id C
  unfold w_X9_opensAt_b99 at hw
  refine lv_iinc (v := (v5 + 1)) (lv' := [(5, .int (v5 + 1)), (0, .ref (ad y 0)), (1, .int x1), (2, .int x2), (3, .int v3), (4, .int v4)]) hx hb dX9_opensAt_99 hl (k := 5) rfl rfl (Nat.le_of_ble_eq_true rfl) rfl (fun ls hl => ?_)
  refine lv_goto (tgt := 10) hx hb dX9_opensAt_102 (by decide) ?_
  exact hc10 v3 v4 (v5 + 1) st H locs _ hG (lv_sub hl [1, 2, 3, 4, 5, 0] rfl) hw
set_option maxRecDepth 100000 in
set_option maxHeartbeats 4000000 in
theorem z_X9_opensAt_L25 {p : Program} {e : Env} {s : State} {m : MethodId} {args : Array Value} {below : List Frame} {meth : Method} {c : Code} (l : Launch) (y : Sy) (x1 : Int32) (x2 : Int32) (C : Sd p s m args meth c cX9_opensAt 7 RX9 (some .int) y) (c10 : Int32 → Int32 → Int32 → St → Prop) (K : Int32 → St → Prop) (hc10 : ∀ (v3 : Int32) (v4 : Int32) (v5 : Int32) (st : St) (H : Heap) (locs : List Loc) (ls : Array Slot), gH 17 enM y st s H locs → lv_has ls 7 [(0, .ref (ad y 0)), (1, .int x1), (2, .int x2), (3, .int v3), (4, .int v4), (5, .int v5)] → c10 v3 v4 v5 st → W p l e (rmm 2 44) s m args below meth c H locs 0 0 (MQ below (va_Qi K (gB 17 enM y) (gA 17 y)) args s 0 0 (gA 17 y)) (F0 m 10 ls [])) : ∀ (n : Nat) (v3 : Int32) (v4 : Int32) (v5 : Int32) (v6 : Int32) (st : St) (H : Heap) (locs : List Loc) (ls : Array Slot), gH 17 enM y st s H locs → lv_has ls 7 [(0, .ref (ad y 0)), (1, .int x1), (2, .int x2), (3, .int v3), (4, .int v4), (5, .int v5), (6, .int v6)] → w_X9_opensAt_L25 x1 x2 c10 K n v3 v4 v5 v6 st → W p l e (rmm 2 44) s m args below meth c H locs 0 0 (MQ below (va_Qi K (gB 17 enM y) (gA 17 y)) args s 0 0 (gA 17 y)) (F0 m 25 ls []) := by
  obtain ⟨hx, hb, hml, hown, hts, hr, hlk, hK, hN⟩ := id C
  intro n
  induction n with
  | zero => intro v3 v4 v5 v6 st H locs ls hG hl hw; exact False.elim hw
  | succ n hc25 =>
    intro v3 v4 v5 v6 st H locs ls hG hl hw
    have hw : w_X9_opensAt_L25q x1 x2 c10 K (fun v3 v4 v5 v6 st => w_X9_opensAt_L25 x1 x2 c10 K n v3 v4 v5 v6 st) v3 v4 v5 v6 st := hw
    unfold w_X9_opensAt_L25q at hw
    refine lv_iload hx hb dX9_opensAt_25 (lv_at hl 6 rfl) ?_
    refine lv_aload_n hx hb dX9_opensAt_27 rfl (lv_at hl 0 rfl) ?_
    refine r_get (C := RX9) (T := TX9) (Nf := 31) hx hb hts hown hK hG (by decide) rfl rfl inX9 8 (by decide) qF_X9_65 rfl dX9_opensAt_28 ?_
    refine lv_icmp_ge (tgt := 99) hx hb dX9_opensAt_31 (by decide) (fun hc => ?_) (fun hc => ?_)
    · replace hw := hw.1 hc
      exact z_X9_opensAt_b99 l y x1 x2 C c10 K hc10 v3 v4 v5 st hG (lv_sub hl [0, 1, 2, 3, 4, 5] rfl) hw
    · replace hw := hw.2 hc
      refine lv_aload_n hx hb dX9_opensAt_34 rfl (lv_at hl 0 rfl) ?_
      refine lv_iload hx hb dX9_opensAt_35 (lv_at hl 5 rfl) ?_
      refine lv_iload hx hb dX9_opensAt_37 (lv_at hl 6 rfl) ?_
      refine lv_iload_n hx hb dX9_opensAt_39 rfl (lv_at hl 1 rfl) ?_
      refine r_ki (r_run_V (k := 0) (As := [.int v5, .int v6, .int x1]) (rest := []) hx hb hml hown hts hK hN hG (c_X9_areThere l y v5 v6 x1 st _ hw) (by decide) rfl rfl rfl qM_X9_177 qI_X9_areThere qS_X9_areThere qN_X9 qC_X9_areThere hd_X9_areThere ⟨Nat.le_of_ble_eq_true rfl, Nat.le_of_ble_eq_true rfl⟩ hl.1 rfl (Nat.le_of_ble_eq_true rfl) dX9_opensAt_40) hG (fun r40 st40 H locs hw hG => ?_)
      refine lv_if_eq (tgt := 93) hx hb dX9_opensAt_43 (by decide) (fun hc => ?_) (fun hc => ?_)
      · replace hw := hw.1 hc
        exact z_X9_opensAt_b93 l y x1 x2 C c10 (fun v3 v4 v5 v6 st => w_X9_opensAt_L25 x1 x2 c10 K n v3 v4 v5 v6 st) K hc10 hc25 v3 v4 v5 v6 st40 hG (lv_sub hl [0, 1, 2, 3, 4, 5, 6] rfl) hw
      · replace hw := hw.2 hc
        refine lv_aload_n hx hb dX9_opensAt_46 rfl (lv_at hl 0 rfl) ?_
        refine lv_iload hx hb dX9_opensAt_47 (lv_at hl 5 rfl) ?_
        refine lv_iload hx hb dX9_opensAt_49 (lv_at hl 6 rfl) ?_
        refine r_ki (r_run_V (k := 0) (As := [.int v5, .int v6]) (rest := []) hx hb hml hown hts hK hN hG (c_X9_hateOf l y v5 v6 st40 _ hw) (by decide) rfl rfl rfl qM_X9_180 qI_X9_hateOf qS_X9_hateOf qN_X9 qC_X9_hateOf hd_X9_hateOf ⟨Nat.le_of_ble_eq_true rfl, Nat.le_of_ble_eq_true rfl⟩ hl.1 rfl (Nat.le_of_ble_eq_true rfl) dX9_opensAt_51) hG (fun r51 st51 H locs hw hG => ?_)
        refine lv_iload_n hx hb dX9_opensAt_54 rfl (lv_at hl 2 rfl) ?_
        refine lv_icmp_lt (tgt := 93) hx hb dX9_opensAt_55 (by decide) (fun hc => ?_) (fun hc => ?_)
        · replace hw := hw.1 hc
          exact z_X9_opensAt_b93 l y x1 x2 C c10 (fun v3 v4 v5 v6 st => w_X9_opensAt_L25 x1 x2 c10 K n v3 v4 v5 v6 st) K hc10 hc25 v3 v4 v5 v6 st51 hG (lv_sub hl [0, 1, 2, 3, 4, 5, 6] rfl) hw
        · replace hw := hw.2 hc
          refine lv_aload_n hx hb dX9_opensAt_58 rfl (lv_at hl 0 rfl) ?_
          refine lv_iload hx hb dX9_opensAt_59 (lv_at hl 5 rfl) ?_
          refine lv_iload hx hb dX9_opensAt_61 (lv_at hl 6 rfl) ?_
          refine r_ki (r_run_V (k := 0) (As := [.int v5, .int v6]) (rest := []) hx hb hml hown hts hK hN hG (c_X9_hateOf l y v5 v6 st51 _ hw) (by decide) rfl rfl rfl qM_X9_180 qI_X9_hateOf qS_X9_hateOf qN_X9 qC_X9_hateOf hd_X9_hateOf ⟨Nat.le_of_ble_eq_true rfl, Nat.le_of_ble_eq_true rfl⟩ hl.1 rfl (Nat.le_of_ble_eq_true rfl) dX9_opensAt_63) hG (fun r63 st63 H locs hw hG => ?_)
          refine lv_iload hx hb dX9_opensAt_66 (lv_at hl 4 rfl) ?_
          refine lv_icmp_lt (tgt := 74) hx hb dX9_opensAt_68 (by decide) (fun hc => ?_) (fun hc => ?_)
          · replace hw := hw.1 hc
            refine lv_bipush (v := 10) hx hb dX9_opensAt_74 (by decide) ?_
            refine lv_iload hx hb dX9_opensAt_76 (lv_at hl 5 rfl) ?_
            refine lv_imul hx hb dX9_opensAt_78 ?_
            refine lv_iload hx hb dX9_opensAt_79 (lv_at hl 6 rfl) ?_
            refine lv_iadd hx hb dX9_opensAt_81 ?_
            refine lv_istore_n (lv' := [(3, .int ((10 * v5) + v6)), (0, .ref (ad y 0)), (1, .int x1), (2, .int x2), (4, .int v4), (5, .int v5), (6, .int v6)]) hx hb dX9_opensAt_82 rfl hl (Nat.le_of_ble_eq_true rfl) rfl (fun ls hl => ?_)
            refine lv_aload_n hx hb dX9_opensAt_83 rfl (lv_at hl 1 rfl) ?_
            refine lv_iload hx hb dX9_opensAt_84 (lv_at hl 5 rfl) ?_
            refine lv_iload hx hb dX9_opensAt_86 (lv_at hl 6 rfl) ?_
            refine r_ki (r_run_V (k := 0) (As := [.int v5, .int v6]) (rest := []) hx hb hml hown hts hK hN hG (c_X9_hateOf l y v5 v6 st63 _ hw) (by decide) rfl rfl rfl qM_X9_180 qI_X9_hateOf qS_X9_hateOf qN_X9 qC_X9_hateOf hd_X9_hateOf ⟨Nat.le_of_ble_eq_true rfl, Nat.le_of_ble_eq_true rfl⟩ hl.1 rfl (Nat.le_of_ble_eq_true rfl) dX9_opensAt_88) hG (fun r88 st88 H locs hw hG => ?_)
            refine lv_istore (lv' := [(4, .int r88), (3, .int ((10 * v5) + v6)), (0, .ref (ad y 0)), (1, .int x1), (2, .int x2), (5, .int v5), (6, .int v6)]) hx hb dX9_opensAt_91 hl (Nat.le_of_ble_eq_true rfl) rfl (fun ls hl => ?_)
            exact z_X9_opensAt_b93 l y x1 x2 C c10 (fun v3 v4 v5 v6 st => w_X9_opensAt_L25 x1 x2 c10 K n v3 v4 v5 v6 st) K hc10 hc25 ((10 * v5) + v6) r88 v5 v6 st88 hG (lv_sub hl [2, 3, 4, 1, 0, 5, 6] rfl) hw
          · replace hw := hw.2 hc
            refine lv_goto (tgt := 93) hx hb dX9_opensAt_71 (by decide) ?_
            exact z_X9_opensAt_b93 l y x1 x2 C c10 (fun v3 v4 v5 v6 st => w_X9_opensAt_L25 x1 x2 c10 K n v3 v4 v5 v6 st) K hc10 hc25 v3 v4 v5 v6 st63 hG (lv_sub hl [0, 1, 2, 3, 4, 5, 6] rfl) hw
set_option maxRecDepth 100000 in
set_option maxHeartbeats 4000000 in
theorem z_X9_opensAt_L10 {p : Program} {e : Env} {s : State} {m : MethodId} {args : Array Value} {below : List Frame} {meth : Method} {c : Code} (l : Launch) (y : Sy) (x1 : Int32) (x2 : Int32) (C : Sd p s m args meth c cX9_opensAt 7 RX9 (some .int) y)  (K : Int32 → St → Prop)  : ∀ (n : Nat) (v3 : Int32) (v4 : Int32) (v5 : Int32) (st : St) (H : Heap) (locs : List Loc) (ls : Array Slot), gH 17 enM y st s H locs → lv_has ls 7 [(0, .ref (ad y 0)), (1, .int x1), (2, .int x2), (3, .int v3), (4, .int v4), (5, .int v5)] → w_X9_opensAt_L10 x1 x2  K n v3 v4 v5 st → W p l e (rmm 2 44) s m args below meth c H locs 0 0 (MQ below (va_Qi K (gB 17 enM y) (gA 17 y)) args s 0 0 (gA 17 y)) (F0 m 10 ls []) := by
  obtain ⟨hx, hb, hml, hown, hts, hr, hlk, hK, hN⟩ := id C
  intro n
  induction n with
  | zero => intro v3 v4 v5 st H locs ls hG hl hw; exact False.elim hw
  | succ n hc10 =>
    intro v3 v4 v5 st H locs ls hG hl hw
    have hw : w_X9_opensAt_L10q x1 x2  K (fun v3 v4 v5 st => w_X9_opensAt_L10 x1 x2  K n v3 v4 v5 st) v3 v4 v5 st := hw
    unfold w_X9_opensAt_L10q at hw
    refine lv_iload hx hb dX9_opensAt_10 (lv_at hl 5 rfl) ?_
    refine lv_aload_n hx hb dX9_opensAt_12 rfl (lv_at hl 0 rfl) ?_
    refine r_get (C := RX9) (T := TX9) (Nf := 31) hx hb hts hown hK hG (by decide) rfl rfl inX9 8 (by decide) qF_X9_65 rfl dX9_opensAt_13 ?_
    refine lv_icmp_ge (tgt := 105) hx hb dX9_opensAt_16 (by decide) (fun hc => ?_) (fun hc => ?_)
    · replace hw := hw.1 hc
      refine lv_iload_n hx hb dX9_opensAt_105 rfl (lv_at hl 3 rfl) ?_
      exact r_iret hx hb hr hlk hK hG rfl hw dX9_opensAt_106
    · replace hw := hw.2 hc
      refine lv_iload hx hb dX9_opensAt_19 (lv_at hl 5 rfl) ?_
      refine lv_iconst (v := 1) hx hb dX9_opensAt_21 (by decide) ?_
      refine lv_iadd hx hb dX9_opensAt_22 ?_
      refine lv_istore (lv' := [(6, .int (v5 + 1)), (0, .ref (ad y 0)), (1, .int x1), (2, .int x2), (3, .int v3), (4, .int v4), (5, .int v5)]) hx hb dX9_opensAt_23 hl (Nat.le_of_ble_eq_true rfl) rfl (fun ls hl => ?_)
      obtain ⟨n25, hw⟩ := hw
      exact z_X9_opensAt_L25 l y x1 x2 C (fun v3 v4 v5 st => w_X9_opensAt_L10 x1 x2  K n v3 v4 v5 st) K hc10 n25 v3 v4 v5 (v5 + 1) st H locs _ hG (lv_sub hl [1, 2, 3, 4, 5, 6, 0] rfl) hw
theorem hd_X9_opensAt : yX9_opensAt.cls ≠ "java/lang/invoke/MethodHandle" ∧ yX9_opensAt.cls ≠ "java/lang/invoke/VarHandle" ∧ (parseMethodDescriptor yX9_opensAt.desc).map (fun d => d.parameters.length) = some 2 := by decide +kernel
set_option maxRecDepth 100000 in
set_option maxHeartbeats 4000000 in
theorem c_X9_opensAt (l : Launch) (y : Sy) (x1 : Int32) (x2 : Int32) (st : St) (K : Int32 → St → Prop) (hw : w_X9_opensAt x1 x2 st K) : Ci 17 enM l yX9_opensAt cX9_opensAt 7 (some .int) 2 44 y [.ref (ad y 0), .int x1, .int x2] st K := by
  refine ent (by decide) (Nat.le_of_ble_eq_true rfl) ?_
  intro p e s m below meth c C hG ls hl
  have hl : lv_has ls 7 [(0, .ref (ad y 0)), (1, .int x1), (2, .int x2)] := hl
  generalize ([.ref (ad y 0), .int x1, .int x2] : List Value).toArray = args at C ⊢
  have C : Sd p s m args meth c cX9_opensAt 7 RX9 (some .int) y := C
  obtain ⟨hx, hb, hml, hown, hts, hr, hlk, hK, hN⟩ := id C
  generalize s.heap = H at hG ⊢
  generalize ([] : List Loc) = locs at hG ⊢
  unfold w_X9_opensAt at hw
  refine lv_bipush (v := (-9)) hx hb dX9_opensAt_0 (by decide) ?_
  refine lv_istore_n (lv' := [(3, .int (-9)), (0, .ref (ad y 0)), (1, .int x1), (2, .int x2)]) hx hb dX9_opensAt_2 rfl hl (Nat.le_of_ble_eq_true rfl) rfl (fun ls hl => ?_)
  refine lv_bipush (v := 100) hx hb dX9_opensAt_3 (by decide) ?_
  refine lv_istore (lv' := [(4, .int 100), (3, .int (-9)), (0, .ref (ad y 0)), (1, .int x1), (2, .int x2)]) hx hb dX9_opensAt_5 hl (Nat.le_of_ble_eq_true rfl) rfl (fun ls hl => ?_)
  refine lv_iconst (v := 0) hx hb dX9_opensAt_7 (by decide) ?_
  refine lv_istore (lv' := [(5, .int 0), (4, .int 100), (3, .int (-9)), (0, .ref (ad y 0)), (1, .int x1), (2, .int x2)]) hx hb dX9_opensAt_8 hl (Nat.le_of_ble_eq_true rfl) rfl (fun ls hl => ?_)
  obtain ⟨n10, hw⟩ := hw
  exact z_X9_opensAt_L10 l y x1 x2 C  K  n10 (-9) 100 0 st H locs _ hG (lv_sub hl [3, 4, 5, 2, 1, 0] rfl) hw
set_option maxRecDepth 100000 in
set_option maxHeartbeats 4000000 in
theorem z_X9_goesWeek_b49 {p : Program} {e : Env} {s : State} {m : MethodId} {args : Array Value} {below : List Frame} {meth : Method} {c : Code} (l : Launch) (y : Sy)  (C : Sd p s m args meth c cX9_goesWeek 4 RX9 none y) (c17 : Int32 → St → Prop) (K : St → Prop) (hc17 : ∀ (v1 : Int32) (st : St) (H : Heap) (locs : List Loc) (ls : Array Slot), gH 17 enM y st s H locs → lv_has ls 4 [(0, .ref (ad y 0)), (1, .int v1)] → c17 v1 st → W p l e (rmm 3 70) s m args below meth c H locs 0 0 (MQ below (va_Qv K (gB 17 enM y) (gA 17 y)) args s 0 0 (gA 17 y)) (F0 m 17 ls [])) (v1 : Int32) (st : St) {H : Heap} {locs : List Loc} {ls : Array Slot} (hG : gH 17 enM y st s H locs) (hl : lv_has ls 4 [(0, .ref (ad y 0)), (1, .int v1)]) (hw : w_X9_goesWeek_b49  c17 K v1 st) : W p l e (rmm 3 70) s m args below meth c H locs 0 0 (MQ below (va_Qv K (gB 17 enM y) (gA 17 y)) args s 0 0 (gA 17 y)) (F0 m 49 ls []) := by
  obtain ⟨hx, hb, hml, hown, hts, hr, hlk, hK, hN⟩ := id C
  unfold w_X9_goesWeek_b49 at hw
  refine lv_iinc (v := (v1 + 1)) (lv' := [(1, .int (v1 + 1)), (0, .ref (ad y 0))]) hx hb dX9_goesWeek_49 hl (k := 1) rfl rfl (Nat.le_of_ble_eq_true rfl) rfl (fun ls hl => ?_)
  refine lv_goto (tgt := 17) hx hb dX9_goesWeek_52 (by decide) ?_
  exact hc17 (v1 + 1) st H locs _ hG (lv_sub hl [1, 0] rfl) hw
set_option maxRecDepth 100000 in
set_option maxHeartbeats 4000000 in
theorem z_X9_goesWeek_L29 {p : Program} {e : Env} {s : State} {m : MethodId} {args : Array Value} {below : List Frame} {meth : Method} {c : Code} (l : Launch) (y : Sy)  (C : Sd p s m args meth c cX9_goesWeek 4 RX9 none y) (c17 : Int32 → St → Prop) (K : St → Prop) (hc17 : ∀ (v1 : Int32) (st : St) (H : Heap) (locs : List Loc) (ls : Array Slot), gH 17 enM y st s H locs → lv_has ls 4 [(0, .ref (ad y 0)), (1, .int v1)] → c17 v1 st → W p l e (rmm 3 70) s m args below meth c H locs 0 0 (MQ below (va_Qv K (gB 17 enM y) (gA 17 y)) args s 0 0 (gA 17 y)) (F0 m 17 ls [])) : ∀ (n : Nat) (v1 : Int32) (v2 : Int32) (st : St) (H : Heap) (locs : List Loc) (ls : Array Slot), gH 17 enM y st s H locs → lv_has ls 4 [(0, .ref (ad y 0)), (1, .int v1), (2, .int v2)] → w_X9_goesWeek_L29  c17 K n v1 v2 st → W p l e (rmm 3 70) s m args below meth c H locs 0 0 (MQ below (va_Qv K (gB 17 enM y) (gA 17 y)) args s 0 0 (gA 17 y)) (F0 m 29 ls []) := by
  obtain ⟨hx, hb, hml, hown, hts, hr, hlk, hK, hN⟩ := id C
  intro n
  induction n with
  | zero => intro v1 v2 st H locs ls hG hl hw; exact False.elim hw
  | succ n hc29 =>
    intro v1 v2 st H locs ls hG hl hw
    have hw : w_X9_goesWeek_L29q  c17 K (fun v1 v2 st => w_X9_goesWeek_L29  c17 K n v1 v2 st) v1 v2 st := hw
    unfold w_X9_goesWeek_L29q at hw
    refine lv_iload_n hx hb dX9_goesWeek_29 rfl (lv_at hl 2 rfl) ?_
    refine lv_aload_n hx hb dX9_goesWeek_30 rfl (lv_at hl 0 rfl) ?_
    refine r_get (C := RX9) (T := TX9) (Nf := 31) hx hb hts hown hK hG (by decide) rfl rfl inX9 8 (by decide) qF_X9_65 rfl dX9_goesWeek_31 ?_
    refine lv_icmp_ge (tgt := 49) hx hb dX9_goesWeek_34 (by decide) (fun hc => ?_) (fun hc => ?_)
    · replace hw := hw.1 hc
      exact z_X9_goesWeek_b49 l y  C c17 K hc17 v1 st hG (lv_sub hl [0, 1] rfl) hw
    · replace hw := hw.2 hc
      refine lv_aload_n hx hb dX9_goesWeek_37 rfl (lv_at hl 0 rfl) ?_
      refine lv_iload_n hx hb dX9_goesWeek_38 rfl (lv_at hl 1 rfl) ?_
      refine lv_iload_n hx hb dX9_goesWeek_39 rfl (lv_at hl 2 rfl) ?_
      refine r_kv (r_run_V (k := 0) (As := [.int v1, .int v2]) (rest := []) hx hb hml hown hts hK hN hG (c_X9_fadesTwo l y v1 v2 st _ hw) (by decide) rfl rfl rfl qM_X9_196 qI_X9_fadesTwo qS_X9_fadesTwo qN_X9 qC_X9_fadesTwo hd_X9_fadesTwo ⟨Nat.le_of_ble_eq_true rfl, Nat.le_of_ble_eq_true rfl⟩ hl.1 rfl (Nat.le_of_ble_eq_true rfl) dX9_goesWeek_40) hG (fun st40 H locs hw hG => ?_)
      refine lv_iinc (v := (v2 + 1)) (lv' := [(2, .int (v2 + 1)), (0, .ref (ad y 0)), (1, .int v1)]) hx hb dX9_goesWeek_43 hl (k := 2) rfl rfl (Nat.le_of_ble_eq_true rfl) rfl (fun ls hl => ?_)
      refine lv_goto (tgt := 29) hx hb dX9_goesWeek_46 (by decide) ?_
      exact hc29 v1 (v2 + 1) st40 H locs _ hG (lv_sub hl [1, 2, 0] rfl) hw
set_option maxRecDepth 100000 in
set_option maxHeartbeats 4000000 in
theorem z_X9_goesWeek_b171 {p : Program} {e : Env} {s : State} {m : MethodId} {args : Array Value} {below : List Frame} {meth : Method} {c : Code} (l : Launch) (y : Sy)  (C : Sd p s m args meth c cX9_goesWeek 4 RX9 none y) (c57 : Int32 → St → Prop) (K : St → Prop) (hc57 : ∀ (v1 : Int32) (st : St) (H : Heap) (locs : List Loc) (ls : Array Slot), gH 17 enM y st s H locs → lv_has ls 4 [(0, .ref (ad y 0)), (1, .int v1)] → c57 v1 st → W p l e (rmm 3 70) s m args below meth c H locs 0 0 (MQ below (va_Qv K (gB 17 enM y) (gA 17 y)) args s 0 0 (gA 17 y)) (F0 m 57 ls [])) (v1 : Int32) (st : St) {H : Heap} {locs : List Loc} {ls : Array Slot} (hG : gH 17 enM y st s H locs) (hl : lv_has ls 4 [(0, .ref (ad y 0)), (1, .int v1)]) (hw : w_X9_goesWeek_b171  c57 K v1 st) : W p l e (rmm 3 70) s m args below meth c H locs 0 0 (MQ below (va_Qv K (gB 17 enM y) (gA 17 y)) args s 0 0 (gA 17 y)) (F0 m 171 ls []) := by
  obtain ⟨hx, hb, hml, hown, hts, hr, hlk, hK, hN⟩ := id C
  unfold w_X9_goesWeek_b171 at hw
  refine lv_iinc (v := (v1 + 1)) (lv' := [(1, .int (v1 + 1)), (0, .ref (ad y 0))]) hx hb dX9_goesWeek_171 hl (k := 1) rfl rfl (Nat.le_of_ble_eq_true rfl) rfl (fun ls hl => ?_)
  refine lv_goto (tgt := 57) hx hb dX9_goesWeek_174 (by decide) ?_
  exact hc57 (v1 + 1) st H locs _ hG (lv_sub hl [1, 0] rfl) hw
set_option maxRecDepth 100000 in
set_option maxHeartbeats 4000000 in
theorem z_X9_goesWeek_b101 {p : Program} {e : Env} {s : State} {m : MethodId} {args : Array Value} {below : List Frame} {meth : Method} {c : Code} (l : Launch) (y : Sy)  (C : Sd p s m args meth c cX9_goesWeek 4 RX9 none y) (c57 : Int32 → St → Prop) (K : St → Prop) (hc57 : ∀ (v1 : Int32) (st : St) (H : Heap) (locs : List Loc) (ls : Array Slot), gH 17 enM y st s H locs → lv_has ls 4 [(0, .ref (ad y 0)), (1, .int v1)] → c57 v1 st → W p l e (rmm 3 70) s m args below meth c H locs 0 0 (MQ below (va_Qv K (gB 17 enM y) (gA 17 y)) args s 0 0 (gA 17 y)) (F0 m 57 ls [])) (v1 : Int32) (s0 : Int32) (s1 : Int32) (st : St) {H : Heap} {locs : List Loc} {ls : Array Slot} (hG : gH 17 enM y st s H locs) (hl : lv_has ls 4 [(0, .ref (ad y 0)), (1, .int v1)]) (hw : w_X9_goesWeek_b101  c57 K v1 s0 s1 st) : W p l e (rmm 3 70) s m args below meth c H locs 0 0 (MQ below (va_Qv K (gB 17 enM y) (gA 17 y)) args s 0 0 (gA 17 y)) (F0 m 101 ls [.int s0, .int s1, .ref (ad y 14)]) := by
  obtain ⟨hx, hb, hml, hown, hts, hr, hlk, hK, hN⟩ := id C
  unfold w_X9_goesWeek_b101 at hw
  obtain ⟨hi, hw⟩ := hw
  refine r_iast hx hb hK hG (isB_14).1 (fun f => (isB_14).2 y f) hi dX9_goesWeek_101 (fun H locs hG => ?_)
  obtain ⟨st1, e1⟩ : ∃ q, q = u2 st 14 (s1).toNatClampNeg s0 := ⟨_, rfl⟩
  rw [← e1] at hw hG
  refine lv_aload_n hx hb dX9_goesWeek_102 rfl (lv_at hl 0 rfl) ?_
  refine r_get (C := RX9) (T := TX9) (Nf := 31) hx hb hts hown hK hG (by decide) rfl rfl inX9 24 (by decide) qF_X9_49 rfl dX9_goesWeek_103 ?_
  refine lv_iload_n hx hb dX9_goesWeek_106 rfl (lv_at hl 1 rfl) ?_
  obtain ⟨hi, hw⟩ := hw
  refine r_iald hx hb hK hG (isB_14).1 ((isB_14).2 y _) hi dX9_goesWeek_107 ?_
  refine lv_if_ge (tgt := 114) hx hb dX9_goesWeek_108 (by decide) (fun hc => ?_) (fun hc => ?_)
  · replace hw := hw.1 hc
    refine lv_aload_n hx hb dX9_goesWeek_114 rfl (lv_at hl 0 rfl) ?_
    refine r_get (C := RX9) (T := TX9) (Nf := 31) hx hb hts hown hK hG (by decide) rfl rfl inX9 24 (by decide) qF_X9_49 rfl dX9_goesWeek_115 ?_
    refine lv_iload_n hx hb dX9_goesWeek_118 rfl (lv_at hl 1 rfl) ?_
    obtain ⟨hi, hw⟩ := hw
    refine r_iald hx hb hK hG (isB_14).1 ((isB_14).2 y _) hi dX9_goesWeek_119 ?_
    refine lv_bipush (v := 10) hx hb dX9_goesWeek_120 (by decide) ?_
    refine lv_idiv hx hb dX9_goesWeek_122 (by decide) ?_
    refine lv_istore_n (lv' := [(2, .int ((st1 14 (v1).toNatClampNeg) / 10)), (0, .ref (ad y 0)), (1, .int v1)]) hx hb dX9_goesWeek_123 rfl hl (Nat.le_of_ble_eq_true rfl) rfl (fun ls hl => ?_)
    refine lv_aload_n hx hb dX9_goesWeek_124 rfl (lv_at hl 1 rfl) ?_
    refine r_get (C := RX9) (T := TX9) (Nf := 31) hx hb hts hown hK hG (by decide) rfl rfl inX9 24 (by decide) qF_X9_49 rfl dX9_goesWeek_125 ?_
    refine lv_iload_n hx hb dX9_goesWeek_128 rfl (lv_at hl 2 rfl) ?_
    obtain ⟨hi, hw⟩ := hw
    refine r_iald hx hb hK hG (isB_14).1 ((isB_14).2 y _) hi dX9_goesWeek_129 ?_
    refine lv_bipush (v := 10) hx hb dX9_goesWeek_130 (by decide) ?_
    refine lv_irem hx hb dX9_goesWeek_132 (by decide) ?_
    refine lv_istore_n (lv' := [(3, .int ((st1 14 (v1).toNatClampNeg) - (st1 14 (v1).toNatClampNeg) / 10 * 10)), (2, .int ((st1 14 (v1).toNatClampNeg) / 10)), (0, .ref (ad y 0)), (1, .int v1)]) hx hb dX9_goesWeek_133 rfl hl (Nat.le_of_ble_eq_true rfl) rfl (fun ls hl => ?_)
    refine lv_aload_n hx hb dX9_goesWeek_134 rfl (lv_at hl 2 rfl) ?_
    refine r_get (C := RX9) (T := TX9) (Nf := 31) hx hb hts hown hK hG (by decide) rfl rfl inX9 7 (by decide) qF_X9_31 rfl dX9_goesWeek_135 ?_
    refine lv_iload_n hx hb dX9_goesWeek_138 rfl (lv_at hl 3 rfl) ?_
    refine lv_iconst (v := 1) hx hb dX9_goesWeek_139 (by decide) ?_
    obtain ⟨hi, hw⟩ := hw
    refine r_iast hx hb hK hG (isB_8).1 (fun f => (isB_8).2 y f) hi dX9_goesWeek_140 (fun H locs hG => ?_)
    refine lv_aload_n hx hb dX9_goesWeek_141 rfl (lv_at hl 2 rfl) ?_
    refine lv_dup hx hb dX9_goesWeek_142 rfl ?_
    refine r_get (C := RX9) (T := TX9) (Nf := 31) hx hb hts hown hK hG (by decide) rfl rfl inX9 25 (by decide) qF_X9_193 rfl dX9_goesWeek_143 ?_
    refine lv_iconst (v := 1) hx hb dX9_goesWeek_146 (by decide) ?_
    refine lv_iadd hx hb dX9_goesWeek_147 ?_
    refine r_put (C := RX9) (T := TX9) (Nf := 31) hx hb hts hown hK hG (by decide) rfl rfl inX9 tyX9_ok nmX9 25 (by decide) qF_X9_193 rfl (((u2 st1 8 (v1).toNatClampNeg 1) 0 25) + 1) rfl rfl rfl (Nat.le_of_ble_eq_true rfl) dX9_goesWeek_148 (fun H locs hG => ?_)
    refine lv_aload_n hx hb dX9_goesWeek_151 rfl (lv_at hl 2 rfl) ?_
    refine lv_iload_n hx hb dX9_goesWeek_152 rfl (lv_at hl 1 rfl) ?_
    refine lv_iload_n hx hb dX9_goesWeek_153 rfl (lv_at hl 0 rfl) ?_
    refine lv_aload_n hx hb dX9_goesWeek_154 rfl (lv_at hl 2 rfl) ?_
    refine lv_iload_n hx hb dX9_goesWeek_155 rfl (lv_at hl 1 rfl) ?_
    refine lv_iload_n hx hb dX9_goesWeek_156 rfl (lv_at hl 0 rfl) ?_
    refine r_ki (r_run_V (k := 0) (As := [.int ((st1 14 (v1).toNatClampNeg) / 10), .int ((st1 14 (v1).toNatClampNeg) - (st1 14 (v1).toNatClampNeg) / 10 * 10)]) (rest := [.int ((st1 14 (v1).toNatClampNeg) - (st1 14 (v1).toNatClampNeg) / 10 * 10), .int ((st1 14 (v1).toNatClampNeg) / 10), .ref (ad y 0)]) hx hb hml hown hts hK hN hG (c_X9_hateOf l y ((st1 14 (v1).toNatClampNeg) / 10) ((st1 14 (v1).toNatClampNeg) - (st1 14 (v1).toNatClampNeg) / 10 * 10) (u2 (u2 st1 8 (v1).toNatClampNeg 1) 0 25 (((u2 st1 8 (v1).toNatClampNeg 1) 0 25) + 1)) _ hw) (by decide) rfl rfl rfl qM_X9_180 qI_X9_hateOf qS_X9_hateOf qN_X9 qC_X9_hateOf hd_X9_hateOf ⟨Nat.le_of_ble_eq_true rfl, Nat.le_of_ble_eq_true rfl⟩ hl.1 rfl (Nat.le_of_ble_eq_true rfl) dX9_goesWeek_157) hG (fun r157 st157 H locs hw hG => ?_)
    refine lv_iconst (v := 5) hx hb dX9_goesWeek_160 (by decide) ?_
    refine lv_isub hx hb dX9_goesWeek_161 ?_
    refine lv_iconst (v := 0) hx hb dX9_goesWeek_162 (by decide) ?_
    refine lv_bipush (v := 99) hx hb dX9_goesWeek_163 (by decide) ?_
    refine r_ki (r_run_S (As := [.int (r157 - 5), .int 0, .int 99]) (rest := [.int ((st1 14 (v1).toNatClampNeg) - (st1 14 (v1).toNatClampNeg) / 10 * 10), .int ((st1 14 (v1).toNatClampNeg) / 10), .ref (ad y 0)]) hx hb hml hown hts hK hN hG (c_X9_held l y (r157 - 5) 0 99 st157 _ hw) qM_X9_187 qT_X9_held qN_X9 qC_X9_held hd_X9_held ⟨Nat.le_of_ble_eq_true rfl, Nat.le_of_ble_eq_true rfl⟩ hl.1 rfl (Nat.le_of_ble_eq_true rfl) dX9_goesWeek_165) hG (fun r165 st165 H locs hw hG => ?_)
    refine r_kv (r_run_V (k := 0) (As := [.int ((st1 14 (v1).toNatClampNeg) / 10), .int ((st1 14 (v1).toNatClampNeg) - (st1 14 (v1).toNatClampNeg) / 10 * 10), .int r165]) (rest := []) hx hb hml hown hts hK hN hG (c_X9_sets l y ((st1 14 (v1).toNatClampNeg) / 10) ((st1 14 (v1).toNatClampNeg) - (st1 14 (v1).toNatClampNeg) / 10 * 10) r165 st165 _ hw) (by decide) rfl rfl rfl qM_X9_128 qI_X9_sets qS_X9_sets qN_X9 qC_X9_sets hd_X9_sets ⟨Nat.le_of_ble_eq_true rfl, Nat.le_of_ble_eq_true rfl⟩ hl.1 rfl (Nat.le_of_ble_eq_true rfl) dX9_goesWeek_168) hG (fun st168 H locs hw hG => ?_)
    exact z_X9_goesWeek_b171 l y  C c57 K hc57 v1 st168 hG (lv_sub hl [2, 3] rfl) hw
  · replace hw := hw.2 hc
    refine lv_goto (tgt := 171) hx hb dX9_goesWeek_111 (by decide) ?_
    exact z_X9_goesWeek_b171 l y  C c57 K hc57 v1 st1 hG (lv_sub hl [0, 1] rfl) hw
set_option maxRecDepth 100000 in
set_option maxHeartbeats 4000000 in
theorem z_X9_goesWeek_L57 {p : Program} {e : Env} {s : State} {m : MethodId} {args : Array Value} {below : List Frame} {meth : Method} {c : Code} (l : Launch) (y : Sy)  (C : Sd p s m args meth c cX9_goesWeek 4 RX9 none y)  (K : St → Prop)  : ∀ (n : Nat) (v1 : Int32) (st : St) (H : Heap) (locs : List Loc) (ls : Array Slot), gH 17 enM y st s H locs → lv_has ls 4 [(0, .ref (ad y 0)), (1, .int v1)] → w_X9_goesWeek_L57   K n v1 st → W p l e (rmm 3 70) s m args below meth c H locs 0 0 (MQ below (va_Qv K (gB 17 enM y) (gA 17 y)) args s 0 0 (gA 17 y)) (F0 m 57 ls []) := by
  obtain ⟨hx, hb, hml, hown, hts, hr, hlk, hK, hN⟩ := id C
  intro n
  induction n with
  | zero => intro v1 st H locs ls hG hl hw; exact False.elim hw
  | succ n hc57 =>
    intro v1 st H locs ls hG hl hw
    have hw : w_X9_goesWeek_L57q   K (fun v1 st => w_X9_goesWeek_L57   K n v1 st) v1 st := hw
    unfold w_X9_goesWeek_L57q at hw
    refine lv_iload_n hx hb dX9_goesWeek_57 rfl (lv_at hl 1 rfl) ?_
    refine lv_aload_n hx hb dX9_goesWeek_58 rfl (lv_at hl 0 rfl) ?_
    refine r_get (C := RX9) (T := TX9) (Nf := 31) hx hb hts hown hK hG (by decide) rfl rfl inX9 9 (by decide) qF_X9_58 rfl dX9_goesWeek_59 ?_
    refine lv_icmp_ge (tgt := 177) hx hb dX9_goesWeek_62 (by decide) (fun hc => ?_) (fun hc => ?_)
    · replace hw := hw.1 hc
      exact r_vret hx hb hr hlk hK hG hw dX9_goesWeek_177
    · replace hw := hw.2 hc
      refine lv_aload_n hx hb dX9_goesWeek_65 rfl (lv_at hl 0 rfl) ?_
      refine r_get (C := RX9) (T := TX9) (Nf := 31) hx hb hts hown hK hG (by decide) rfl rfl inX9 24 (by decide) qF_X9_49 rfl dX9_goesWeek_66 ?_
      refine lv_iload_n hx hb dX9_goesWeek_69 rfl (lv_at hl 1 rfl) ?_
      refine lv_aload_n hx hb dX9_goesWeek_70 rfl (lv_at hl 0 rfl) ?_
      refine r_get (C := RX9) (T := TX9) (Nf := 31) hx hb hts hown hK hG (by decide) rfl rfl inX9 7 (by decide) qF_X9_31 rfl dX9_goesWeek_71 ?_
      refine lv_iload_n hx hb dX9_goesWeek_74 rfl (lv_at hl 1 rfl) ?_
      obtain ⟨hi, hw⟩ := hw
      refine r_iald hx hb hK hG (isB_8).1 ((isB_8).2 y _) hi dX9_goesWeek_75 ?_
      refine lv_iconst (v := 1) hx hb dX9_goesWeek_76 (by decide) ?_
      refine lv_icmp_ne (tgt := 85) hx hb dX9_goesWeek_77 (by decide) (fun hc => ?_) (fun hc => ?_)
      · replace hw := hw.1 hc
        refine lv_aload_n hx hb dX9_goesWeek_85 rfl (lv_at hl 0 rfl) ?_
        refine lv_aload_n hx hb dX9_goesWeek_86 rfl (lv_at hl 0 rfl) ?_
        refine r_get (C := RX9) (T := TX9) (Nf := 31) hx hb hts hown hK hG (by decide) rfl rfl inX9 6 (by decide) qF_X9_28 rfl dX9_goesWeek_87 ?_
        refine lv_iload_n hx hb dX9_goesWeek_90 rfl (lv_at hl 1 rfl) ?_
        obtain ⟨hi, hw⟩ := hw
        refine r_iald hx hb hK hG (isB_7).1 ((isB_7).2 y _) hi dX9_goesWeek_91 ?_
        refine lv_aload_n hx hb dX9_goesWeek_92 rfl (lv_at hl 0 rfl) ?_
        refine r_get (C := RX9) (T := TX9) (Nf := 31) hx hb hts hown hK hG (by decide) rfl rfl inX9 5 (by decide) qF_X9_25 rfl dX9_goesWeek_93 ?_
        refine lv_iload_n hx hb dX9_goesWeek_96 rfl (lv_at hl 1 rfl) ?_
        obtain ⟨hi, hw⟩ := hw
        refine r_iald hx hb hK hG (isB_6).1 ((isB_6).2 y _) hi dX9_goesWeek_97 ?_
        refine r_ki (r_run_V (k := 0) (As := [.int (st 7 (v1).toNatClampNeg), .int (st 6 (v1).toNatClampNeg)]) (rest := [.int v1, .ref (ad y 14)]) hx hb hml hown hts hK hN hG (c_X9_opensAt l y (st 7 (v1).toNatClampNeg) (st 6 (v1).toNatClampNeg) st _ hw) (by decide) rfl rfl rfl qM_X9_199 qI_X9_opensAt qS_X9_opensAt qN_X9 qC_X9_opensAt hd_X9_opensAt ⟨Nat.le_of_ble_eq_true rfl, Nat.le_of_ble_eq_true rfl⟩ hl.1 rfl (Nat.le_of_ble_eq_true rfl) dX9_goesWeek_98) hG (fun r98 st98 H locs hw hG => ?_)
        exact z_X9_goesWeek_b101 l y  C (fun v1 st => w_X9_goesWeek_L57   K n v1 st) K hc57 v1 r98 v1 st98 hG (lv_sub hl [0, 1] rfl) hw
      · replace hw := hw.2 hc
        refine lv_bipush (v := (-9)) hx hb dX9_goesWeek_80 (by decide) ?_
        refine lv_goto (tgt := 101) hx hb dX9_goesWeek_82 (by decide) ?_
        exact z_X9_goesWeek_b101 l y  C (fun v1 st => w_X9_goesWeek_L57   K n v1 st) K hc57 v1 (-9) v1 st hG (lv_sub hl [0, 1] rfl) hw
set_option maxRecDepth 100000 in
set_option maxHeartbeats 4000000 in
theorem z_X9_goesWeek_b55 {p : Program} {e : Env} {s : State} {m : MethodId} {args : Array Value} {below : List Frame} {meth : Method} {c : Code} (l : Launch) (y : Sy)  (C : Sd p s m args meth c cX9_goesWeek 4 RX9 none y)  (K : St → Prop)   (st : St) {H : Heap} {locs : List Loc} {ls : Array Slot} (hG : gH 17 enM y st s H locs) (hl : lv_has ls 4 [(0, .ref (ad y 0))]) (hw : w_X9_goesWeek_b55   K  st) : W p l e (rmm 3 70) s m args below meth c H locs 0 0 (MQ below (va_Qv K (gB 17 enM y) (gA 17 y)) args s 0 0 (gA 17 y)) (F0 m 55 ls []) := by
  obtain ⟨hx, hb, hml, hown, hts, hr, hlk, hK, hN⟩ := id C
  unfold w_X9_goesWeek_b55 at hw
  refine lv_iconst (v := 0) hx hb dX9_goesWeek_55 (by decide) ?_
  refine lv_istore_n (lv' := [(1, .int 0), (0, .ref (ad y 0))]) hx hb dX9_goesWeek_56 rfl hl (Nat.le_of_ble_eq_true rfl) rfl (fun ls hl => ?_)
  obtain ⟨n57, hw⟩ := hw
  exact z_X9_goesWeek_L57 l y  C  K  n57 0 st H locs _ hG (lv_sub hl [1, 0] rfl) hw
set_option maxRecDepth 100000 in
set_option maxHeartbeats 4000000 in
theorem z_X9_goesWeek_L17 {p : Program} {e : Env} {s : State} {m : MethodId} {args : Array Value} {below : List Frame} {meth : Method} {c : Code} (l : Launch) (y : Sy)  (C : Sd p s m args meth c cX9_goesWeek 4 RX9 none y)  (K : St → Prop)  : ∀ (n : Nat) (v1 : Int32) (st : St) (H : Heap) (locs : List Loc) (ls : Array Slot), gH 17 enM y st s H locs → lv_has ls 4 [(0, .ref (ad y 0)), (1, .int v1)] → w_X9_goesWeek_L17   K n v1 st → W p l e (rmm 3 70) s m args below meth c H locs 0 0 (MQ below (va_Qv K (gB 17 enM y) (gA 17 y)) args s 0 0 (gA 17 y)) (F0 m 17 ls []) := by
  obtain ⟨hx, hb, hml, hown, hts, hr, hlk, hK, hN⟩ := id C
  intro n
  induction n with
  | zero => intro v1 st H locs ls hG hl hw; exact False.elim hw
  | succ n hc17 =>
    intro v1 st H locs ls hG hl hw
    have hw : w_X9_goesWeek_L17q   K (fun v1 st => w_X9_goesWeek_L17   K n v1 st) v1 st := hw
    unfold w_X9_goesWeek_L17q at hw
    refine lv_iload_n hx hb dX9_goesWeek_17 rfl (lv_at hl 1 rfl) ?_
    refine lv_aload_n hx hb dX9_goesWeek_18 rfl (lv_at hl 0 rfl) ?_
    refine r_get (C := RX9) (T := TX9) (Nf := 31) hx hb hts hown hK hG (by decide) rfl rfl inX9 8 (by decide) qF_X9_65 rfl dX9_goesWeek_19 ?_
    refine lv_icmp_ge (tgt := 55) hx hb dX9_goesWeek_22 (by decide) (fun hc => ?_) (fun hc => ?_)
    · replace hw := hw.1 hc
      exact z_X9_goesWeek_b55 l y  C  K  st hG (lv_sub hl [0] rfl) hw
    · replace hw := hw.2 hc
      refine lv_iload_n hx hb dX9_goesWeek_25 rfl (lv_at hl 1 rfl) ?_
      refine lv_iconst (v := 1) hx hb dX9_goesWeek_26 (by decide) ?_
      refine lv_iadd hx hb dX9_goesWeek_27 ?_
      refine lv_istore_n (lv' := [(2, .int (v1 + 1)), (0, .ref (ad y 0)), (1, .int v1)]) hx hb dX9_goesWeek_28 rfl hl (Nat.le_of_ble_eq_true rfl) rfl (fun ls hl => ?_)
      obtain ⟨n29, hw⟩ := hw
      exact z_X9_goesWeek_L29 l y  C (fun v1 st => w_X9_goesWeek_L17   K n v1 st) K hc17 n29 v1 (v1 + 1) st H locs _ hG (lv_sub hl [1, 2, 0] rfl) hw
theorem hd_X9_goesWeek : yX9_goesWeek.cls ≠ "java/lang/invoke/MethodHandle" ∧ yX9_goesWeek.cls ≠ "java/lang/invoke/VarHandle" ∧ (parseMethodDescriptor yX9_goesWeek.desc).map (fun d => d.parameters.length) = some 0 := by decide +kernel
set_option maxRecDepth 100000 in
set_option maxHeartbeats 4000000 in
theorem c_X9_goesWeek (l : Launch) (y : Sy)  (st : St) (K : St → Prop) (hw : w_X9_goesWeek  st K) : Cv 17 enM l yX9_goesWeek cX9_goesWeek 4 none 3 70 y [.ref (ad y 0)] st K := by
  refine ent (by decide) (Nat.le_of_ble_eq_true rfl) ?_
  intro p e s m below meth c C hG ls hl
  have hl : lv_has ls 4 [(0, .ref (ad y 0))] := hl
  generalize ([.ref (ad y 0)] : List Value).toArray = args at C ⊢
  have C : Sd p s m args meth c cX9_goesWeek 4 RX9 none y := C
  obtain ⟨hx, hb, hml, hown, hts, hr, hlk, hK, hN⟩ := id C
  generalize s.heap = H at hG ⊢
  generalize ([] : List Loc) = locs at hG ⊢
  unfold w_X9_goesWeek at hw
  refine lv_aload_n hx hb dX9_goesWeek_0 rfl (lv_at hl 0 rfl) ?_
  refine lv_dup hx hb dX9_goesWeek_1 rfl ?_
  refine r_get (C := RX9) (T := TX9) (Nf := 31) hx hb hts hown hK hG (by decide) rfl rfl inX9 10 (by decide) qF_X9_115 rfl dX9_goesWeek_2 ?_
  refine lv_iconst (v := 1) hx hb dX9_goesWeek_5 (by decide) ?_
  refine lv_iadd hx hb dX9_goesWeek_6 ?_
  refine r_put (C := RX9) (T := TX9) (Nf := 31) hx hb hts hown hK hG (by decide) rfl rfl inX9 tyX9_ok nmX9 10 (by decide) qF_X9_115 rfl ((st 0 10) + 1) rfl rfl rfl (Nat.le_of_ble_eq_true rfl) dX9_goesWeek_7 (fun H locs hG => ?_)
  refine lv_aload_n hx hb dX9_goesWeek_10 rfl (lv_at hl 0 rfl) ?_
  refine lv_iconst (v := 0) hx hb dX9_goesWeek_11 (by decide) ?_
  refine r_put (C := RX9) (T := TX9) (Nf := 31) hx hb hts hown hK hG (by decide) rfl rfl inX9 tyX9_ok nmX9 25 (by decide) qF_X9_193 rfl 0 rfl rfl rfl (Nat.le_of_ble_eq_true rfl) dX9_goesWeek_12 (fun H locs hG => ?_)
  refine lv_iconst (v := 0) hx hb dX9_goesWeek_15 (by decide) ?_
  refine lv_istore_n (lv' := [(1, .int 0), (0, .ref (ad y 0))]) hx hb dX9_goesWeek_16 rfl hl (Nat.le_of_ble_eq_true rfl) rfl (fun ls hl => ?_)
  obtain ⟨n17, hw⟩ := hw
  exact z_X9_goesWeek_L17 l y  C  K  n17 0 (u2 (u2 st 0 10 ((st 0 10) + 1)) 0 25 0) H locs _ hG (lv_sub hl [1, 0] rfl) hw
