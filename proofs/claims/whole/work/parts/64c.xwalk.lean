theorem hd_X4_openedBy : yX4_openedBy.cls ≠ "java/lang/invoke/MethodHandle" ∧ yX4_openedBy.cls ≠ "java/lang/invoke/VarHandle" ∧ (parseMethodDescriptor yX4_openedBy.desc).map (fun d => d.parameters.length) = some 1 := by decide +kernel
set_option maxRecDepth 100000 in
set_option maxHeartbeats 4000000 in
theorem c_X4_openedBy (l : Launch) (y : Sy) (x1 : Int32) (st : St) (K : Int32 → St → Prop) (hw : w_X4_openedBy x1 st K) : Ci 107 enX l yX4_openedBy cX4_openedBy 2 (some .int) 5 117 y [.ref (ad y 10), .int x1] st K := by
  refine ent (by decide) (Nat.le_of_ble_eq_true rfl) ?_
  intro p e s m below meth c C hG ls hl
  have hl : lv_has ls 2 [(0, .ref (ad y 10)), (1, .int x1)] := hl
  generalize ([.ref (ad y 10), .int x1] : List Value).toArray = args at C ⊢
  have C : Sd p s m args meth c cX4_openedBy 2 RX4 (some .int) y := C
  obtain ⟨hx, hb, hml, hown, hts, hr, hlk, hK, hN⟩ := id C
  generalize s.heap = H at hG ⊢
  generalize ([] : List Loc) = locs at hG ⊢
  unfold w_X4_openedBy at hw
  refine lv_aload_n hx hb dX4_openedBy_0 rfl (lv_at hl 0 rfl) ?_
  refine r_get (C := RX4) (T := TX4) (Nf := 2) hx hb hts hown hK hG (by decide) rfl rfl inX4 1 (by decide) qF_X4_12 rfl dX4_openedBy_1 ?_
  refine lv_aload_n hx hb dX4_openedBy_4 rfl (lv_at hl 0 rfl) ?_
  refine r_get (C := RX4) (T := TX4) (Nf := 2) hx hb hts hown hK hG (by decide) rfl rfl inX4 0 (by decide) qF_X4_18 rfl dX4_openedBy_5 ?_
  refine r_kv (r_run_V (k := 99) (As := [.ref (ad y 11)]) (rest := []) hx hb hml hown hts hK hN hG (c_X1_become l y 99 isC_99 11 isC_11 st _ hw) (isC.lt isC_99) (isC.e isC_99 y _) rfl rfl qM_X4_21 qI_X1_become qS_X1_become qN_X1 qC_X1_become hd_X1_become ⟨Nat.le_of_ble_eq_true rfl, Nat.le_of_ble_eq_true rfl⟩ hl.1 rfl (Nat.le_of_ble_eq_true rfl) dX4_openedBy_8) hG (fun st8 H locs hw hG => ?_)
  refine lv_aload_n hx hb dX4_openedBy_11 rfl (lv_at hl 0 rfl) ?_
  refine r_get (C := RX4) (T := TX4) (Nf := 2) hx hb hts hown hK hG (by decide) rfl rfl inX4 1 (by decide) qF_X4_12 rfl dX4_openedBy_12 ?_
  refine lv_bipush (v := 60) hx hb dX4_openedBy_15 (by decide) ?_
  refine r_ki (r_run_V (k := 99) (As := [.int 60]) (rest := []) hx hb hml hown hts hK hN hG (c_X1_passWeeks l y 99 isC_99 60 st8 _ hw) (isC.lt isC_99) (isC.e isC_99 y _) rfl rfl qM_X4_25 qI_X1_passWeeks qS_X1_passWeeks qN_X1 qC_X1_passWeeks hd_X1_passWeeks ⟨Nat.le_of_ble_eq_true rfl, Nat.le_of_ble_eq_true rfl⟩ hl.1 rfl (Nat.le_of_ble_eq_true rfl) dX4_openedBy_17) hG (fun r17 st17 H locs hw hG => ?_)
  refine lv_pop hx hb dX4_openedBy_20 rfl ?_
  refine lv_aload_n hx hb dX4_openedBy_21 rfl (lv_at hl 0 rfl) ?_
  refine r_get (C := RX4) (T := TX4) (Nf := 2) hx hb hts hown hK hG (by decide) rfl rfl inX4 1 (by decide) qF_X4_12 rfl dX4_openedBy_22 ?_
  refine lv_iload_n hx hb dX4_openedBy_25 rfl (lv_at hl 1 rfl) ?_
  refine r_ki (r_run_V (k := 99) (As := [.int x1]) (rest := []) hx hb hml hown hts hK hN hG (c_X1_openedBy l y 99 isC_99 x1 st17 _ hw) (isC.lt isC_99) (isC.e isC_99 y _) rfl rfl qM_X4_47 qI_X1_openedBy qS_X1_openedBy qN_X1 qC_X1_openedBy hd_X1_openedBy ⟨Nat.le_of_ble_eq_true rfl, Nat.le_of_ble_eq_true rfl⟩ hl.1 rfl (Nat.le_of_ble_eq_true rfl) dX4_openedBy_26) hG (fun r26 st26 H locs hw hG => ?_)
  exact r_iret hx hb hr hlk hK hG rfl hw dX4_openedBy_29
set_option maxRecDepth 100000 in
set_option maxHeartbeats 4000000 in
theorem z_X4_weekBelow_L14 {p : Program} {e : Env} {s : State} {m : MethodId} {args : Array Value} {below : List Frame} {meth : Method} {c : Code} (l : Launch) (y : Sy) (x1 : Int32) (x2 : Int32) (x3 : Int32) (C : Sd p s m args meth c cX4_weekBelow 5 RX4 (some .int) y)  (K : Int32 → St → Prop)  : ∀ (n : Nat) (v4 : Int32) (st : St) (H : Heap) (locs : List Loc) (ls : Array Slot), gH 107 enX y st s H locs → lv_has ls 5 [(0, .ref (ad y 10)), (1, .int x1), (2, .int x2), (3, .int x3), (4, .int v4)] → w_X4_weekBelow_L14 x1 x2 x3  K n v4 st → W p l e (rmm 4 95) s m args below meth c H locs 0 0 (MQ below (va_Qi K (gB 107 enX y) (gA 107 y)) args s 0 0 (gA 107 y)) (F0 m 14 ls []) := by
  obtain ⟨hx, hb, hml, hown, hts, hr, hlk, hK, hN⟩ := id C
  intro n
  induction n with
  | zero => intro v4 st H locs ls hG hl hw; exact False.elim hw
  | succ n hc14 =>
    intro v4 st H locs ls hG hl hw
    have hw : w_X4_weekBelow_L14q x1 x2 x3  K (fun v4 st => w_X4_weekBelow_L14 x1 x2 x3  K n v4 st) v4 st := hw
    unfold w_X4_weekBelow_L14q at hw
    refine lv_iload hx hb dX4_weekBelow_14 (lv_at hl 4 rfl) ?_
    refine lv_bipush (v := 60) hx hb dX4_weekBelow_16 (by decide) ?_
    refine lv_icmp_gt (tgt := 51) hx hb dX4_weekBelow_18 (by decide) (fun hc => ?_) (fun hc => ?_)
    · replace hw := hw.1 hc
      refine lv_bipush (v := (-9)) hx hb dX4_weekBelow_51 (by decide) ?_
      exact r_iret hx hb hr hlk hK hG rfl hw dX4_weekBelow_53
    · replace hw := hw.2 hc
      refine lv_aload_n hx hb dX4_weekBelow_21 rfl (lv_at hl 0 rfl) ?_
      refine r_get (C := RX4) (T := TX4) (Nf := 2) hx hb hts hown hK hG (by decide) rfl rfl inX4 1 (by decide) qF_X4_12 rfl dX4_weekBelow_22 ?_
      refine lv_iload_n hx hb dX4_weekBelow_25 rfl (lv_at hl 1 rfl) ?_
      refine lv_iload_n hx hb dX4_weekBelow_26 rfl (lv_at hl 2 rfl) ?_
      refine r_ki (r_run_V (k := 99) (As := [.int x1, .int x2]) (rest := []) hx hb hml hown hts hK hN hG (c_X1_hateOf l y 99 isC_99 x1 x2 st _ hw) (isC.lt isC_99) (isC.e isC_99 y _) rfl rfl qM_X4_29 qI_X1_hateOf qS_X1_hateOf qN_X1 qC_X1_hateOf hd_X1_hateOf ⟨Nat.le_of_ble_eq_true rfl, Nat.le_of_ble_eq_true rfl⟩ hl.1 rfl (Nat.le_of_ble_eq_true rfl) dX4_weekBelow_27) hG (fun r27 st27 H locs hw hG => ?_)
      refine lv_iload_n hx hb dX4_weekBelow_30 rfl (lv_at hl 3 rfl) ?_
      refine lv_icmp_ge (tgt := 37) hx hb dX4_weekBelow_31 (by decide) (fun hc => ?_) (fun hc => ?_)
      · replace hw := hw.1 hc
        refine lv_aload_n hx hb dX4_weekBelow_37 rfl (lv_at hl 0 rfl) ?_
        refine r_get (C := RX4) (T := TX4) (Nf := 2) hx hb hts hown hK hG (by decide) rfl rfl inX4 1 (by decide) qF_X4_12 rfl dX4_weekBelow_38 ?_
        refine r_ki (r_run_V (k := 99) (As := []) (rest := []) hx hb hml hown hts hK hN hG (c_X1_passWeek l y 99 isC_99 st27 _ hw) (isC.lt isC_99) (isC.e isC_99 y _) rfl rfl qM_X4_44 qI_X1_passWeek qS_X1_passWeek qN_X1 qC_X1_passWeek hd_X1_passWeek ⟨Nat.le_of_ble_eq_true rfl, Nat.le_of_ble_eq_true rfl⟩ hl.1 rfl (Nat.le_of_ble_eq_true rfl) dX4_weekBelow_41) hG (fun r41 st41 H locs hw hG => ?_)
        refine lv_pop hx hb dX4_weekBelow_44 rfl ?_
        refine lv_iinc (v := (v4 + 1)) (lv' := [(4, .int (v4 + 1)), (0, .ref (ad y 10)), (1, .int x1), (2, .int x2), (3, .int x3)]) hx hb dX4_weekBelow_45 hl (k := 4) rfl rfl (Nat.le_of_ble_eq_true rfl) rfl (fun ls hl => ?_)
        refine lv_goto (tgt := 14) hx hb dX4_weekBelow_48 (by decide) ?_
        exact hc14 (v4 + 1) st41 H locs _ hG (lv_sub hl [1, 2, 3, 4, 0] rfl) hw
      · replace hw := hw.2 hc
        refine lv_iload hx hb dX4_weekBelow_34 (lv_at hl 4 rfl) ?_
        exact r_iret hx hb hr hlk hK hG rfl hw dX4_weekBelow_36
theorem hd_X4_weekBelow : yX4_weekBelow.cls ≠ "java/lang/invoke/MethodHandle" ∧ yX4_weekBelow.cls ≠ "java/lang/invoke/VarHandle" ∧ (parseMethodDescriptor yX4_weekBelow.desc).map (fun d => d.parameters.length) = some 3 := by decide +kernel
set_option maxRecDepth 100000 in
set_option maxHeartbeats 4000000 in
theorem c_X4_weekBelow (l : Launch) (y : Sy) (x1 : Int32) (x2 : Int32) (x3 : Int32) (st : St) (K : Int32 → St → Prop) (hw : w_X4_weekBelow x1 x2 x3 st K) : Ci 107 enX l yX4_weekBelow cX4_weekBelow 5 (some .int) 4 95 y [.ref (ad y 10), .int x1, .int x2, .int x3] st K := by
  refine ent (by decide) (Nat.le_of_ble_eq_true rfl) ?_
  intro p e s m below meth c C hG ls hl
  have hl : lv_has ls 5 [(0, .ref (ad y 10)), (1, .int x1), (2, .int x2), (3, .int x3)] := hl
  generalize ([.ref (ad y 10), .int x1, .int x2, .int x3] : List Value).toArray = args at C ⊢
  have C : Sd p s m args meth c cX4_weekBelow 5 RX4 (some .int) y := C
  obtain ⟨hx, hb, hml, hown, hts, hr, hlk, hK, hN⟩ := id C
  generalize s.heap = H at hG ⊢
  generalize ([] : List Loc) = locs at hG ⊢
  unfold w_X4_weekBelow at hw
  refine lv_aload_n hx hb dX4_weekBelow_0 rfl (lv_at hl 0 rfl) ?_
  refine r_get (C := RX4) (T := TX4) (Nf := 2) hx hb hts hown hK hG (by decide) rfl rfl inX4 1 (by decide) qF_X4_12 rfl dX4_weekBelow_1 ?_
  refine lv_aload_n hx hb dX4_weekBelow_4 rfl (lv_at hl 0 rfl) ?_
  refine r_get (C := RX4) (T := TX4) (Nf := 2) hx hb hts hown hK hG (by decide) rfl rfl inX4 0 (by decide) qF_X4_18 rfl dX4_weekBelow_5 ?_
  refine r_kv (r_run_V (k := 99) (As := [.ref (ad y 11)]) (rest := []) hx hb hml hown hts hK hN hG (c_X1_become l y 99 isC_99 11 isC_11 st _ hw) (isC.lt isC_99) (isC.e isC_99 y _) rfl rfl qM_X4_21 qI_X1_become qS_X1_become qN_X1 qC_X1_become hd_X1_become ⟨Nat.le_of_ble_eq_true rfl, Nat.le_of_ble_eq_true rfl⟩ hl.1 rfl (Nat.le_of_ble_eq_true rfl) dX4_weekBelow_8) hG (fun st8 H locs hw hG => ?_)
  refine lv_iconst (v := 0) hx hb dX4_weekBelow_11 (by decide) ?_
  refine lv_istore (lv' := [(4, .int 0), (0, .ref (ad y 10)), (1, .int x1), (2, .int x2), (3, .int x3)]) hx hb dX4_weekBelow_12 hl (Nat.le_of_ble_eq_true rfl) rfl (fun ls hl => ?_)
  obtain ⟨n14, hw⟩ := hw
  exact z_X4_weekBelow_L14 l y x1 x2 x3 C  K  n14 0 st8 H locs _ hG (lv_sub hl [1, 2, 3, 4, 0] rfl) hw
theorem hd_X4_sealedFar : yX4_sealedFar.cls ≠ "java/lang/invoke/MethodHandle" ∧ yX4_sealedFar.cls ≠ "java/lang/invoke/VarHandle" ∧ (parseMethodDescriptor yX4_sealedFar.desc).map (fun d => d.parameters.length) = some 0 := by decide +kernel
set_option maxRecDepth 100000 in
set_option maxHeartbeats 4000000 in
theorem c_X4_sealedFar (l : Launch) (y : Sy)  (st : St) (K : Int32 → St → Prop) (hw : w_X4_sealedFar  st K) : Ci 107 enX l yX4_sealedFar cX4_sealedFar 1 (some .int) 6 138 y [.ref (ad y 10)] st K := by
  refine ent (by decide) (Nat.le_of_ble_eq_true rfl) ?_
  intro p e s m below meth c C hG ls hl
  have hl : lv_has ls 1 [(0, .ref (ad y 10))] := hl
  generalize ([.ref (ad y 10)] : List Value).toArray = args at C ⊢
  have C : Sd p s m args meth c cX4_sealedFar 1 RX4 (some .int) y := C
  obtain ⟨hx, hb, hml, hown, hts, hr, hlk, hK, hN⟩ := id C
  generalize s.heap = H at hG ⊢
  generalize ([] : List Loc) = locs at hG ⊢
  unfold w_X4_sealedFar at hw
  refine lv_iconst (v := 1) hx hb dX4_sealedFar_0 (by decide) ?_
  refine lv_aload_n hx hb dX4_sealedFar_1 rfl (lv_at hl 0 rfl) ?_
  refine r_get (C := RX4) (T := TX4) (Nf := 2) hx hb hts hown hK hG (by decide) rfl rfl inX4 0 (by decide) qF_X4_18 rfl dX4_sealedFar_2 ?_
  refine r_ki (r_run_V (k := 11) (As := []) (rest := [.int 1]) hx hb hml hown hts hK hN hG (c_X1_letterCount l y 11 isC_11 st _ hw) (isC.lt isC_11) (isC.e isC_11 y _) rfl rfl qM_X4_50 qI_X1_letterCount qS_X1_letterCount qN_X1 qC_X1_letterCount hd_X1_letterCount ⟨Nat.le_of_ble_eq_true rfl, Nat.le_of_ble_eq_true rfl⟩ hl.1 rfl (Nat.le_of_ble_eq_true rfl) dX4_sealedFar_5) hG (fun r5 st5 H locs hw hG => ?_)
  refine lv_ishl hx hb dX4_sealedFar_8 ?_
  refine lv_iconst (v := 1) hx hb dX4_sealedFar_9 (by decide) ?_
  refine lv_isub hx hb dX4_sealedFar_10 ?_
  refine lv_aload_n hx hb dX4_sealedFar_11 rfl (lv_at hl 0 rfl) ?_
  refine lv_bipush (v := 60) hx hb dX4_sealedFar_12 (by decide) ?_
  refine r_ki (r_run_V (k := 10) (As := [.int 60]) (rest := [.int (((1 : Int32) <<< (r5 &&& 31)) - 1)]) hx hb hml hown hts hK hN hG (c_X4_openBitsAfter l y 60 st5 _ hw) (by decide) rfl rfl rfl qM_X4_53 qI_X4_openBitsAfter qS_X4_openBitsAfter qN_X4 qC_X4_openBitsAfter hd_X4_openBitsAfter ⟨Nat.le_of_ble_eq_true rfl, Nat.le_of_ble_eq_true rfl⟩ hl.1 rfl (Nat.le_of_ble_eq_true rfl) dX4_sealedFar_14) hG (fun r14 st14 H locs hw hG => ?_)
  refine lv_iconst (v := (-1)) hx hb dX4_sealedFar_17 (by decide) ?_
  refine lv_ixor hx hb dX4_sealedFar_18 ?_
  refine lv_iand hx hb dX4_sealedFar_19 ?_
  exact r_iret hx hb hr hlk hK hG rfl hw dX4_sealedFar_20
set_option maxRecDepth 100000 in
set_option maxHeartbeats 4000000 in
theorem z_X4_firstOpened_b52 {p : Program} {e : Env} {s : State} {m : MethodId} {args : Array Value} {below : List Frame} {meth : Method} {c : Code} (l : Launch) (y : Sy)  (C : Sd p s m args meth c cX4_firstOpened 4 RX4 (some .int) y) (c13 : Int32 → St → Prop) (K : Int32 → St → Prop) (hc13 : ∀ (v1 : Int32) (st : St) (H : Heap) (locs : List Loc) (ls : Array Slot), gH 107 enX y st s H locs → lv_has ls 4 [(0, .ref (ad y 10)), (1, .int v1)] → c13 v1 st → W p l e (rmm 4 95) s m args below meth c H locs 0 0 (MQ below (va_Qi K (gB 107 enX y) (gA 107 y)) args s 0 0 (gA 107 y)) (F0 m 13 ls [])) (v1 : Int32) (st : St) {H : Heap} {locs : List Loc} {ls : Array Slot} (hG : gH 107 enX y st s H locs) (hl : lv_has ls 4 [(0, .ref (ad y 10)), (1, .int v1)]) (hw : w_X4_firstOpened_b52  c13 K v1 st) : W p l e (rmm 4 95) s m args below meth c H locs 0 0 (MQ below (va_Qi K (gB 107 enX y) (gA 107 y)) args s 0 0 (gA 107 y)) (F0 m 52 ls []) := by
  obtain ⟨hx, hb, hml, hown, hts, hr, hlk, hK, hN⟩ := id C
  unfold w_X4_firstOpened_b52 at hw
  refine lv_iinc (v := (v1 + 1)) (lv' := [(1, .int (v1 + 1)), (0, .ref (ad y 10))]) hx hb dX4_firstOpened_52 hl (k := 1) rfl rfl (Nat.le_of_ble_eq_true rfl) rfl (fun ls hl => ?_)
  refine lv_goto (tgt := 13) hx hb dX4_firstOpened_55 (by decide) ?_
  exact hc13 (v1 + 1) st H locs _ hG (lv_sub hl [1, 0] rfl) hw
set_option maxRecDepth 100000 in
set_option maxHeartbeats 4000000 in
theorem z_X4_firstOpened_L29 {p : Program} {e : Env} {s : State} {m : MethodId} {args : Array Value} {below : List Frame} {meth : Method} {c : Code} (l : Launch) (y : Sy)  (C : Sd p s m args meth c cX4_firstOpened 4 RX4 (some .int) y) (c13 : Int32 → St → Prop) (K : Int32 → St → Prop) (hc13 : ∀ (v1 : Int32) (st : St) (H : Heap) (locs : List Loc) (ls : Array Slot), gH 107 enX y st s H locs → lv_has ls 4 [(0, .ref (ad y 10)), (1, .int v1)] → c13 v1 st → W p l e (rmm 4 95) s m args below meth c H locs 0 0 (MQ below (va_Qi K (gB 107 enX y) (gA 107 y)) args s 0 0 (gA 107 y)) (F0 m 13 ls [])) : ∀ (n : Nat) (v1 : Int32) (v2 : Int32) (v3 : Int32) (st : St) (H : Heap) (locs : List Loc) (ls : Array Slot), gH 107 enX y st s H locs → lv_has ls 4 [(0, .ref (ad y 10)), (1, .int v1), (2, .int v2), (3, .int v3)] → w_X4_firstOpened_L29  c13 K n v1 v2 v3 st → W p l e (rmm 4 95) s m args below meth c H locs 0 0 (MQ below (va_Qi K (gB 107 enX y) (gA 107 y)) args s 0 0 (gA 107 y)) (F0 m 29 ls []) := by
  obtain ⟨hx, hb, hml, hown, hts, hr, hlk, hK, hN⟩ := id C
  intro n
  induction n with
  | zero => intro v1 v2 v3 st H locs ls hG hl hw; exact False.elim hw
  | succ n hc29 =>
    intro v1 v2 v3 st H locs ls hG hl hw
    have hw : w_X4_firstOpened_L29q  c13 K (fun v1 v2 v3 st => w_X4_firstOpened_L29  c13 K n v1 v2 v3 st) v1 v2 v3 st := hw
    unfold w_X4_firstOpened_L29q at hw
    refine lv_iload_n hx hb dX4_firstOpened_29 rfl (lv_at hl 3 rfl) ?_
    refine lv_bipush (v := 6) hx hb dX4_firstOpened_30 (by decide) ?_
    refine lv_icmp_ge (tgt := 52) hx hb dX4_firstOpened_32 (by decide) (fun hc => ?_) (fun hc => ?_)
    · replace hw := hw.1 hc
      exact z_X4_firstOpened_b52 l y  C c13 K hc13 v1 st hG (lv_sub hl [0, 1] rfl) hw
    · replace hw := hw.2 hc
      refine lv_iload_n hx hb dX4_firstOpened_35 rfl (lv_at hl 2 rfl) ?_
      refine lv_iload_n hx hb dX4_firstOpened_36 rfl (lv_at hl 3 rfl) ?_
      refine r_ki (r_run_N (As := [.int v2, .int v3]) (rest := []) hx hb hml hown hts hK hN hG (c_X8_bit l y v2 v3 st _ hw) qM_X4_56 qT_X8_bit qN_X8 qC_X8_bit hd_X8_bit ⟨Nat.le_of_ble_eq_true rfl, Nat.le_of_ble_eq_true rfl⟩ hl.1 rfl (Nat.le_of_ble_eq_true rfl) dX4_firstOpened_37) hG (fun r37 st37 H locs hw hG => ?_)
      refine lv_iconst (v := 1) hx hb dX4_firstOpened_40 (by decide) ?_
      refine lv_icmp_ne (tgt := 46) hx hb dX4_firstOpened_41 (by decide) (fun hc => ?_) (fun hc => ?_)
      · replace hw := hw.1 hc
        refine lv_iinc (v := (v3 + 1)) (lv' := [(3, .int (v3 + 1)), (0, .ref (ad y 10)), (1, .int v1), (2, .int v2)]) hx hb dX4_firstOpened_46 hl (k := 3) rfl rfl (Nat.le_of_ble_eq_true rfl) rfl (fun ls hl => ?_)
        refine lv_goto (tgt := 29) hx hb dX4_firstOpened_49 (by decide) ?_
        exact hc29 v1 v2 (v3 + 1) st37 H locs _ hG (lv_sub hl [1, 2, 3, 0] rfl) hw
      · replace hw := hw.2 hc
        refine lv_iload_n hx hb dX4_firstOpened_44 rfl (lv_at hl 3 rfl) ?_
        exact r_iret hx hb hr hlk hK hG rfl hw dX4_firstOpened_45
set_option maxRecDepth 100000 in
set_option maxHeartbeats 4000000 in
theorem z_X4_firstOpened_L13 {p : Program} {e : Env} {s : State} {m : MethodId} {args : Array Value} {below : List Frame} {meth : Method} {c : Code} (l : Launch) (y : Sy)  (C : Sd p s m args meth c cX4_firstOpened 4 RX4 (some .int) y)  (K : Int32 → St → Prop)  : ∀ (n : Nat) (v1 : Int32) (st : St) (H : Heap) (locs : List Loc) (ls : Array Slot), gH 107 enX y st s H locs → lv_has ls 4 [(0, .ref (ad y 10)), (1, .int v1)] → w_X4_firstOpened_L13   K n v1 st → W p l e (rmm 4 95) s m args below meth c H locs 0 0 (MQ below (va_Qi K (gB 107 enX y) (gA 107 y)) args s 0 0 (gA 107 y)) (F0 m 13 ls []) := by
  obtain ⟨hx, hb, hml, hown, hts, hr, hlk, hK, hN⟩ := id C
  intro n
  induction n with
  | zero => intro v1 st H locs ls hG hl hw; exact False.elim hw
  | succ n hc13 =>
    intro v1 st H locs ls hG hl hw
    have hw : w_X4_firstOpened_L13q   K (fun v1 st => w_X4_firstOpened_L13   K n v1 st) v1 st := hw
    unfold w_X4_firstOpened_L13q at hw
    refine lv_iload_n hx hb dX4_firstOpened_13 rfl (lv_at hl 1 rfl) ?_
    refine lv_bipush (v := 60) hx hb dX4_firstOpened_14 (by decide) ?_
    refine lv_icmp_gt (tgt := 58) hx hb dX4_firstOpened_16 (by decide) (fun hc => ?_) (fun hc => ?_)
    · replace hw := hw.1 hc
      refine lv_bipush (v := (-9)) hx hb dX4_firstOpened_58 (by decide) ?_
      exact r_iret hx hb hr hlk hK hG rfl hw dX4_firstOpened_60
    · replace hw := hw.2 hc
      refine lv_aload_n hx hb dX4_firstOpened_19 rfl (lv_at hl 0 rfl) ?_
      refine r_get (C := RX4) (T := TX4) (Nf := 2) hx hb hts hown hK hG (by decide) rfl rfl inX4 1 (by decide) qF_X4_12 rfl dX4_firstOpened_20 ?_
      refine r_ki (r_run_V (k := 99) (As := []) (rest := []) hx hb hml hown hts hK hN hG (c_X1_passWeek l y 99 isC_99 st _ hw) (isC.lt isC_99) (isC.e isC_99 y _) rfl rfl qM_X4_44 qI_X1_passWeek qS_X1_passWeek qN_X1 qC_X1_passWeek hd_X1_passWeek ⟨Nat.le_of_ble_eq_true rfl, Nat.le_of_ble_eq_true rfl⟩ hl.1 rfl (Nat.le_of_ble_eq_true rfl) dX4_firstOpened_23) hG (fun r23 st23 H locs hw hG => ?_)
      refine lv_istore_n (lv' := [(2, .int r23), (0, .ref (ad y 10)), (1, .int v1)]) hx hb dX4_firstOpened_26 rfl hl (Nat.le_of_ble_eq_true rfl) rfl (fun ls hl => ?_)
      refine lv_iconst (v := 0) hx hb dX4_firstOpened_27 (by decide) ?_
      refine lv_istore_n (lv' := [(3, .int 0), (2, .int r23), (0, .ref (ad y 10)), (1, .int v1)]) hx hb dX4_firstOpened_28 rfl hl (Nat.le_of_ble_eq_true rfl) rfl (fun ls hl => ?_)
      obtain ⟨n29, hw⟩ := hw
      exact z_X4_firstOpened_L29 l y  C (fun v1 st => w_X4_firstOpened_L13   K n v1 st) K hc13 n29 v1 r23 0 st23 H locs _ hG (lv_sub hl [2, 3, 1, 0] rfl) hw
theorem hd_X4_firstOpened : yX4_firstOpened.cls ≠ "java/lang/invoke/MethodHandle" ∧ yX4_firstOpened.cls ≠ "java/lang/invoke/VarHandle" ∧ (parseMethodDescriptor yX4_firstOpened.desc).map (fun d => d.parameters.length) = some 0 := by decide +kernel
set_option maxRecDepth 100000 in
set_option maxHeartbeats 4000000 in
theorem c_X4_firstOpened (l : Launch) (y : Sy)  (st : St) (K : Int32 → St → Prop) (hw : w_X4_firstOpened  st K) : Ci 107 enX l yX4_firstOpened cX4_firstOpened 4 (some .int) 4 95 y [.ref (ad y 10)] st K := by
  refine ent (by decide) (Nat.le_of_ble_eq_true rfl) ?_
  intro p e s m below meth c C hG ls hl
  have hl : lv_has ls 4 [(0, .ref (ad y 10))] := hl
  generalize ([.ref (ad y 10)] : List Value).toArray = args at C ⊢
  have C : Sd p s m args meth c cX4_firstOpened 4 RX4 (some .int) y := C
  obtain ⟨hx, hb, hml, hown, hts, hr, hlk, hK, hN⟩ := id C
  generalize s.heap = H at hG ⊢
  generalize ([] : List Loc) = locs at hG ⊢
  unfold w_X4_firstOpened at hw
  refine lv_aload_n hx hb dX4_firstOpened_0 rfl (lv_at hl 0 rfl) ?_
  refine r_get (C := RX4) (T := TX4) (Nf := 2) hx hb hts hown hK hG (by decide) rfl rfl inX4 1 (by decide) qF_X4_12 rfl dX4_firstOpened_1 ?_
  refine lv_aload_n hx hb dX4_firstOpened_4 rfl (lv_at hl 0 rfl) ?_
  refine r_get (C := RX4) (T := TX4) (Nf := 2) hx hb hts hown hK hG (by decide) rfl rfl inX4 0 (by decide) qF_X4_18 rfl dX4_firstOpened_5 ?_
  refine r_kv (r_run_V (k := 99) (As := [.ref (ad y 11)]) (rest := []) hx hb hml hown hts hK hN hG (c_X1_become l y 99 isC_99 11 isC_11 st _ hw) (isC.lt isC_99) (isC.e isC_99 y _) rfl rfl qM_X4_21 qI_X1_become qS_X1_become qN_X1 qC_X1_become hd_X1_become ⟨Nat.le_of_ble_eq_true rfl, Nat.le_of_ble_eq_true rfl⟩ hl.1 rfl (Nat.le_of_ble_eq_true rfl) dX4_firstOpened_8) hG (fun st8 H locs hw hG => ?_)
  refine lv_iconst (v := 1) hx hb dX4_firstOpened_11 (by decide) ?_
  refine lv_istore_n (lv' := [(1, .int 1), (0, .ref (ad y 10))]) hx hb dX4_firstOpened_12 rfl hl (Nat.le_of_ble_eq_true rfl) rfl (fun ls hl => ?_)
  obtain ⟨n13, hw⟩ := hw
  exact z_X4_firstOpened_L13 l y  C  K  n13 1 st8 H locs _ hG (lv_sub hl [1, 0] rfl) hw
set_option maxRecDepth 100000 in
set_option maxHeartbeats 4000000 in
theorem z_X4_leastInsult_L3 {p : Program} {e : Env} {s : State} {m : MethodId} {args : Array Value} {below : List Frame} {meth : Method} {c : Code} (l : Launch) (y : Sy) (x1 : Int32) (x2 : Int32) (x3 : Int32) (C : Sd p s m args meth c cX4_leastInsult 5 RX4 (some .int) y)  (K : Int32 → St → Prop)  : ∀ (n : Nat) (v4 : Int32) (st : St) (H : Heap) (locs : List Loc) (ls : Array Slot), gH 107 enX y st s H locs → lv_has ls 5 [(0, .ref (ad y 10)), (1, .int x1), (2, .int x2), (3, .int x3), (4, .int v4)] → w_X4_leastInsult_L3 x1 x2 x3  K n v4 st → W p l e (rmm 4 95) s m args below meth c H locs 0 0 (MQ below (va_Qi K (gB 107 enX y) (gA 107 y)) args s 0 0 (gA 107 y)) (F0 m 3 ls []) := by
  obtain ⟨hx, hb, hml, hown, hts, hr, hlk, hK, hN⟩ := id C
  intro n
  induction n with
  | zero => intro v4 st H locs ls hG hl hw; exact False.elim hw
  | succ n hc3 =>
    intro v4 st H locs ls hG hl hw
    have hw : w_X4_leastInsult_L3q x1 x2 x3  K (fun v4 st => w_X4_leastInsult_L3 x1 x2 x3  K n v4 st) v4 st := hw
    unfold w_X4_leastInsult_L3q at hw
    refine lv_iload hx hb dX4_leastInsult_3 (lv_at hl 4 rfl) ?_
    refine lv_bipush (v := 99) hx hb dX4_leastInsult_5 (by decide) ?_
    refine lv_icmp_gt (tgt := 75) hx hb dX4_leastInsult_7 (by decide) (fun hc => ?_) (fun hc => ?_)
    · replace hw := hw.1 hc
      refine lv_bipush (v := (-9)) hx hb dX4_leastInsult_75 (by decide) ?_
      exact r_iret hx hb hr hlk hK hG rfl hw dX4_leastInsult_77
    · replace hw := hw.2 hc
      refine lv_aload_n hx hb dX4_leastInsult_10 rfl (lv_at hl 0 rfl) ?_
      refine r_get (C := RX4) (T := TX4) (Nf := 2) hx hb hts hown hK hG (by decide) rfl rfl inX4 1 (by decide) qF_X4_12 rfl dX4_leastInsult_11 ?_
      refine lv_aload_n hx hb dX4_leastInsult_14 rfl (lv_at hl 0 rfl) ?_
      refine r_get (C := RX4) (T := TX4) (Nf := 2) hx hb hts hown hK hG (by decide) rfl rfl inX4 0 (by decide) qF_X4_18 rfl dX4_leastInsult_15 ?_
      refine r_kv (r_run_V (k := 99) (As := [.ref (ad y 11)]) (rest := []) hx hb hml hown hts hK hN hG (c_X1_become l y 99 isC_99 11 isC_11 st _ hw) (isC.lt isC_99) (isC.e isC_99 y _) rfl rfl qM_X4_21 qI_X1_become qS_X1_become qN_X1 qC_X1_become hd_X1_become ⟨Nat.le_of_ble_eq_true rfl, Nat.le_of_ble_eq_true rfl⟩ hl.1 rfl (Nat.le_of_ble_eq_true rfl) dX4_leastInsult_18) hG (fun st18 H locs hw hG => ?_)
      refine lv_aload_n hx hb dX4_leastInsult_21 rfl (lv_at hl 0 rfl) ?_
      refine r_get (C := RX4) (T := TX4) (Nf := 2) hx hb hts hown hK hG (by decide) rfl rfl inX4 1 (by decide) qF_X4_12 rfl dX4_leastInsult_22 ?_
      refine lv_iload_n hx hb dX4_leastInsult_25 rfl (lv_at hl 1 rfl) ?_
      refine lv_iload_n hx hb dX4_leastInsult_26 rfl (lv_at hl 2 rfl) ?_
      refine lv_aload_n hx hb dX4_leastInsult_27 rfl (lv_at hl 0 rfl) ?_
      refine r_get (C := RX4) (T := TX4) (Nf := 2) hx hb hts hown hK hG (by decide) rfl rfl inX4 0 (by decide) qF_X4_18 rfl dX4_leastInsult_28 ?_
      refine lv_iload_n hx hb dX4_leastInsult_31 rfl (lv_at hl 1 rfl) ?_
      refine lv_iload_n hx hb dX4_leastInsult_32 rfl (lv_at hl 2 rfl) ?_
      refine r_ki (r_run_V (k := 11) (As := [.int x1, .int x2]) (rest := [.int x2, .int x1, .ref (ad y 99)]) hx hb hml hown hts hK hN hG (c_X1_hateOf l y 11 isC_11 x1 x2 st18 _ hw) (isC.lt isC_11) (isC.e isC_11 y _) rfl rfl qM_X4_29 qI_X1_hateOf qS_X1_hateOf qN_X1 qC_X1_hateOf hd_X1_hateOf ⟨Nat.le_of_ble_eq_true rfl, Nat.le_of_ble_eq_true rfl⟩ hl.1 rfl (Nat.le_of_ble_eq_true rfl) dX4_leastInsult_33) hG (fun r33 st33 H locs hw hG => ?_)
      refine lv_iload hx hb dX4_leastInsult_36 (lv_at hl 4 rfl) ?_
      refine lv_iadd hx hb dX4_leastInsult_38 ?_
      refine r_kv (r_run_V (k := 99) (As := [.int x1, .int x2, .int (r33 + v4)]) (rest := []) hx hb hml hown hts hK hN hG (c_X1_setHate l y 99 isC_99 x1 x2 (r33 + v4) st33 _ hw) (isC.lt isC_99) (isC.e isC_99 y _) rfl rfl qM_X4_59 qI_X1_setHate qS_X1_setHate qN_X1 qC_X1_setHate hd_X1_setHate ⟨Nat.le_of_ble_eq_true rfl, Nat.le_of_ble_eq_true rfl⟩ hl.1 rfl (Nat.le_of_ble_eq_true rfl) dX4_leastInsult_39) hG (fun st39 H locs hw hG => ?_)
      refine lv_aload_n hx hb dX4_leastInsult_42 rfl (lv_at hl 0 rfl) ?_
      refine r_get (C := RX4) (T := TX4) (Nf := 2) hx hb hts hown hK hG (by decide) rfl rfl inX4 1 (by decide) qF_X4_12 rfl dX4_leastInsult_43 ?_
      refine r_ki (r_run_V (k := 99) (As := []) (rest := []) hx hb hml hown hts hK hN hG (c_X1_passWeek l y 99 isC_99 st39 _ hw) (isC.lt isC_99) (isC.e isC_99 y _) rfl rfl qM_X4_44 qI_X1_passWeek qS_X1_passWeek qN_X1 qC_X1_passWeek hd_X1_passWeek ⟨Nat.le_of_ble_eq_true rfl, Nat.le_of_ble_eq_true rfl⟩ hl.1 rfl (Nat.le_of_ble_eq_true rfl) dX4_leastInsult_46) hG (fun r46 st46 H locs hw hG => ?_)
      refine lv_pop hx hb dX4_leastInsult_49 rfl ?_
      refine lv_aload_n hx hb dX4_leastInsult_50 rfl (lv_at hl 0 rfl) ?_
      refine r_get (C := RX4) (T := TX4) (Nf := 2) hx hb hts hown hK hG (by decide) rfl rfl inX4 1 (by decide) qF_X4_12 rfl dX4_leastInsult_51 ?_
      refine lv_iload_n hx hb dX4_leastInsult_54 rfl (lv_at hl 3 rfl) ?_
      refine r_ki (r_run_V (k := 99) (As := [.int x3]) (rest := []) hx hb hml hown hts hK hN hG (c_X1_openedBy l y 99 isC_99 x3 st46 _ hw) (isC.lt isC_99) (isC.e isC_99 y _) rfl rfl qM_X4_47 qI_X1_openedBy qS_X1_openedBy qN_X1 qC_X1_openedBy hd_X1_openedBy ⟨Nat.le_of_ble_eq_true rfl, Nat.le_of_ble_eq_true rfl⟩ hl.1 rfl (Nat.le_of_ble_eq_true rfl) dX4_leastInsult_55) hG (fun r55 st55 H locs hw hG => ?_)
      refine lv_iload_n hx hb dX4_leastInsult_58 rfl (lv_at hl 1 rfl) ?_
      refine lv_iload_n hx hb dX4_leastInsult_59 rfl (lv_at hl 2 rfl) ?_
      refine r_ki (r_run_N (As := [.int x1, .int x2]) (rest := [.int r55]) hx hb hml hown hts hK hN hG (c_X8_twoName l y x1 x2 st55 _ hw) qM_X4_63 qT_X8_twoName qN_X8 qC_X8_twoName hd_X8_twoName ⟨Nat.le_of_ble_eq_true rfl, Nat.le_of_ble_eq_true rfl⟩ hl.1 rfl (Nat.le_of_ble_eq_true rfl) dX4_leastInsult_60) hG (fun r60 st60 H locs hw hG => ?_)
      refine lv_icmp_ne (tgt := 69) hx hb dX4_leastInsult_63 (by decide) (fun hc => ?_) (fun hc => ?_)
      · replace hw := hw.1 hc
        refine lv_iinc (v := (v4 + 1)) (lv' := [(4, .int (v4 + 1)), (0, .ref (ad y 10)), (1, .int x1), (2, .int x2), (3, .int x3)]) hx hb dX4_leastInsult_69 hl (k := 4) rfl rfl (Nat.le_of_ble_eq_true rfl) rfl (fun ls hl => ?_)
        refine lv_goto (tgt := 3) hx hb dX4_leastInsult_72 (by decide) ?_
        exact hc3 (v4 + 1) st60 H locs _ hG (lv_sub hl [1, 2, 3, 4, 0] rfl) hw
      · replace hw := hw.2 hc
        refine lv_iload hx hb dX4_leastInsult_66 (lv_at hl 4 rfl) ?_
        exact r_iret hx hb hr hlk hK hG rfl hw dX4_leastInsult_68
theorem hd_X4_leastInsult : yX4_leastInsult.cls ≠ "java/lang/invoke/MethodHandle" ∧ yX4_leastInsult.cls ≠ "java/lang/invoke/VarHandle" ∧ (parseMethodDescriptor yX4_leastInsult.desc).map (fun d => d.parameters.length) = some 3 := by decide +kernel
set_option maxRecDepth 100000 in
set_option maxHeartbeats 4000000 in
theorem c_X4_leastInsult (l : Launch) (y : Sy) (x1 : Int32) (x2 : Int32) (x3 : Int32) (st : St) (K : Int32 → St → Prop) (hw : w_X4_leastInsult x1 x2 x3 st K) : Ci 107 enX l yX4_leastInsult cX4_leastInsult 5 (some .int) 4 95 y [.ref (ad y 10), .int x1, .int x2, .int x3] st K := by
  refine ent (by decide) (Nat.le_of_ble_eq_true rfl) ?_
  intro p e s m below meth c C hG ls hl
  have hl : lv_has ls 5 [(0, .ref (ad y 10)), (1, .int x1), (2, .int x2), (3, .int x3)] := hl
  generalize ([.ref (ad y 10), .int x1, .int x2, .int x3] : List Value).toArray = args at C ⊢
  have C : Sd p s m args meth c cX4_leastInsult 5 RX4 (some .int) y := C
  obtain ⟨hx, hb, hml, hown, hts, hr, hlk, hK, hN⟩ := id C
  generalize s.heap = H at hG ⊢
  generalize ([] : List Loc) = locs at hG ⊢
  unfold w_X4_leastInsult at hw
  refine lv_iconst (v := 0) hx hb dX4_leastInsult_0 (by decide) ?_
  refine lv_istore (lv' := [(4, .int 0), (0, .ref (ad y 10)), (1, .int x1), (2, .int x2), (3, .int x3)]) hx hb dX4_leastInsult_1 hl (Nat.le_of_ble_eq_true rfl) rfl (fun ls hl => ?_)
  obtain ⟨n3, hw⟩ := hw
  exact z_X4_leastInsult_L3 l y x1 x2 x3 C  K  n3 0 st H locs _ hG (lv_sub hl [1, 2, 3, 4, 0] rfl) hw
set_option maxRecDepth 100000 in
set_option maxHeartbeats 4000000 in
theorem z_X4_idleWeeks_b33 {p : Program} {e : Env} {s : State} {m : MethodId} {args : Array Value} {below : List Frame} {meth : Method} {c : Code} (l : Launch) (y : Sy) (x1 : Int32) (C : Sd p s m args meth c cX4_idleWeeks 4 RX4 (some .int) y) (c15 : Int32 → Int32 → St → Prop) (K : Int32 → St → Prop) (hc15 : ∀ (v2 : Int32) (v3 : Int32) (st : St) (H : Heap) (locs : List Loc) (ls : Array Slot), gH 107 enX y st s H locs → lv_has ls 4 [(0, .ref (ad y 10)), (1, .int x1), (2, .int v2), (3, .int v3)] → c15 v2 v3 st → W p l e (rmm 4 95) s m args below meth c H locs 0 0 (MQ below (va_Qi K (gB 107 enX y) (gA 107 y)) args s 0 0 (gA 107 y)) (F0 m 15 ls [])) (v2 : Int32) (v3 : Int32) (st : St) {H : Heap} {locs : List Loc} {ls : Array Slot} (hG : gH 107 enX y st s H locs) (hl : lv_has ls 4 [(0, .ref (ad y 10)), (1, .int x1), (2, .int v2), (3, .int v3)]) (hw : w_X4_idleWeeks_b33 x1 c15 K v2 v3 st) : W p l e (rmm 4 95) s m args below meth c H locs 0 0 (MQ below (va_Qi K (gB 107 enX y) (gA 107 y)) args s 0 0 (gA 107 y)) (F0 m 33 ls []) := by
  obtain ⟨hx, hb, hml, hown, hts, hr, hlk, hK, hN⟩ := id C
  unfold w_X4_idleWeeks_b33 at hw
  refine lv_iinc (v := (v3 + 1)) (lv' := [(3, .int (v3 + 1)), (0, .ref (ad y 10)), (1, .int x1), (2, .int v2)]) hx hb dX4_idleWeeks_33 hl (k := 3) rfl rfl (Nat.le_of_ble_eq_true rfl) rfl (fun ls hl => ?_)
  refine lv_goto (tgt := 15) hx hb dX4_idleWeeks_36 (by decide) ?_
  exact hc15 v2 (v3 + 1) st H locs _ hG (lv_sub hl [1, 2, 3, 0] rfl) hw
set_option maxRecDepth 100000 in
set_option maxHeartbeats 4000000 in
theorem z_X4_idleWeeks_L15 {p : Program} {e : Env} {s : State} {m : MethodId} {args : Array Value} {below : List Frame} {meth : Method} {c : Code} (l : Launch) (y : Sy) (x1 : Int32) (C : Sd p s m args meth c cX4_idleWeeks 4 RX4 (some .int) y)  (K : Int32 → St → Prop)  : ∀ (n : Nat) (v2 : Int32) (v3 : Int32) (st : St) (H : Heap) (locs : List Loc) (ls : Array Slot), gH 107 enX y st s H locs → lv_has ls 4 [(0, .ref (ad y 10)), (1, .int x1), (2, .int v2), (3, .int v3)] → w_X4_idleWeeks_L15 x1  K n v2 v3 st → W p l e (rmm 4 95) s m args below meth c H locs 0 0 (MQ below (va_Qi K (gB 107 enX y) (gA 107 y)) args s 0 0 (gA 107 y)) (F0 m 15 ls []) := by
  obtain ⟨hx, hb, hml, hown, hts, hr, hlk, hK, hN⟩ := id C
  intro n
  induction n with
  | zero => intro v2 v3 st H locs ls hG hl hw; exact False.elim hw
  | succ n hc15 =>
    intro v2 v3 st H locs ls hG hl hw
    have hw : w_X4_idleWeeks_L15q x1  K (fun v2 v3 st => w_X4_idleWeeks_L15 x1  K n v2 v3 st) v2 v3 st := hw
    unfold w_X4_idleWeeks_L15q at hw
    refine lv_iload_n hx hb dX4_idleWeeks_15 rfl (lv_at hl 3 rfl) ?_
    refine lv_iload_n hx hb dX4_idleWeeks_16 rfl (lv_at hl 1 rfl) ?_
    refine lv_icmp_ge (tgt := 39) hx hb dX4_idleWeeks_17 (by decide) (fun hc => ?_) (fun hc => ?_)
    · replace hw := hw.1 hc
      refine lv_iload_n hx hb dX4_idleWeeks_39 rfl (lv_at hl 2 rfl) ?_
      exact r_iret hx hb hr hlk hK hG rfl hw dX4_idleWeeks_40
    · replace hw := hw.2 hc
      refine lv_aload_n hx hb dX4_idleWeeks_20 rfl (lv_at hl 0 rfl) ?_
      refine r_get (C := RX4) (T := TX4) (Nf := 2) hx hb hts hown hK hG (by decide) rfl rfl inX4 1 (by decide) qF_X4_12 rfl dX4_idleWeeks_21 ?_
      refine r_ki (r_run_V (k := 99) (As := []) (rest := []) hx hb hml hown hts hK hN hG (c_X1_passWeek l y 99 isC_99 st _ hw) (isC.lt isC_99) (isC.e isC_99 y _) rfl rfl qM_X4_44 qI_X1_passWeek qS_X1_passWeek qN_X1 qC_X1_passWeek hd_X1_passWeek ⟨Nat.le_of_ble_eq_true rfl, Nat.le_of_ble_eq_true rfl⟩ hl.1 rfl (Nat.le_of_ble_eq_true rfl) dX4_idleWeeks_24) hG (fun r24 st24 H locs hw hG => ?_)
      refine lv_if_ne (tgt := 33) hx hb dX4_idleWeeks_27 (by decide) (fun hc => ?_) (fun hc => ?_)
      · replace hw := hw.1 hc
        exact z_X4_idleWeeks_b33 l y x1 C (fun v2 v3 st => w_X4_idleWeeks_L15 x1  K n v2 v3 st) K hc15 v2 v3 st24 hG (lv_sub hl [0, 1, 2, 3] rfl) hw
      · replace hw := hw.2 hc
        refine lv_iinc (v := (v2 + 1)) (lv' := [(2, .int (v2 + 1)), (0, .ref (ad y 10)), (1, .int x1), (3, .int v3)]) hx hb dX4_idleWeeks_30 hl (k := 2) rfl rfl (Nat.le_of_ble_eq_true rfl) rfl (fun ls hl => ?_)
        exact z_X4_idleWeeks_b33 l y x1 C (fun v2 v3 st => w_X4_idleWeeks_L15 x1  K n v2 v3 st) K hc15 (v2 + 1) v3 st24 hG (lv_sub hl [1, 2, 0, 3] rfl) hw
theorem hd_X4_idleWeeks : yX4_idleWeeks.cls ≠ "java/lang/invoke/MethodHandle" ∧ yX4_idleWeeks.cls ≠ "java/lang/invoke/VarHandle" ∧ (parseMethodDescriptor yX4_idleWeeks.desc).map (fun d => d.parameters.length) = some 1 := by decide +kernel
set_option maxRecDepth 100000 in
set_option maxHeartbeats 4000000 in
theorem c_X4_idleWeeks (l : Launch) (y : Sy) (x1 : Int32) (st : St) (K : Int32 → St → Prop) (hw : w_X4_idleWeeks x1 st K) : Ci 107 enX l yX4_idleWeeks cX4_idleWeeks 4 (some .int) 4 95 y [.ref (ad y 10), .int x1] st K := by
  refine ent (by decide) (Nat.le_of_ble_eq_true rfl) ?_
  intro p e s m below meth c C hG ls hl
  have hl : lv_has ls 4 [(0, .ref (ad y 10)), (1, .int x1)] := hl
  generalize ([.ref (ad y 10), .int x1] : List Value).toArray = args at C ⊢
  have C : Sd p s m args meth c cX4_idleWeeks 4 RX4 (some .int) y := C
  obtain ⟨hx, hb, hml, hown, hts, hr, hlk, hK, hN⟩ := id C
  generalize s.heap = H at hG ⊢
  generalize ([] : List Loc) = locs at hG ⊢
  unfold w_X4_idleWeeks at hw
  refine lv_aload_n hx hb dX4_idleWeeks_0 rfl (lv_at hl 0 rfl) ?_
  refine r_get (C := RX4) (T := TX4) (Nf := 2) hx hb hts hown hK hG (by decide) rfl rfl inX4 1 (by decide) qF_X4_12 rfl dX4_idleWeeks_1 ?_
  refine lv_aload_n hx hb dX4_idleWeeks_4 rfl (lv_at hl 0 rfl) ?_
  refine r_get (C := RX4) (T := TX4) (Nf := 2) hx hb hts hown hK hG (by decide) rfl rfl inX4 0 (by decide) qF_X4_18 rfl dX4_idleWeeks_5 ?_
  refine r_kv (r_run_V (k := 99) (As := [.ref (ad y 11)]) (rest := []) hx hb hml hown hts hK hN hG (c_X1_become l y 99 isC_99 11 isC_11 st _ hw) (isC.lt isC_99) (isC.e isC_99 y _) rfl rfl qM_X4_21 qI_X1_become qS_X1_become qN_X1 qC_X1_become hd_X1_become ⟨Nat.le_of_ble_eq_true rfl, Nat.le_of_ble_eq_true rfl⟩ hl.1 rfl (Nat.le_of_ble_eq_true rfl) dX4_idleWeeks_8) hG (fun st8 H locs hw hG => ?_)
  refine lv_iconst (v := 0) hx hb dX4_idleWeeks_11 (by decide) ?_
  refine lv_istore_n (lv' := [(2, .int 0), (0, .ref (ad y 10)), (1, .int x1)]) hx hb dX4_idleWeeks_12 rfl hl (Nat.le_of_ble_eq_true rfl) rfl (fun ls hl => ?_)
  refine lv_iconst (v := 0) hx hb dX4_idleWeeks_13 (by decide) ?_
  refine lv_istore_n (lv' := [(3, .int 0), (2, .int 0), (0, .ref (ad y 10)), (1, .int x1)]) hx hb dX4_idleWeeks_14 rfl hl (Nat.le_of_ble_eq_true rfl) rfl (fun ls hl => ?_)
  obtain ⟨n15, hw⟩ := hw
  exact z_X4_idleWeeks_L15 l y x1 C  K  n15 0 0 st8 H locs _ hG (lv_sub hl [2, 3, 1, 0] rfl) hw
theorem hd_X4_openAsAllIs : yX4_openAsAllIs.cls ≠ "java/lang/invoke/MethodHandle" ∧ yX4_openAsAllIs.cls ≠ "java/lang/invoke/VarHandle" ∧ (parseMethodDescriptor yX4_openAsAllIs.desc).map (fun d => d.parameters.length) = some 1 := by decide +kernel
set_option maxRecDepth 100000 in
set_option maxHeartbeats 4000000 in
theorem c_X4_openAsAllIs (l : Launch) (y : Sy) (x1 : Int32) (st : St) (K : Int32 → St → Prop) (hw : w_X4_openAsAllIs x1 st K) : Ci 107 enX l yX4_openAsAllIs cX4_openAsAllIs 2 (some .int) 5 117 y [.ref (ad y 10), .int x1] st K := by
  refine ent (by decide) (Nat.le_of_ble_eq_true rfl) ?_
  intro p e s m below meth c C hG ls hl
  have hl : lv_has ls 2 [(0, .ref (ad y 10)), (1, .int x1)] := hl
  generalize ([.ref (ad y 10), .int x1] : List Value).toArray = args at C ⊢
  have C : Sd p s m args meth c cX4_openAsAllIs 2 RX4 (some .int) y := C
  obtain ⟨hx, hb, hml, hown, hts, hr, hlk, hK, hN⟩ := id C
  generalize s.heap = H at hG ⊢
  generalize ([] : List Loc) = locs at hG ⊢
  unfold w_X4_openAsAllIs at hw
  refine lv_aload_n hx hb dX4_openAsAllIs_0 rfl (lv_at hl 0 rfl) ?_
  refine r_get (C := RX4) (T := TX4) (Nf := 2) hx hb hts hown hK hG (by decide) rfl rfl inX4 1 (by decide) qF_X4_12 rfl dX4_openAsAllIs_1 ?_
  refine lv_aload_n hx hb dX4_openAsAllIs_4 rfl (lv_at hl 0 rfl) ?_
  refine r_get (C := RX4) (T := TX4) (Nf := 2) hx hb hts hown hK hG (by decide) rfl rfl inX4 0 (by decide) qF_X4_18 rfl dX4_openAsAllIs_5 ?_
  refine r_kv (r_run_V (k := 99) (As := [.ref (ad y 11)]) (rest := []) hx hb hml hown hts hK hN hG (c_X1_become l y 99 isC_99 11 isC_11 st _ hw) (isC.lt isC_99) (isC.e isC_99 y _) rfl rfl qM_X4_21 qI_X1_become qS_X1_become qN_X1 qC_X1_become hd_X1_become ⟨Nat.le_of_ble_eq_true rfl, Nat.le_of_ble_eq_true rfl⟩ hl.1 rfl (Nat.le_of_ble_eq_true rfl) dX4_openAsAllIs_8) hG (fun st8 H locs hw hG => ?_)
  refine lv_aload_n hx hb dX4_openAsAllIs_11 rfl (lv_at hl 0 rfl) ?_
  refine r_get (C := RX4) (T := TX4) (Nf := 2) hx hb hts hown hK hG (by decide) rfl rfl inX4 1 (by decide) qF_X4_12 rfl dX4_openAsAllIs_12 ?_
  refine lv_iload_n hx hb dX4_openAsAllIs_15 rfl (lv_at hl 1 rfl) ?_
  refine r_ki (r_run_V (k := 99) (As := [.int x1]) (rest := []) hx hb hml hown hts hK hN hG (c_X1_passWeeks l y 99 isC_99 x1 st8 _ hw) (isC.lt isC_99) (isC.e isC_99 y _) rfl rfl qM_X4_25 qI_X1_passWeeks qS_X1_passWeeks qN_X1 qC_X1_passWeeks hd_X1_passWeeks ⟨Nat.le_of_ble_eq_true rfl, Nat.le_of_ble_eq_true rfl⟩ hl.1 rfl (Nat.le_of_ble_eq_true rfl) dX4_openAsAllIs_16) hG (fun r16 st16 H locs hw hG => ?_)
  exact r_iret hx hb hr hlk hK hG rfl hw dX4_openAsAllIs_19
set_option maxRecDepth 100000 in
set_option maxHeartbeats 4000000 in
theorem z_X4_bestSending_b97 {p : Program} {e : Env} {s : State} {m : MethodId} {args : Array Value} {below : List Frame} {meth : Method} {c : Code} (l : Launch) (y : Sy) (x1 : Int32) (C : Sd p s m args meth c cX4_bestSending 7 RX4 (some .int) y) (c12 : Int32 → Int32 → Int32 → St → Prop) (c27 : Int32 → Int32 → Int32 → Int32 → St → Prop) (K : Int32 → St → Prop) (hc12 : ∀ (v2 : Int32) (v3 : Int32) (v4 : Int32) (st : St) (H : Heap) (locs : List Loc) (ls : Array Slot), gH 107 enX y st s H locs → lv_has ls 7 [(0, .ref (ad y 10)), (1, .int x1), (2, .int v2), (3, .int v3), (4, .int v4)] → c12 v2 v3 v4 st → W p l e (rmm 6 138) s m args below meth c H locs 0 0 (MQ below (va_Qi K (gB 107 enX y) (gA 107 y)) args s 0 0 (gA 107 y)) (F0 m 12 ls [])) (hc27 : ∀ (v2 : Int32) (v3 : Int32) (v4 : Int32) (v5 : Int32) (st : St) (H : Heap) (locs : List Loc) (ls : Array Slot), gH 107 enX y st s H locs → lv_has ls 7 [(0, .ref (ad y 10)), (1, .int x1), (2, .int v2), (3, .int v3), (4, .int v4), (5, .int v5)] → c27 v2 v3 v4 v5 st → W p l e (rmm 6 138) s m args below meth c H locs 0 0 (MQ below (va_Qi K (gB 107 enX y) (gA 107 y)) args s 0 0 (gA 107 y)) (F0 m 27 ls [])) (v2 : Int32) (v3 : Int32) (v4 : Int32) (v5 : Int32) (st : St) {H : Heap} {locs : List Loc} {ls : Array Slot} (hG : gH 107 enX y st s H locs) (hl : lv_has ls 7 [(0, .ref (ad y 10)), (1, .int x1), (2, .int v2), (3, .int v3), (4, .int v4), (5, .int v5)]) (hw : w_X4_bestSending_b97 x1 c12 c27 K v2 v3 v4 v5 st) : W p l e (rmm 6 138) s m args below meth c H locs 0 0 (MQ below (va_Qi K (gB 107 enX y) (gA 107 y)) args s 0 0 (gA 107 y)) (F0 m 97 ls []) := by
  obtain ⟨hx, hb, hml, hown, hts, hr, hlk, hK, hN⟩ := id C
  unfold w_X4_bestSending_b97 at hw
  refine lv_iinc (v := (v5 + 1)) (lv' := [(5, .int (v5 + 1)), (0, .ref (ad y 10)), (1, .int x1), (2, .int v2), (3, .int v3), (4, .int v4)]) hx hb dX4_bestSending_97 hl (k := 5) rfl rfl (Nat.le_of_ble_eq_true rfl) rfl (fun ls hl => ?_)
  refine lv_goto (tgt := 27) hx hb dX4_bestSending_100 (by decide) ?_
  exact hc27 v2 v3 v4 (v5 + 1) st H locs _ hG (lv_sub hl [1, 2, 3, 4, 5, 0] rfl) hw
set_option maxRecDepth 100000 in
set_option maxHeartbeats 4000000 in
theorem z_X4_bestSending_b103 {p : Program} {e : Env} {s : State} {m : MethodId} {args : Array Value} {below : List Frame} {meth : Method} {c : Code} (l : Launch) (y : Sy) (x1 : Int32) (C : Sd p s m args meth c cX4_bestSending 7 RX4 (some .int) y) (c12 : Int32 → Int32 → Int32 → St → Prop) (K : Int32 → St → Prop) (hc12 : ∀ (v2 : Int32) (v3 : Int32) (v4 : Int32) (st : St) (H : Heap) (locs : List Loc) (ls : Array Slot), gH 107 enX y st s H locs → lv_has ls 7 [(0, .ref (ad y 10)), (1, .int x1), (2, .int v2), (3, .int v3), (4, .int v4)] → c12 v2 v3 v4 st → W p l e (rmm 6 138) s m args below meth c H locs 0 0 (MQ below (va_Qi K (gB 107 enX y) (gA 107 y)) args s 0 0 (gA 107 y)) (F0 m 12 ls [])) (v2 : Int32) (v3 : Int32) (v4 : Int32) (st : St) {H : Heap} {locs : List Loc} {ls : Array Slot} (hG : gH 107 enX y st s H locs) (hl : lv_has ls 7 [(0, .ref (ad y 10)), (1, .int x1), (2, .int v2), (3, .int v3), (4, .int v4)]) (hw : w_X4_bestSending_b103 x1 c12 K v2 v3 v4 st) : W p l e (rmm 6 138) s m args below meth c H locs 0 0 (MQ below (va_Qi K (gB 107 enX y) (gA 107 y)) args s 0 0 (gA 107 y)) (F0 m 103 ls []) := by
  obtain ⟨hx, hb, hml, hown, hts, hr, hlk, hK, hN⟩ := id C
  unfold w_X4_bestSending_b103 at hw
  refine lv_iinc (v := (v4 + 1)) (lv' := [(4, .int (v4 + 1)), (0, .ref (ad y 10)), (1, .int x1), (2, .int v2), (3, .int v3)]) hx hb dX4_bestSending_103 hl (k := 4) rfl rfl (Nat.le_of_ble_eq_true rfl) rfl (fun ls hl => ?_)
  refine lv_goto (tgt := 12) hx hb dX4_bestSending_106 (by decide) ?_
  exact hc12 v2 v3 (v4 + 1) st H locs _ hG (lv_sub hl [1, 2, 3, 4, 0] rfl) hw
set_option maxRecDepth 100000 in
set_option maxHeartbeats 4000000 in
theorem z_X4_bestSending_L27 {p : Program} {e : Env} {s : State} {m : MethodId} {args : Array Value} {below : List Frame} {meth : Method} {c : Code} (l : Launch) (y : Sy) (x1 : Int32) (C : Sd p s m args meth c cX4_bestSending 7 RX4 (some .int) y) (c12 : Int32 → Int32 → Int32 → St → Prop) (K : Int32 → St → Prop) (hc12 : ∀ (v2 : Int32) (v3 : Int32) (v4 : Int32) (st : St) (H : Heap) (locs : List Loc) (ls : Array Slot), gH 107 enX y st s H locs → lv_has ls 7 [(0, .ref (ad y 10)), (1, .int x1), (2, .int v2), (3, .int v3), (4, .int v4)] → c12 v2 v3 v4 st → W p l e (rmm 6 138) s m args below meth c H locs 0 0 (MQ below (va_Qi K (gB 107 enX y) (gA 107 y)) args s 0 0 (gA 107 y)) (F0 m 12 ls [])) : ∀ (n : Nat) (v2 : Int32) (v3 : Int32) (v4 : Int32) (v5 : Int32) (st : St) (H : Heap) (locs : List Loc) (ls : Array Slot), gH 107 enX y st s H locs → lv_has ls 7 [(0, .ref (ad y 10)), (1, .int x1), (2, .int v2), (3, .int v3), (4, .int v4), (5, .int v5)] → w_X4_bestSending_L27 x1 c12 K n v2 v3 v4 v5 st → W p l e (rmm 6 138) s m args below meth c H locs 0 0 (MQ below (va_Qi K (gB 107 enX y) (gA 107 y)) args s 0 0 (gA 107 y)) (F0 m 27 ls []) := by
  obtain ⟨hx, hb, hml, hown, hts, hr, hlk, hK, hN⟩ := id C
  intro n
  induction n with
  | zero => intro v2 v3 v4 v5 st H locs ls hG hl hw; exact False.elim hw
  | succ n hc27 =>
    intro v2 v3 v4 v5 st H locs ls hG hl hw
    have hw : w_X4_bestSending_L27q x1 c12 K (fun v2 v3 v4 v5 st => w_X4_bestSending_L27 x1 c12 K n v2 v3 v4 v5 st) v2 v3 v4 v5 st := hw
    unfold w_X4_bestSending_L27q at hw
    refine lv_iload hx hb dX4_bestSending_27 (lv_at hl 5 rfl) ?_
    refine lv_iconst (v := 4) hx hb dX4_bestSending_29 (by decide) ?_
    refine lv_icmp_ge (tgt := 103) hx hb dX4_bestSending_30 (by decide) (fun hc => ?_) (fun hc => ?_)
    · replace hw := hw.1 hc
      exact z_X4_bestSending_b103 l y x1 C c12 K hc12 v2 v3 v4 st hG (lv_sub hl [0, 1, 2, 3, 4] rfl) hw
    · replace hw := hw.2 hc
      refine lv_iload hx hb dX4_bestSending_33 (lv_at hl 5 rfl) ?_
      refine lv_aload_n hx hb dX4_bestSending_35 rfl (lv_at hl 0 rfl) ?_
      refine r_get (C := RX4) (T := TX4) (Nf := 2) hx hb hts hown hK hG (by decide) rfl rfl inX4 0 (by decide) qF_X4_18 rfl dX4_bestSending_36 ?_
      refine lv_iload hx hb dX4_bestSending_39 (lv_at hl 4 rfl) ?_
      refine r_ki (r_run_V (k := 11) (As := [.int v4]) (rest := [.int v5]) hx hb hml hown hts hK hN hG (c_X1_townOf l y 11 isC_11 v4 st _ hw) (isC.lt isC_11) (isC.e isC_11 y _) rfl rfl qM_X4_72 qI_X1_townOf qS_X1_townOf qN_X1 qC_X1_townOf hd_X1_townOf ⟨Nat.le_of_ble_eq_true rfl, Nat.le_of_ble_eq_true rfl⟩ hl.1 rfl (Nat.le_of_ble_eq_true rfl) dX4_bestSending_41) hG (fun r41 st41 H locs hw hG => ?_)
      refine lv_icmp_eq (tgt := 97) hx hb dX4_bestSending_44 (by decide) (fun hc => ?_) (fun hc => ?_)
      · replace hw := hw.1 hc
        exact z_X4_bestSending_b97 l y x1 C c12 (fun v2 v3 v4 v5 st => w_X4_bestSending_L27 x1 c12 K n v2 v3 v4 v5 st) K hc12 hc27 v2 v3 v4 v5 st41 hG (lv_sub hl [0, 1, 2, 3, 4, 5] rfl) hw
      · replace hw := hw.2 hc
        refine lv_aload_n hx hb dX4_bestSending_47 rfl (lv_at hl 0 rfl) ?_
        refine r_get (C := RX4) (T := TX4) (Nf := 2) hx hb hts hown hK hG (by decide) rfl rfl inX4 1 (by decide) qF_X4_12 rfl dX4_bestSending_48 ?_
        refine lv_aload_n hx hb dX4_bestSending_51 rfl (lv_at hl 0 rfl) ?_
        refine r_get (C := RX4) (T := TX4) (Nf := 2) hx hb hts hown hK hG (by decide) rfl rfl inX4 0 (by decide) qF_X4_18 rfl dX4_bestSending_52 ?_
        refine r_kv (r_run_V (k := 99) (As := [.ref (ad y 11)]) (rest := []) hx hb hml hown hts hK hN hG (c_X1_become l y 99 isC_99 11 isC_11 st41 _ hw) (isC.lt isC_99) (isC.e isC_99 y _) rfl rfl qM_X4_21 qI_X1_become qS_X1_become qN_X1 qC_X1_become hd_X1_become ⟨Nat.le_of_ble_eq_true rfl, Nat.le_of_ble_eq_true rfl⟩ hl.1 rfl (Nat.le_of_ble_eq_true rfl) dX4_bestSending_55) hG (fun st55 H locs hw hG => ?_)
        refine lv_aload_n hx hb dX4_bestSending_58 rfl (lv_at hl 0 rfl) ?_
        refine r_get (C := RX4) (T := TX4) (Nf := 2) hx hb hts hown hK hG (by decide) rfl rfl inX4 1 (by decide) qF_X4_12 rfl dX4_bestSending_59 ?_
        refine lv_iload hx hb dX4_bestSending_62 (lv_at hl 4 rfl) ?_
        refine lv_iload hx hb dX4_bestSending_64 (lv_at hl 5 rfl) ?_
        refine r_kv (r_run_V (k := 99) (As := [.int v4, .int v5]) (rest := []) hx hb hml hown hts hK hN hG (c_X1_move l y 99 isC_99 v4 v5 st55 _ hw) (isC.lt isC_99) (isC.e isC_99 y _) rfl rfl qM_X4_75 qI_X1_move qS_X1_move qN_X1 qC_X1_move hd_X1_move ⟨Nat.le_of_ble_eq_true rfl, Nat.le_of_ble_eq_true rfl⟩ hl.1 rfl (Nat.le_of_ble_eq_true rfl) dX4_bestSending_66) hG (fun st66 H locs hw hG => ?_)
        refine lv_aload_n hx hb dX4_bestSending_69 rfl (lv_at hl 0 rfl) ?_
        refine r_get (C := RX4) (T := TX4) (Nf := 2) hx hb hts hown hK hG (by decide) rfl rfl inX4 1 (by decide) qF_X4_12 rfl dX4_bestSending_70 ?_
        refine lv_iload_n hx hb dX4_bestSending_73 rfl (lv_at hl 1 rfl) ?_
        refine r_ki (r_run_V (k := 99) (As := [.int x1]) (rest := []) hx hb hml hown hts hK hN hG (c_X1_passWeeks l y 99 isC_99 x1 st66 _ hw) (isC.lt isC_99) (isC.e isC_99 y _) rfl rfl qM_X4_25 qI_X1_passWeeks qS_X1_passWeeks qN_X1 qC_X1_passWeeks hd_X1_passWeeks ⟨Nat.le_of_ble_eq_true rfl, Nat.le_of_ble_eq_true rfl⟩ hl.1 rfl (Nat.le_of_ble_eq_true rfl) dX4_bestSending_74) hG (fun r74 st74 H locs hw hG => ?_)
        refine lv_istore (lv' := [(6, .int r74), (0, .ref (ad y 10)), (1, .int x1), (2, .int v2), (3, .int v3), (4, .int v4), (5, .int v5)]) hx hb dX4_bestSending_77 hl (Nat.le_of_ble_eq_true rfl) rfl (fun ls hl => ?_)
        refine lv_iload hx hb dX4_bestSending_79 (lv_at hl 0 rfl) ?_
        refine lv_iload_n hx hb dX4_bestSending_81 rfl (lv_at hl 4 rfl) ?_
        refine lv_icmp_le (tgt := 97) hx hb dX4_bestSending_82 (by decide) (fun hc => ?_) (fun hc => ?_)
        · replace hw := hw.1 hc
          exact z_X4_bestSending_b97 l y x1 C c12 (fun v2 v3 v4 v5 st => w_X4_bestSending_L27 x1 c12 K n v2 v3 v4 v5 st) K hc12 hc27 v2 v3 v4 v5 st74 hG (lv_sub hl [1, 2, 3, 4, 5, 6] rfl) hw
        · replace hw := hw.2 hc
          refine lv_iload hx hb dX4_bestSending_85 (lv_at hl 0 rfl) ?_
          refine lv_istore_n (lv' := [(3, .int r74), (6, .int r74), (0, .ref (ad y 10)), (1, .int x1), (2, .int v2), (4, .int v4), (5, .int v5)]) hx hb dX4_bestSending_87 rfl hl (Nat.le_of_ble_eq_true rfl) rfl (fun ls hl => ?_)
          refine lv_bipush (v := 10) hx hb dX4_bestSending_88 (by decide) ?_
          refine lv_iload hx hb dX4_bestSending_90 (lv_at hl 5 rfl) ?_
          refine lv_imul hx hb dX4_bestSending_92 ?_
          refine lv_iload hx hb dX4_bestSending_93 (lv_at hl 6 rfl) ?_
          refine lv_iadd hx hb dX4_bestSending_95 ?_
          refine lv_istore_n (lv' := [(2, .int ((10 * v4) + v5)), (3, .int r74), (6, .int r74), (0, .ref (ad y 10)), (1, .int x1), (4, .int v4), (5, .int v5)]) hx hb dX4_bestSending_96 rfl hl (Nat.le_of_ble_eq_true rfl) rfl (fun ls hl => ?_)
          exact z_X4_bestSending_b97 l y x1 C c12 (fun v2 v3 v4 v5 st => w_X4_bestSending_L27 x1 c12 K n v2 v3 v4 v5 st) K hc12 hc27 ((10 * v4) + v5) r74 v4 v5 st74 hG (lv_sub hl [3, 4, 0, 1, 5, 6] rfl) hw
set_option maxRecDepth 100000 in
set_option maxHeartbeats 4000000 in
theorem z_X4_bestSending_L12 {p : Program} {e : Env} {s : State} {m : MethodId} {args : Array Value} {below : List Frame} {meth : Method} {c : Code} (l : Launch) (y : Sy) (x1 : Int32) (C : Sd p s m args meth c cX4_bestSending 7 RX4 (some .int) y)  (K : Int32 → St → Prop)  : ∀ (n : Nat) (v2 : Int32) (v3 : Int32) (v4 : Int32) (st : St) (H : Heap) (locs : List Loc) (ls : Array Slot), gH 107 enX y st s H locs → lv_has ls 7 [(0, .ref (ad y 10)), (1, .int x1), (2, .int v2), (3, .int v3), (4, .int v4)] → w_X4_bestSending_L12 x1  K n v2 v3 v4 st → W p l e (rmm 6 138) s m args below meth c H locs 0 0 (MQ below (va_Qi K (gB 107 enX y) (gA 107 y)) args s 0 0 (gA 107 y)) (F0 m 12 ls []) := by
  obtain ⟨hx, hb, hml, hown, hts, hr, hlk, hK, hN⟩ := id C
  intro n
  induction n with
  | zero => intro v2 v3 v4 st H locs ls hG hl hw; exact False.elim hw
  | succ n hc12 =>
    intro v2 v3 v4 st H locs ls hG hl hw
    have hw : w_X4_bestSending_L12q x1  K (fun v2 v3 v4 st => w_X4_bestSending_L12 x1  K n v2 v3 v4 st) v2 v3 v4 st := hw
    unfold w_X4_bestSending_L12q at hw
    refine lv_iload hx hb dX4_bestSending_12 (lv_at hl 4 rfl) ?_
    refine lv_aload_n hx hb dX4_bestSending_14 rfl (lv_at hl 0 rfl) ?_
    refine r_get (C := RX4) (T := TX4) (Nf := 2) hx hb hts hown hK hG (by decide) rfl rfl inX4 0 (by decide) qF_X4_18 rfl dX4_bestSending_15 ?_
    refine r_ki (r_run_V (k := 11) (As := []) (rest := [.int v4]) hx hb hml hown hts hK hN hG (c_X1_keeperCount l y 11 isC_11 st _ hw) (isC.lt isC_11) (isC.e isC_11 y _) rfl rfl qM_X4_69 qI_X1_keeperCount qS_X1_keeperCount qN_X1 qC_X1_keeperCount hd_X1_keeperCount ⟨Nat.le_of_ble_eq_true rfl, Nat.le_of_ble_eq_true rfl⟩ hl.1 rfl (Nat.le_of_ble_eq_true rfl) dX4_bestSending_18) hG (fun r18 st18 H locs hw hG => ?_)
    refine lv_icmp_ge (tgt := 109) hx hb dX4_bestSending_21 (by decide) (fun hc => ?_) (fun hc => ?_)
    · replace hw := hw.1 hc
      refine lv_iload_n hx hb dX4_bestSending_109 rfl (lv_at hl 2 rfl) ?_
      exact r_iret hx hb hr hlk hK hG rfl hw dX4_bestSending_110
    · replace hw := hw.2 hc
      refine lv_iconst (v := 0) hx hb dX4_bestSending_24 (by decide) ?_
      refine lv_istore (lv' := [(5, .int 0), (0, .ref (ad y 10)), (1, .int x1), (2, .int v2), (3, .int v3), (4, .int v4)]) hx hb dX4_bestSending_25 hl (Nat.le_of_ble_eq_true rfl) rfl (fun ls hl => ?_)
      obtain ⟨n27, hw⟩ := hw
      exact z_X4_bestSending_L27 l y x1 C (fun v2 v3 v4 st => w_X4_bestSending_L12 x1  K n v2 v3 v4 st) K hc12 n27 v2 v3 v4 0 st18 H locs _ hG (lv_sub hl [1, 2, 3, 4, 5, 0] rfl) hw
theorem hd_X4_bestSending : yX4_bestSending.cls ≠ "java/lang/invoke/MethodHandle" ∧ yX4_bestSending.cls ≠ "java/lang/invoke/VarHandle" ∧ (parseMethodDescriptor yX4_bestSending.desc).map (fun d => d.parameters.length) = some 1 := by decide +kernel
set_option maxRecDepth 100000 in
set_option maxHeartbeats 4000000 in
theorem c_X4_bestSending (l : Launch) (y : Sy) (x1 : Int32) (st : St) (K : Int32 → St → Prop) (hw : w_X4_bestSending x1 st K) : Ci 107 enX l yX4_bestSending cX4_bestSending 7 (some .int) 6 138 y [.ref (ad y 10), .int x1] st K := by
  refine ent (by decide) (Nat.le_of_ble_eq_true rfl) ?_
  intro p e s m below meth c C hG ls hl
  have hl : lv_has ls 7 [(0, .ref (ad y 10)), (1, .int x1)] := hl
  generalize ([.ref (ad y 10), .int x1] : List Value).toArray = args at C ⊢
  have C : Sd p s m args meth c cX4_bestSending 7 RX4 (some .int) y := C
  obtain ⟨hx, hb, hml, hown, hts, hr, hlk, hK, hN⟩ := id C
  generalize s.heap = H at hG ⊢
  generalize ([] : List Loc) = locs at hG ⊢
  unfold w_X4_bestSending at hw
  refine lv_bipush (v := (-9)) hx hb dX4_bestSending_0 (by decide) ?_
  refine lv_istore_n (lv' := [(2, .int (-9)), (0, .ref (ad y 10)), (1, .int x1)]) hx hb dX4_bestSending_2 rfl hl (Nat.le_of_ble_eq_true rfl) rfl (fun ls hl => ?_)
  refine lv_aload_n hx hb dX4_bestSending_3 rfl (lv_at hl 1 rfl) ?_
  refine lv_iload_n hx hb dX4_bestSending_4 rfl (lv_at hl 2 rfl) ?_
  refine r_ki (r_run_V (k := 10) (As := [.int x1]) (rest := []) hx hb hml hown hts hK hN hG (c_X4_openAsAllIs l y x1 st _ hw) (by decide) rfl rfl rfl qM_X4_66 qI_X4_openAsAllIs qS_X4_openAsAllIs qN_X4 qC_X4_openAsAllIs hd_X4_openAsAllIs ⟨Nat.le_of_ble_eq_true rfl, Nat.le_of_ble_eq_true rfl⟩ hl.1 rfl (Nat.le_of_ble_eq_true rfl) dX4_bestSending_5) hG (fun r5 st5 H locs hw hG => ?_)
  refine lv_istore_n (lv' := [(3, .int r5), (2, .int (-9)), (0, .ref (ad y 10)), (1, .int x1)]) hx hb dX4_bestSending_8 rfl hl (Nat.le_of_ble_eq_true rfl) rfl (fun ls hl => ?_)
  refine lv_iconst (v := 0) hx hb dX4_bestSending_9 (by decide) ?_
  refine lv_istore (lv' := [(4, .int 0), (3, .int r5), (2, .int (-9)), (0, .ref (ad y 10)), (1, .int x1)]) hx hb dX4_bestSending_10 hl (Nat.le_of_ble_eq_true rfl) rfl (fun ls hl => ?_)
  obtain ⟨n12, hw⟩ := hw
  exact z_X4_bestSending_L12 l y x1 C  K  n12 (-9) r5 0 st5 H locs _ hG (lv_sub hl [3, 4, 2, 1, 0] rfl) hw
set_option maxRecDepth 100000 in
set_option maxHeartbeats 4000000 in
theorem z_X4_bestSwap_b137 {p : Program} {e : Env} {s : State} {m : MethodId} {args : Array Value} {below : List Frame} {meth : Method} {c : Code} (l : Launch) (y : Sy) (x1 : Int32) (C : Sd p s m args meth c cX4_bestSwap 7 RX4 (some .int) y) (c12 : Int32 → Int32 → Int32 → St → Prop) (c30 : Int32 → Int32 → Int32 → Int32 → St → Prop) (K : Int32 → St → Prop) (hc12 : ∀ (v2 : Int32) (v3 : Int32) (v4 : Int32) (st : St) (H : Heap) (locs : List Loc) (ls : Array Slot), gH 107 enX y st s H locs → lv_has ls 7 [(0, .ref (ad y 10)), (1, .int x1), (2, .int v2), (3, .int v3), (4, .int v4)] → c12 v2 v3 v4 st → W p l e (rmm 6 138) s m args below meth c H locs 0 0 (MQ below (va_Qi K (gB 107 enX y) (gA 107 y)) args s 0 0 (gA 107 y)) (F0 m 12 ls [])) (hc30 : ∀ (v2 : Int32) (v3 : Int32) (v4 : Int32) (v5 : Int32) (st : St) (H : Heap) (locs : List Loc) (ls : Array Slot), gH 107 enX y st s H locs → lv_has ls 7 [(0, .ref (ad y 10)), (1, .int x1), (2, .int v2), (3, .int v3), (4, .int v4), (5, .int v5)] → c30 v2 v3 v4 v5 st → W p l e (rmm 6 138) s m args below meth c H locs 0 0 (MQ below (va_Qi K (gB 107 enX y) (gA 107 y)) args s 0 0 (gA 107 y)) (F0 m 30 ls [])) (v2 : Int32) (v3 : Int32) (v4 : Int32) (v5 : Int32) (st : St) {H : Heap} {locs : List Loc} {ls : Array Slot} (hG : gH 107 enX y st s H locs) (hl : lv_has ls 7 [(0, .ref (ad y 10)), (1, .int x1), (2, .int v2), (3, .int v3), (4, .int v4), (5, .int v5)]) (hw : w_X4_bestSwap_b137 x1 c12 c30 K v2 v3 v4 v5 st) : W p l e (rmm 6 138) s m args below meth c H locs 0 0 (MQ below (va_Qi K (gB 107 enX y) (gA 107 y)) args s 0 0 (gA 107 y)) (F0 m 137 ls []) := by
  obtain ⟨hx, hb, hml, hown, hts, hr, hlk, hK, hN⟩ := id C
  unfold w_X4_bestSwap_b137 at hw
  refine lv_iinc (v := (v5 + 1)) (lv' := [(5, .int (v5 + 1)), (0, .ref (ad y 10)), (1, .int x1), (2, .int v2), (3, .int v3), (4, .int v4)]) hx hb dX4_bestSwap_137 hl (k := 5) rfl rfl (Nat.le_of_ble_eq_true rfl) rfl (fun ls hl => ?_)
  refine lv_goto (tgt := 30) hx hb dX4_bestSwap_140 (by decide) ?_
  exact hc30 v2 v3 v4 (v5 + 1) st H locs _ hG (lv_sub hl [1, 2, 3, 4, 5, 0] rfl) hw
set_option maxRecDepth 100000 in
set_option maxHeartbeats 4000000 in
theorem z_X4_bestSwap_b143 {p : Program} {e : Env} {s : State} {m : MethodId} {args : Array Value} {below : List Frame} {meth : Method} {c : Code} (l : Launch) (y : Sy) (x1 : Int32) (C : Sd p s m args meth c cX4_bestSwap 7 RX4 (some .int) y) (c12 : Int32 → Int32 → Int32 → St → Prop) (K : Int32 → St → Prop) (hc12 : ∀ (v2 : Int32) (v3 : Int32) (v4 : Int32) (st : St) (H : Heap) (locs : List Loc) (ls : Array Slot), gH 107 enX y st s H locs → lv_has ls 7 [(0, .ref (ad y 10)), (1, .int x1), (2, .int v2), (3, .int v3), (4, .int v4)] → c12 v2 v3 v4 st → W p l e (rmm 6 138) s m args below meth c H locs 0 0 (MQ below (va_Qi K (gB 107 enX y) (gA 107 y)) args s 0 0 (gA 107 y)) (F0 m 12 ls [])) (v2 : Int32) (v3 : Int32) (v4 : Int32) (st : St) {H : Heap} {locs : List Loc} {ls : Array Slot} (hG : gH 107 enX y st s H locs) (hl : lv_has ls 7 [(0, .ref (ad y 10)), (1, .int x1), (2, .int v2), (3, .int v3), (4, .int v4)]) (hw : w_X4_bestSwap_b143 x1 c12 K v2 v3 v4 st) : W p l e (rmm 6 138) s m args below meth c H locs 0 0 (MQ below (va_Qi K (gB 107 enX y) (gA 107 y)) args s 0 0 (gA 107 y)) (F0 m 143 ls []) := by
  obtain ⟨hx, hb, hml, hown, hts, hr, hlk, hK, hN⟩ := id C
  unfold w_X4_bestSwap_b143 at hw
  refine lv_iinc (v := (v4 + 1)) (lv' := [(4, .int (v4 + 1)), (0, .ref (ad y 10)), (1, .int x1), (2, .int v2), (3, .int v3)]) hx hb dX4_bestSwap_143 hl (k := 4) rfl rfl (Nat.le_of_ble_eq_true rfl) rfl (fun ls hl => ?_)
  refine lv_goto (tgt := 12) hx hb dX4_bestSwap_146 (by decide) ?_
  exact hc12 v2 v3 (v4 + 1) st H locs _ hG (lv_sub hl [1, 2, 3, 4, 0] rfl) hw
set_option maxRecDepth 100000 in
set_option maxHeartbeats 4000000 in
theorem z_X4_bestSwap_L30 {p : Program} {e : Env} {s : State} {m : MethodId} {args : Array Value} {below : List Frame} {meth : Method} {c : Code} (l : Launch) (y : Sy) (x1 : Int32) (C : Sd p s m args meth c cX4_bestSwap 7 RX4 (some .int) y) (c12 : Int32 → Int32 → Int32 → St → Prop) (K : Int32 → St → Prop) (hc12 : ∀ (v2 : Int32) (v3 : Int32) (v4 : Int32) (st : St) (H : Heap) (locs : List Loc) (ls : Array Slot), gH 107 enX y st s H locs → lv_has ls 7 [(0, .ref (ad y 10)), (1, .int x1), (2, .int v2), (3, .int v3), (4, .int v4)] → c12 v2 v3 v4 st → W p l e (rmm 6 138) s m args below meth c H locs 0 0 (MQ below (va_Qi K (gB 107 enX y) (gA 107 y)) args s 0 0 (gA 107 y)) (F0 m 12 ls [])) : ∀ (n : Nat) (v2 : Int32) (v3 : Int32) (v4 : Int32) (v5 : Int32) (st : St) (H : Heap) (locs : List Loc) (ls : Array Slot), gH 107 enX y st s H locs → lv_has ls 7 [(0, .ref (ad y 10)), (1, .int x1), (2, .int v2), (3, .int v3), (4, .int v4), (5, .int v5)] → w_X4_bestSwap_L30 x1 c12 K n v2 v3 v4 v5 st → W p l e (rmm 6 138) s m args below meth c H locs 0 0 (MQ below (va_Qi K (gB 107 enX y) (gA 107 y)) args s 0 0 (gA 107 y)) (F0 m 30 ls []) := by
  obtain ⟨hx, hb, hml, hown, hts, hr, hlk, hK, hN⟩ := id C
  intro n
  induction n with
  | zero => intro v2 v3 v4 v5 st H locs ls hG hl hw; exact False.elim hw
  | succ n hc30 =>
    intro v2 v3 v4 v5 st H locs ls hG hl hw
    have hw : w_X4_bestSwap_L30q x1 c12 K (fun v2 v3 v4 v5 st => w_X4_bestSwap_L30 x1 c12 K n v2 v3 v4 v5 st) v2 v3 v4 v5 st := hw
    unfold w_X4_bestSwap_L30q at hw
    refine lv_iload hx hb dX4_bestSwap_30 (lv_at hl 5 rfl) ?_
    refine lv_aload_n hx hb dX4_bestSwap_32 rfl (lv_at hl 0 rfl) ?_
    refine r_get (C := RX4) (T := TX4) (Nf := 2) hx hb hts hown hK hG (by decide) rfl rfl inX4 0 (by decide) qF_X4_18 rfl dX4_bestSwap_33 ?_
    refine r_ki (r_run_V (k := 11) (As := []) (rest := [.int v5]) hx hb hml hown hts hK hN hG (c_X1_keeperCount l y 11 isC_11 st _ hw) (isC.lt isC_11) (isC.e isC_11 y _) rfl rfl qM_X4_69 qI_X1_keeperCount qS_X1_keeperCount qN_X1 qC_X1_keeperCount hd_X1_keeperCount ⟨Nat.le_of_ble_eq_true rfl, Nat.le_of_ble_eq_true rfl⟩ hl.1 rfl (Nat.le_of_ble_eq_true rfl) dX4_bestSwap_36) hG (fun r36 st36 H locs hw hG => ?_)
    refine lv_icmp_ge (tgt := 143) hx hb dX4_bestSwap_39 (by decide) (fun hc => ?_) (fun hc => ?_)
    · replace hw := hw.1 hc
      exact z_X4_bestSwap_b143 l y x1 C c12 K hc12 v2 v3 v4 st36 hG (lv_sub hl [0, 1, 2, 3, 4] rfl) hw
    · replace hw := hw.2 hc
      refine lv_aload_n hx hb dX4_bestSwap_42 rfl (lv_at hl 0 rfl) ?_
      refine r_get (C := RX4) (T := TX4) (Nf := 2) hx hb hts hown hK hG (by decide) rfl rfl inX4 0 (by decide) qF_X4_18 rfl dX4_bestSwap_43 ?_
      refine lv_iload hx hb dX4_bestSwap_46 (lv_at hl 4 rfl) ?_
      refine r_ki (r_run_V (k := 11) (As := [.int v4]) (rest := []) hx hb hml hown hts hK hN hG (c_X1_townOf l y 11 isC_11 v4 st36 _ hw) (isC.lt isC_11) (isC.e isC_11 y _) rfl rfl qM_X4_72 qI_X1_townOf qS_X1_townOf qN_X1 qC_X1_townOf hd_X1_townOf ⟨Nat.le_of_ble_eq_true rfl, Nat.le_of_ble_eq_true rfl⟩ hl.1 rfl (Nat.le_of_ble_eq_true rfl) dX4_bestSwap_48) hG (fun r48 st48 H locs hw hG => ?_)
      refine lv_aload_n hx hb dX4_bestSwap_51 rfl (lv_at hl 0 rfl) ?_
      refine r_get (C := RX4) (T := TX4) (Nf := 2) hx hb hts hown hK hG (by decide) rfl rfl inX4 0 (by decide) qF_X4_18 rfl dX4_bestSwap_52 ?_
      refine lv_iload hx hb dX4_bestSwap_55 (lv_at hl 5 rfl) ?_
      refine r_ki (r_run_V (k := 11) (As := [.int v5]) (rest := [.int r48]) hx hb hml hown hts hK hN hG (c_X1_townOf l y 11 isC_11 v5 st48 _ hw) (isC.lt isC_11) (isC.e isC_11 y _) rfl rfl qM_X4_72 qI_X1_townOf qS_X1_townOf qN_X1 qC_X1_townOf hd_X1_townOf ⟨Nat.le_of_ble_eq_true rfl, Nat.le_of_ble_eq_true rfl⟩ hl.1 rfl (Nat.le_of_ble_eq_true rfl) dX4_bestSwap_57) hG (fun r57 st57 H locs hw hG => ?_)
      refine lv_icmp_eq (tgt := 137) hx hb dX4_bestSwap_60 (by decide) (fun hc => ?_) (fun hc => ?_)
      · replace hw := hw.1 hc
        exact z_X4_bestSwap_b137 l y x1 C c12 (fun v2 v3 v4 v5 st => w_X4_bestSwap_L30 x1 c12 K n v2 v3 v4 v5 st) K hc12 hc30 v2 v3 v4 v5 st57 hG (lv_sub hl [0, 1, 2, 3, 4, 5] rfl) hw
      · replace hw := hw.2 hc
        refine lv_aload_n hx hb dX4_bestSwap_63 rfl (lv_at hl 0 rfl) ?_
        refine r_get (C := RX4) (T := TX4) (Nf := 2) hx hb hts hown hK hG (by decide) rfl rfl inX4 1 (by decide) qF_X4_12 rfl dX4_bestSwap_64 ?_
        refine lv_aload_n hx hb dX4_bestSwap_67 rfl (lv_at hl 0 rfl) ?_
        refine r_get (C := RX4) (T := TX4) (Nf := 2) hx hb hts hown hK hG (by decide) rfl rfl inX4 0 (by decide) qF_X4_18 rfl dX4_bestSwap_68 ?_
        refine r_kv (r_run_V (k := 99) (As := [.ref (ad y 11)]) (rest := []) hx hb hml hown hts hK hN hG (c_X1_become l y 99 isC_99 11 isC_11 st57 _ hw) (isC.lt isC_99) (isC.e isC_99 y _) rfl rfl qM_X4_21 qI_X1_become qS_X1_become qN_X1 qC_X1_become hd_X1_become ⟨Nat.le_of_ble_eq_true rfl, Nat.le_of_ble_eq_true rfl⟩ hl.1 rfl (Nat.le_of_ble_eq_true rfl) dX4_bestSwap_71) hG (fun st71 H locs hw hG => ?_)
        refine lv_aload_n hx hb dX4_bestSwap_74 rfl (lv_at hl 0 rfl) ?_
        refine r_get (C := RX4) (T := TX4) (Nf := 2) hx hb hts hown hK hG (by decide) rfl rfl inX4 1 (by decide) qF_X4_12 rfl dX4_bestSwap_75 ?_
        refine lv_iload hx hb dX4_bestSwap_78 (lv_at hl 4 rfl) ?_
        refine lv_aload_n hx hb dX4_bestSwap_80 rfl (lv_at hl 0 rfl) ?_
        refine r_get (C := RX4) (T := TX4) (Nf := 2) hx hb hts hown hK hG (by decide) rfl rfl inX4 0 (by decide) qF_X4_18 rfl dX4_bestSwap_81 ?_
        refine lv_iload hx hb dX4_bestSwap_84 (lv_at hl 5 rfl) ?_
        refine r_ki (r_run_V (k := 11) (As := [.int v5]) (rest := [.int v4, .ref (ad y 99)]) hx hb hml hown hts hK hN hG (c_X1_townOf l y 11 isC_11 v5 st71 _ hw) (isC.lt isC_11) (isC.e isC_11 y _) rfl rfl qM_X4_72 qI_X1_townOf qS_X1_townOf qN_X1 qC_X1_townOf hd_X1_townOf ⟨Nat.le_of_ble_eq_true rfl, Nat.le_of_ble_eq_true rfl⟩ hl.1 rfl (Nat.le_of_ble_eq_true rfl) dX4_bestSwap_86) hG (fun r86 st86 H locs hw hG => ?_)
        refine r_kv (r_run_V (k := 99) (As := [.int v4, .int r86]) (rest := []) hx hb hml hown hts hK hN hG (c_X1_move l y 99 isC_99 v4 r86 st86 _ hw) (isC.lt isC_99) (isC.e isC_99 y _) rfl rfl qM_X4_75 qI_X1_move qS_X1_move qN_X1 qC_X1_move hd_X1_move ⟨Nat.le_of_ble_eq_true rfl, Nat.le_of_ble_eq_true rfl⟩ hl.1 rfl (Nat.le_of_ble_eq_true rfl) dX4_bestSwap_89) hG (fun st89 H locs hw hG => ?_)
        refine lv_aload_n hx hb dX4_bestSwap_92 rfl (lv_at hl 0 rfl) ?_
        refine r_get (C := RX4) (T := TX4) (Nf := 2) hx hb hts hown hK hG (by decide) rfl rfl inX4 1 (by decide) qF_X4_12 rfl dX4_bestSwap_93 ?_
        refine lv_iload hx hb dX4_bestSwap_96 (lv_at hl 5 rfl) ?_
        refine lv_aload_n hx hb dX4_bestSwap_98 rfl (lv_at hl 0 rfl) ?_
        refine r_get (C := RX4) (T := TX4) (Nf := 2) hx hb hts hown hK hG (by decide) rfl rfl inX4 0 (by decide) qF_X4_18 rfl dX4_bestSwap_99 ?_
        refine lv_iload hx hb dX4_bestSwap_102 (lv_at hl 4 rfl) ?_
        refine r_ki (r_run_V (k := 11) (As := [.int v4]) (rest := [.int v5, .ref (ad y 99)]) hx hb hml hown hts hK hN hG (c_X1_townOf l y 11 isC_11 v4 st89 _ hw) (isC.lt isC_11) (isC.e isC_11 y _) rfl rfl qM_X4_72 qI_X1_townOf qS_X1_townOf qN_X1 qC_X1_townOf hd_X1_townOf ⟨Nat.le_of_ble_eq_true rfl, Nat.le_of_ble_eq_true rfl⟩ hl.1 rfl (Nat.le_of_ble_eq_true rfl) dX4_bestSwap_104) hG (fun r104 st104 H locs hw hG => ?_)
        refine r_kv (r_run_V (k := 99) (As := [.int v5, .int r104]) (rest := []) hx hb hml hown hts hK hN hG (c_X1_move l y 99 isC_99 v5 r104 st104 _ hw) (isC.lt isC_99) (isC.e isC_99 y _) rfl rfl qM_X4_75 qI_X1_move qS_X1_move qN_X1 qC_X1_move hd_X1_move ⟨Nat.le_of_ble_eq_true rfl, Nat.le_of_ble_eq_true rfl⟩ hl.1 rfl (Nat.le_of_ble_eq_true rfl) dX4_bestSwap_107) hG (fun st107 H locs hw hG => ?_)
        refine lv_aload_n hx hb dX4_bestSwap_110 rfl (lv_at hl 0 rfl) ?_
        refine r_get (C := RX4) (T := TX4) (Nf := 2) hx hb hts hown hK hG (by decide) rfl rfl inX4 1 (by decide) qF_X4_12 rfl dX4_bestSwap_111 ?_
        refine lv_iload_n hx hb dX4_bestSwap_114 rfl (lv_at hl 1 rfl) ?_
        refine r_ki (r_run_V (k := 99) (As := [.int x1]) (rest := []) hx hb hml hown hts hK hN hG (c_X1_passWeeks l y 99 isC_99 x1 st107 _ hw) (isC.lt isC_99) (isC.e isC_99 y _) rfl rfl qM_X4_25 qI_X1_passWeeks qS_X1_passWeeks qN_X1 qC_X1_passWeeks hd_X1_passWeeks ⟨Nat.le_of_ble_eq_true rfl, Nat.le_of_ble_eq_true rfl⟩ hl.1 rfl (Nat.le_of_ble_eq_true rfl) dX4_bestSwap_115) hG (fun r115 st115 H locs hw hG => ?_)
        refine lv_istore (lv' := [(6, .int r115), (0, .ref (ad y 10)), (1, .int x1), (2, .int v2), (3, .int v3), (4, .int v4), (5, .int v5)]) hx hb dX4_bestSwap_118 hl (Nat.le_of_ble_eq_true rfl) rfl (fun ls hl => ?_)
        refine lv_iload hx hb dX4_bestSwap_120 (lv_at hl 0 rfl) ?_
        refine lv_iload_n hx hb dX4_bestSwap_122 rfl (lv_at hl 4 rfl) ?_
        refine lv_icmp_le (tgt := 137) hx hb dX4_bestSwap_123 (by decide) (fun hc => ?_) (fun hc => ?_)
        · replace hw := hw.1 hc
          exact z_X4_bestSwap_b137 l y x1 C c12 (fun v2 v3 v4 v5 st => w_X4_bestSwap_L30 x1 c12 K n v2 v3 v4 v5 st) K hc12 hc30 v2 v3 v4 v5 st115 hG (lv_sub hl [1, 2, 3, 4, 5, 6] rfl) hw
        · replace hw := hw.2 hc
          refine lv_iload hx hb dX4_bestSwap_126 (lv_at hl 0 rfl) ?_
          refine lv_istore_n (lv' := [(3, .int r115), (6, .int r115), (0, .ref (ad y 10)), (1, .int x1), (2, .int v2), (4, .int v4), (5, .int v5)]) hx hb dX4_bestSwap_128 rfl hl (Nat.le_of_ble_eq_true rfl) rfl (fun ls hl => ?_)
          refine lv_iload hx hb dX4_bestSwap_129 (lv_at hl 5 rfl) ?_
          refine lv_iload hx hb dX4_bestSwap_131 (lv_at hl 6 rfl) ?_
          refine r_ki (r_run_N (As := [.int v4, .int v5]) (rest := []) hx hb hml hown hts hK hN hG (c_X8_twoName l y v4 v5 st115 _ hw) qM_X4_63 qT_X8_twoName qN_X8 qC_X8_twoName hd_X8_twoName ⟨Nat.le_of_ble_eq_true rfl, Nat.le_of_ble_eq_true rfl⟩ hl.1 rfl (Nat.le_of_ble_eq_true rfl) dX4_bestSwap_133) hG (fun r133 st133 H locs hw hG => ?_)
          refine lv_istore_n (lv' := [(2, .int r133), (3, .int r115), (6, .int r115), (0, .ref (ad y 10)), (1, .int x1), (4, .int v4), (5, .int v5)]) hx hb dX4_bestSwap_136 rfl hl (Nat.le_of_ble_eq_true rfl) rfl (fun ls hl => ?_)
          exact z_X4_bestSwap_b137 l y x1 C c12 (fun v2 v3 v4 v5 st => w_X4_bestSwap_L30 x1 c12 K n v2 v3 v4 v5 st) K hc12 hc30 r133 r115 v4 v5 st133 hG (lv_sub hl [3, 4, 0, 1, 5, 6] rfl) hw
set_option maxRecDepth 100000 in
set_option maxHeartbeats 4000000 in
theorem z_X4_bestSwap_L12 {p : Program} {e : Env} {s : State} {m : MethodId} {args : Array Value} {below : List Frame} {meth : Method} {c : Code} (l : Launch) (y : Sy) (x1 : Int32) (C : Sd p s m args meth c cX4_bestSwap 7 RX4 (some .int) y)  (K : Int32 → St → Prop)  : ∀ (n : Nat) (v2 : Int32) (v3 : Int32) (v4 : Int32) (st : St) (H : Heap) (locs : List Loc) (ls : Array Slot), gH 107 enX y st s H locs → lv_has ls 7 [(0, .ref (ad y 10)), (1, .int x1), (2, .int v2), (3, .int v3), (4, .int v4)] → w_X4_bestSwap_L12 x1  K n v2 v3 v4 st → W p l e (rmm 6 138) s m args below meth c H locs 0 0 (MQ below (va_Qi K (gB 107 enX y) (gA 107 y)) args s 0 0 (gA 107 y)) (F0 m 12 ls []) := by
  obtain ⟨hx, hb, hml, hown, hts, hr, hlk, hK, hN⟩ := id C
  intro n
  induction n with
  | zero => intro v2 v3 v4 st H locs ls hG hl hw; exact False.elim hw
  | succ n hc12 =>
    intro v2 v3 v4 st H locs ls hG hl hw
    have hw : w_X4_bestSwap_L12q x1  K (fun v2 v3 v4 st => w_X4_bestSwap_L12 x1  K n v2 v3 v4 st) v2 v3 v4 st := hw
    unfold w_X4_bestSwap_L12q at hw
    refine lv_iload hx hb dX4_bestSwap_12 (lv_at hl 4 rfl) ?_
    refine lv_aload_n hx hb dX4_bestSwap_14 rfl (lv_at hl 0 rfl) ?_
    refine r_get (C := RX4) (T := TX4) (Nf := 2) hx hb hts hown hK hG (by decide) rfl rfl inX4 0 (by decide) qF_X4_18 rfl dX4_bestSwap_15 ?_
    refine r_ki (r_run_V (k := 11) (As := []) (rest := [.int v4]) hx hb hml hown hts hK hN hG (c_X1_keeperCount l y 11 isC_11 st _ hw) (isC.lt isC_11) (isC.e isC_11 y _) rfl rfl qM_X4_69 qI_X1_keeperCount qS_X1_keeperCount qN_X1 qC_X1_keeperCount hd_X1_keeperCount ⟨Nat.le_of_ble_eq_true rfl, Nat.le_of_ble_eq_true rfl⟩ hl.1 rfl (Nat.le_of_ble_eq_true rfl) dX4_bestSwap_18) hG (fun r18 st18 H locs hw hG => ?_)
    refine lv_icmp_ge (tgt := 149) hx hb dX4_bestSwap_21 (by decide) (fun hc => ?_) (fun hc => ?_)
    · replace hw := hw.1 hc
      refine lv_iload_n hx hb dX4_bestSwap_149 rfl (lv_at hl 2 rfl) ?_
      exact r_iret hx hb hr hlk hK hG rfl hw dX4_bestSwap_150
    · replace hw := hw.2 hc
      refine lv_iload hx hb dX4_bestSwap_24 (lv_at hl 4 rfl) ?_
      refine lv_iconst (v := 1) hx hb dX4_bestSwap_26 (by decide) ?_
      refine lv_iadd hx hb dX4_bestSwap_27 ?_
      refine lv_istore (lv' := [(5, .int (v4 + 1)), (0, .ref (ad y 10)), (1, .int x1), (2, .int v2), (3, .int v3), (4, .int v4)]) hx hb dX4_bestSwap_28 hl (Nat.le_of_ble_eq_true rfl) rfl (fun ls hl => ?_)
      obtain ⟨n30, hw⟩ := hw
      exact z_X4_bestSwap_L30 l y x1 C (fun v2 v3 v4 st => w_X4_bestSwap_L12 x1  K n v2 v3 v4 st) K hc12 n30 v2 v3 v4 (v4 + 1) st18 H locs _ hG (lv_sub hl [1, 2, 3, 4, 5, 0] rfl) hw
theorem hd_X4_bestSwap : yX4_bestSwap.cls ≠ "java/lang/invoke/MethodHandle" ∧ yX4_bestSwap.cls ≠ "java/lang/invoke/VarHandle" ∧ (parseMethodDescriptor yX4_bestSwap.desc).map (fun d => d.parameters.length) = some 1 := by decide +kernel
set_option maxRecDepth 100000 in
set_option maxHeartbeats 4000000 in
theorem c_X4_bestSwap (l : Launch) (y : Sy) (x1 : Int32) (st : St) (K : Int32 → St → Prop) (hw : w_X4_bestSwap x1 st K) : Ci 107 enX l yX4_bestSwap cX4_bestSwap 7 (some .int) 6 138 y [.ref (ad y 10), .int x1] st K := by
  refine ent (by decide) (Nat.le_of_ble_eq_true rfl) ?_
  intro p e s m below meth c C hG ls hl
  have hl : lv_has ls 7 [(0, .ref (ad y 10)), (1, .int x1)] := hl
  generalize ([.ref (ad y 10), .int x1] : List Value).toArray = args at C ⊢
  have C : Sd p s m args meth c cX4_bestSwap 7 RX4 (some .int) y := C
  obtain ⟨hx, hb, hml, hown, hts, hr, hlk, hK, hN⟩ := id C
  generalize s.heap = H at hG ⊢
  generalize ([] : List Loc) = locs at hG ⊢
  unfold w_X4_bestSwap at hw
  refine lv_bipush (v := (-9)) hx hb dX4_bestSwap_0 (by decide) ?_
  refine lv_istore_n (lv' := [(2, .int (-9)), (0, .ref (ad y 10)), (1, .int x1)]) hx hb dX4_bestSwap_2 rfl hl (Nat.le_of_ble_eq_true rfl) rfl (fun ls hl => ?_)
  refine lv_aload_n hx hb dX4_bestSwap_3 rfl (lv_at hl 1 rfl) ?_
  refine lv_iload_n hx hb dX4_bestSwap_4 rfl (lv_at hl 2 rfl) ?_
  refine r_ki (r_run_V (k := 10) (As := [.int x1]) (rest := []) hx hb hml hown hts hK hN hG (c_X4_openAsAllIs l y x1 st _ hw) (by decide) rfl rfl rfl qM_X4_66 qI_X4_openAsAllIs qS_X4_openAsAllIs qN_X4 qC_X4_openAsAllIs hd_X4_openAsAllIs ⟨Nat.le_of_ble_eq_true rfl, Nat.le_of_ble_eq_true rfl⟩ hl.1 rfl (Nat.le_of_ble_eq_true rfl) dX4_bestSwap_5) hG (fun r5 st5 H locs hw hG => ?_)
  refine lv_istore_n (lv' := [(3, .int r5), (2, .int (-9)), (0, .ref (ad y 10)), (1, .int x1)]) hx hb dX4_bestSwap_8 rfl hl (Nat.le_of_ble_eq_true rfl) rfl (fun ls hl => ?_)
  refine lv_iconst (v := 0) hx hb dX4_bestSwap_9 (by decide) ?_
  refine lv_istore (lv' := [(4, .int 0), (3, .int r5), (2, .int (-9)), (0, .ref (ad y 10)), (1, .int x1)]) hx hb dX4_bestSwap_10 hl (Nat.le_of_ble_eq_true rfl) rfl (fun ls hl => ?_)
  obtain ⟨n12, hw⟩ := hw
  exact z_X4_bestSwap_L12 l y x1 C  K  n12 (-9) r5 0 st5 H locs _ hG (lv_sub hl [3, 4, 2, 1, 0] rfl) hw
theorem hd_X4_openPlaced : yX4_openPlaced.cls ≠ "java/lang/invoke/MethodHandle" ∧ yX4_openPlaced.cls ≠ "java/lang/invoke/VarHandle" ∧ (parseMethodDescriptor yX4_openPlaced.desc).map (fun d => d.parameters.length) = some 5 := by decide +kernel
set_option maxRecDepth 100000 in
set_option maxHeartbeats 4000000 in
theorem c_X4_openPlaced (l : Launch) (y : Sy) (x1 : Int32) (x2 : Int32) (x3 : Int32) (x4 : Int32) (x5 : Int32) (st : St) (K : Int32 → St → Prop) (hw : w_X4_openPlaced x1 x2 x3 x4 x5 st K) : Ci 107 enX l yX4_openPlaced cX4_openPlaced 6 (some .int) 5 117 y [.ref (ad y 10), .int x1, .int x2, .int x3, .int x4, .int x5] st K := by
  refine ent (by decide) (Nat.le_of_ble_eq_true rfl) ?_
  intro p e s m below meth c C hG ls hl
  have hl : lv_has ls 6 [(0, .ref (ad y 10)), (1, .int x1), (2, .int x2), (3, .int x3), (4, .int x4), (5, .int x5)] := hl
  generalize ([.ref (ad y 10), .int x1, .int x2, .int x3, .int x4, .int x5] : List Value).toArray = args at C ⊢
  have C : Sd p s m args meth c cX4_openPlaced 6 RX4 (some .int) y := C
  obtain ⟨hx, hb, hml, hown, hts, hr, hlk, hK, hN⟩ := id C
  generalize s.heap = H at hG ⊢
  generalize ([] : List Loc) = locs at hG ⊢
  unfold w_X4_openPlaced at hw
  refine lv_aload_n hx hb dX4_openPlaced_0 rfl (lv_at hl 0 rfl) ?_
  refine r_get (C := RX4) (T := TX4) (Nf := 2) hx hb hts hown hK hG (by decide) rfl rfl inX4 1 (by decide) qF_X4_12 rfl dX4_openPlaced_1 ?_
  refine lv_aload_n hx hb dX4_openPlaced_4 rfl (lv_at hl 0 rfl) ?_
  refine r_get (C := RX4) (T := TX4) (Nf := 2) hx hb hts hown hK hG (by decide) rfl rfl inX4 0 (by decide) qF_X4_18 rfl dX4_openPlaced_5 ?_
  refine r_kv (r_run_V (k := 99) (As := [.ref (ad y 11)]) (rest := []) hx hb hml hown hts hK hN hG (c_X1_become l y 99 isC_99 11 isC_11 st _ hw) (isC.lt isC_99) (isC.e isC_99 y _) rfl rfl qM_X4_21 qI_X1_become qS_X1_become qN_X1 qC_X1_become hd_X1_become ⟨Nat.le_of_ble_eq_true rfl, Nat.le_of_ble_eq_true rfl⟩ hl.1 rfl (Nat.le_of_ble_eq_true rfl) dX4_openPlaced_8) hG (fun st8 H locs hw hG => ?_)
  refine lv_aload_n hx hb dX4_openPlaced_11 rfl (lv_at hl 0 rfl) ?_
  refine r_get (C := RX4) (T := TX4) (Nf := 2) hx hb hts hown hK hG (by decide) rfl rfl inX4 1 (by decide) qF_X4_12 rfl dX4_openPlaced_12 ?_
  refine lv_iload_n hx hb dX4_openPlaced_15 rfl (lv_at hl 1 rfl) ?_
  refine lv_iload hx hb dX4_openPlaced_16 (lv_at hl 5 rfl) ?_
  refine lv_bipush (v := 100) hx hb dX4_openPlaced_18 (by decide) ?_
  refine lv_idiv hx hb dX4_openPlaced_20 (by decide) ?_
  refine r_kv (r_run_V (k := 99) (As := [.int x1, .int (x5 / 100)]) (rest := []) hx hb hml hown hts hK hN hG (c_X1_move l y 99 isC_99 x1 (x5 / 100) st8 _ hw) (isC.lt isC_99) (isC.e isC_99 y _) rfl rfl qM_X4_75 qI_X1_move qS_X1_move qN_X1 qC_X1_move hd_X1_move ⟨Nat.le_of_ble_eq_true rfl, Nat.le_of_ble_eq_true rfl⟩ hl.1 rfl (Nat.le_of_ble_eq_true rfl) dX4_openPlaced_21) hG (fun st21 H locs hw hG => ?_)
  refine lv_aload_n hx hb dX4_openPlaced_24 rfl (lv_at hl 0 rfl) ?_
  refine r_get (C := RX4) (T := TX4) (Nf := 2) hx hb hts hown hK hG (by decide) rfl rfl inX4 1 (by decide) qF_X4_12 rfl dX4_openPlaced_25 ?_
  refine lv_iload_n hx hb dX4_openPlaced_28 rfl (lv_at hl 2 rfl) ?_
  refine lv_iload hx hb dX4_openPlaced_29 (lv_at hl 5 rfl) ?_
  refine lv_bipush (v := 10) hx hb dX4_openPlaced_31 (by decide) ?_
  refine lv_idiv hx hb dX4_openPlaced_33 (by decide) ?_
  refine lv_bipush (v := 10) hx hb dX4_openPlaced_34 (by decide) ?_
  refine lv_irem hx hb dX4_openPlaced_36 (by decide) ?_
  refine r_kv (r_run_V (k := 99) (As := [.int x2, .int ((x5 / 10) - (x5 / 10) / 10 * 10)]) (rest := []) hx hb hml hown hts hK hN hG (c_X1_move l y 99 isC_99 x2 ((x5 / 10) - (x5 / 10) / 10 * 10) st21 _ hw) (isC.lt isC_99) (isC.e isC_99 y _) rfl rfl qM_X4_75 qI_X1_move qS_X1_move qN_X1 qC_X1_move hd_X1_move ⟨Nat.le_of_ble_eq_true rfl, Nat.le_of_ble_eq_true rfl⟩ hl.1 rfl (Nat.le_of_ble_eq_true rfl) dX4_openPlaced_37) hG (fun st37 H locs hw hG => ?_)
  refine lv_aload_n hx hb dX4_openPlaced_40 rfl (lv_at hl 0 rfl) ?_
  refine r_get (C := RX4) (T := TX4) (Nf := 2) hx hb hts hown hK hG (by decide) rfl rfl inX4 1 (by decide) qF_X4_12 rfl dX4_openPlaced_41 ?_
  refine lv_iload_n hx hb dX4_openPlaced_44 rfl (lv_at hl 3 rfl) ?_
  refine lv_iload hx hb dX4_openPlaced_45 (lv_at hl 5 rfl) ?_
  refine lv_bipush (v := 10) hx hb dX4_openPlaced_47 (by decide) ?_
  refine lv_irem hx hb dX4_openPlaced_49 (by decide) ?_
  refine r_kv (r_run_V (k := 99) (As := [.int x3, .int (x5 - x5 / 10 * 10)]) (rest := []) hx hb hml hown hts hK hN hG (c_X1_move l y 99 isC_99 x3 (x5 - x5 / 10 * 10) st37 _ hw) (isC.lt isC_99) (isC.e isC_99 y _) rfl rfl qM_X4_75 qI_X1_move qS_X1_move qN_X1 qC_X1_move hd_X1_move ⟨Nat.le_of_ble_eq_true rfl, Nat.le_of_ble_eq_true rfl⟩ hl.1 rfl (Nat.le_of_ble_eq_true rfl) dX4_openPlaced_50) hG (fun st50 H locs hw hG => ?_)
  refine lv_aload_n hx hb dX4_openPlaced_53 rfl (lv_at hl 0 rfl) ?_
  refine r_get (C := RX4) (T := TX4) (Nf := 2) hx hb hts hown hK hG (by decide) rfl rfl inX4 1 (by decide) qF_X4_12 rfl dX4_openPlaced_54 ?_
  refine lv_iload hx hb dX4_openPlaced_57 (lv_at hl 4 rfl) ?_
  refine r_ki (r_run_V (k := 99) (As := [.int x4]) (rest := []) hx hb hml hown hts hK hN hG (c_X1_passWeeks l y 99 isC_99 x4 st50 _ hw) (isC.lt isC_99) (isC.e isC_99 y _) rfl rfl qM_X4_25 qI_X1_passWeeks qS_X1_passWeeks qN_X1 qC_X1_passWeeks hd_X1_passWeeks ⟨Nat.le_of_ble_eq_true rfl, Nat.le_of_ble_eq_true rfl⟩ hl.1 rfl (Nat.le_of_ble_eq_true rfl) dX4_openPlaced_59) hG (fun r59 st59 H locs hw hG => ?_)
  exact r_iret hx hb hr hlk hK hG rfl hw dX4_openPlaced_62
set_option maxRecDepth 100000 in
set_option maxHeartbeats 4000000 in
theorem z_X4_bestPlaces_b69 {p : Program} {e : Env} {s : State} {m : MethodId} {args : Array Value} {below : List Frame} {meth : Method} {c : Code} (l : Launch) (y : Sy) (x1 : Int32) (x2 : Int32) (x3 : Int32) (x4 : Int32) (C : Sd p s m args meth c cX4_bestPlaces 10 RX4 (some .int) y) (c9 : Int32 → Int32 → Int32 → St → Prop) (K : Int32 → St → Prop) (hc9 : ∀ (v5 : Int32) (v6 : Int32) (v7 : Int32) (st : St) (H : Heap) (locs : List Loc) (ls : Array Slot), gH 107 enX y st s H locs → lv_has ls 10 [(0, .ref (ad y 10)), (1, .int x1), (2, .int x2), (3, .int x3), (4, .int x4), (5, .int v5), (6, .int v6), (7, .int v7)] → c9 v5 v6 v7 st → W p l e (rmm 6 142) s m args below meth c H locs 0 0 (MQ below (va_Qi K (gB 107 enX y) (gA 107 y)) args s 0 0 (gA 107 y)) (F0 m 9 ls [])) (v5 : Int32) (v6 : Int32) (v7 : Int32) (st : St) {H : Heap} {locs : List Loc} {ls : Array Slot} (hG : gH 107 enX y st s H locs) (hl : lv_has ls 10 [(0, .ref (ad y 10)), (1, .int x1), (2, .int x2), (3, .int x3), (4, .int x4), (5, .int v5), (6, .int v6), (7, .int v7)]) (hw : w_X4_bestPlaces_b69 x1 x2 x3 x4 c9 K v5 v6 v7 st) : W p l e (rmm 6 142) s m args below meth c H locs 0 0 (MQ below (va_Qi K (gB 107 enX y) (gA 107 y)) args s 0 0 (gA 107 y)) (F0 m 69 ls []) := by
  obtain ⟨hx, hb, hml, hown, hts, hr, hlk, hK, hN⟩ := id C
  unfold w_X4_bestPlaces_b69 at hw
  refine lv_iinc (v := (v7 + 1)) (lv' := [(7, .int (v7 + 1)), (0, .ref (ad y 10)), (1, .int x1), (2, .int x2), (3, .int x3), (4, .int x4), (5, .int v5), (6, .int v6)]) hx hb dX4_bestPlaces_69 hl (k := 7) rfl rfl (Nat.le_of_ble_eq_true rfl) rfl (fun ls hl => ?_)
  refine lv_goto (tgt := 9) hx hb dX4_bestPlaces_72 (by decide) ?_
  exact hc9 v5 v6 (v7 + 1) st H locs _ hG (lv_sub hl [1, 2, 3, 4, 5, 6, 7, 0] rfl) hw
set_option maxRecDepth 100000 in
set_option maxHeartbeats 4000000 in
theorem z_X4_bestPlaces_L9 {p : Program} {e : Env} {s : State} {m : MethodId} {args : Array Value} {below : List Frame} {meth : Method} {c : Code} (l : Launch) (y : Sy) (x1 : Int32) (x2 : Int32) (x3 : Int32) (x4 : Int32) (C : Sd p s m args meth c cX4_bestPlaces 10 RX4 (some .int) y)  (K : Int32 → St → Prop)  : ∀ (n : Nat) (v5 : Int32) (v6 : Int32) (v7 : Int32) (st : St) (H : Heap) (locs : List Loc) (ls : Array Slot), gH 107 enX y st s H locs → lv_has ls 10 [(0, .ref (ad y 10)), (1, .int x1), (2, .int x2), (3, .int x3), (4, .int x4), (5, .int v5), (6, .int v6), (7, .int v7)] → w_X4_bestPlaces_L9 x1 x2 x3 x4  K n v5 v6 v7 st → W p l e (rmm 6 142) s m args below meth c H locs 0 0 (MQ below (va_Qi K (gB 107 enX y) (gA 107 y)) args s 0 0 (gA 107 y)) (F0 m 9 ls []) := by
  obtain ⟨hx, hb, hml, hown, hts, hr, hlk, hK, hN⟩ := id C
  intro n
  induction n with
  | zero => intro v5 v6 v7 st H locs ls hG hl hw; exact False.elim hw
  | succ n hc9 =>
    intro v5 v6 v7 st H locs ls hG hl hw
    have hw : w_X4_bestPlaces_L9q x1 x2 x3 x4  K (fun v5 v6 v7 st => w_X4_bestPlaces_L9 x1 x2 x3 x4  K n v5 v6 v7 st) v5 v6 v7 st := hw
    unfold w_X4_bestPlaces_L9q at hw
    refine lv_iload hx hb dX4_bestPlaces_9 (lv_at hl 7 rfl) ?_
    refine lv_bipush (v := 64) hx hb dX4_bestPlaces_11 (by decide) ?_
    refine lv_icmp_ge (tgt := 75) hx hb dX4_bestPlaces_13 (by decide) (fun hc => ?_) (fun hc => ?_)
    · replace hw := hw.1 hc
      refine lv_iload hx hb dX4_bestPlaces_75 (lv_at hl 5 rfl) ?_
      exact r_iret hx hb hr hlk hK hG rfl hw dX4_bestPlaces_77
    · replace hw := hw.2 hc
      refine lv_iload hx hb dX4_bestPlaces_16 (lv_at hl 7 rfl) ?_
      refine lv_bipush (v := 16) hx hb dX4_bestPlaces_18 (by decide) ?_
      refine lv_idiv hx hb dX4_bestPlaces_20 (by decide) ?_
      refine lv_bipush (v := 100) hx hb dX4_bestPlaces_21 (by decide) ?_
      refine lv_imul hx hb dX4_bestPlaces_23 ?_
      refine lv_iload hx hb dX4_bestPlaces_24 (lv_at hl 7 rfl) ?_
      refine lv_iconst (v := 4) hx hb dX4_bestPlaces_26 (by decide) ?_
      refine lv_idiv hx hb dX4_bestPlaces_27 (by decide) ?_
      refine lv_iconst (v := 4) hx hb dX4_bestPlaces_28 (by decide) ?_
      refine lv_irem hx hb dX4_bestPlaces_29 (by decide) ?_
      refine lv_bipush (v := 10) hx hb dX4_bestPlaces_30 (by decide) ?_
      refine lv_imul hx hb dX4_bestPlaces_32 ?_
      refine lv_iadd hx hb dX4_bestPlaces_33 ?_
      refine lv_iload hx hb dX4_bestPlaces_34 (lv_at hl 7 rfl) ?_
      refine lv_iconst (v := 4) hx hb dX4_bestPlaces_36 (by decide) ?_
      refine lv_irem hx hb dX4_bestPlaces_37 (by decide) ?_
      refine lv_iadd hx hb dX4_bestPlaces_38 ?_
      refine lv_istore (lv' := [(8, .int ((((v7 / 16) * 100) + (((v7 / 4) - (v7 / 4) / 4 * 4) * 10)) + (v7 - v7 / 4 * 4))), (0, .ref (ad y 10)), (1, .int x1), (2, .int x2), (3, .int x3), (4, .int x4), (5, .int v5), (6, .int v6), (7, .int v7)]) hx hb dX4_bestPlaces_39 hl (Nat.le_of_ble_eq_true rfl) rfl (fun ls hl => ?_)
      refine lv_aload_n hx hb dX4_bestPlaces_41 rfl (lv_at hl 1 rfl) ?_
      refine lv_iload_n hx hb dX4_bestPlaces_42 rfl (lv_at hl 2 rfl) ?_
      refine lv_iload_n hx hb dX4_bestPlaces_43 rfl (lv_at hl 3 rfl) ?_
      refine lv_iload_n hx hb dX4_bestPlaces_44 rfl (lv_at hl 4 rfl) ?_
      refine lv_iload hx hb dX4_bestPlaces_45 (lv_at hl 5 rfl) ?_
      refine lv_iload hx hb dX4_bestPlaces_47 (lv_at hl 0 rfl) ?_
      refine r_ki (r_run_V (k := 10) (As := [.int x1, .int x2, .int x3, .int x4, .int ((((v7 / 16) * 100) + (((v7 / 4) - (v7 / 4) / 4 * 4) * 10)) + (v7 - v7 / 4 * 4))]) (rest := []) hx hb hml hown hts hK hN hG (c_X4_openPlaced l y x1 x2 x3 x4 ((((v7 / 16) * 100) + (((v7 / 4) - (v7 / 4) / 4 * 4) * 10)) + (v7 - v7 / 4 * 4)) st _ hw) (by decide) rfl rfl rfl qM_X4_79 qI_X4_openPlaced qS_X4_openPlaced qN_X4 qC_X4_openPlaced hd_X4_openPlaced ⟨Nat.le_of_ble_eq_true rfl, Nat.le_of_ble_eq_true rfl⟩ hl.1 rfl (Nat.le_of_ble_eq_true rfl) dX4_bestPlaces_49) hG (fun r49 st49 H locs hw hG => ?_)
      refine lv_istore (lv' := [(9, .int r49), (8, .int ((((v7 / 16) * 100) + (((v7 / 4) - (v7 / 4) / 4 * 4) * 10)) + (v7 - v7 / 4 * 4))), (0, .ref (ad y 10)), (1, .int x1), (2, .int x2), (3, .int x3), (4, .int x4), (5, .int v5), (6, .int v6), (7, .int v7)]) hx hb dX4_bestPlaces_52 hl (Nat.le_of_ble_eq_true rfl) rfl (fun ls hl => ?_)
      refine lv_iload hx hb dX4_bestPlaces_54 (lv_at hl 0 rfl) ?_
      refine lv_iload hx hb dX4_bestPlaces_56 (lv_at hl 8 rfl) ?_
      refine lv_icmp_le (tgt := 69) hx hb dX4_bestPlaces_58 (by decide) (fun hc => ?_) (fun hc => ?_)
      · replace hw := hw.1 hc
        exact z_X4_bestPlaces_b69 l y x1 x2 x3 x4 C (fun v5 v6 v7 st => w_X4_bestPlaces_L9 x1 x2 x3 x4  K n v5 v6 v7 st) K hc9 v5 v6 v7 st49 hG (lv_sub hl [2, 3, 4, 5, 6, 7, 8, 9] rfl) hw
      · replace hw := hw.2 hc
        refine lv_iload hx hb dX4_bestPlaces_61 (lv_at hl 0 rfl) ?_
        refine lv_istore (lv' := [(6, .int r49), (9, .int r49), (8, .int ((((v7 / 16) * 100) + (((v7 / 4) - (v7 / 4) / 4 * 4) * 10)) + (v7 - v7 / 4 * 4))), (0, .ref (ad y 10)), (1, .int x1), (2, .int x2), (3, .int x3), (4, .int x4), (5, .int v5), (7, .int v7)]) hx hb dX4_bestPlaces_63 hl (Nat.le_of_ble_eq_true rfl) rfl (fun ls hl => ?_)
        refine lv_iload hx hb dX4_bestPlaces_65 (lv_at hl 2 rfl) ?_
        refine lv_istore (lv' := [(5, .int ((((v7 / 16) * 100) + (((v7 / 4) - (v7 / 4) / 4 * 4) * 10)) + (v7 - v7 / 4 * 4))), (6, .int r49), (9, .int r49), (8, .int ((((v7 / 16) * 100) + (((v7 / 4) - (v7 / 4) / 4 * 4) * 10)) + (v7 - v7 / 4 * 4))), (0, .ref (ad y 10)), (1, .int x1), (2, .int x2), (3, .int x3), (4, .int x4), (7, .int v7)]) hx hb dX4_bestPlaces_67 hl (Nat.le_of_ble_eq_true rfl) rfl (fun ls hl => ?_)
        exact z_X4_bestPlaces_b69 l y x1 x2 x3 x4 C (fun v5 v6 v7 st => w_X4_bestPlaces_L9 x1 x2 x3 x4  K n v5 v6 v7 st) K hc9 ((((v7 / 16) * 100) + (((v7 / 4) - (v7 / 4) / 4 * 4) * 10)) + (v7 - v7 / 4 * 4)) r49 v7 st49 hG (lv_sub hl [4, 5, 6, 7, 8, 0, 1, 9] rfl) hw
theorem hd_X4_bestPlaces : yX4_bestPlaces.cls ≠ "java/lang/invoke/MethodHandle" ∧ yX4_bestPlaces.cls ≠ "java/lang/invoke/VarHandle" ∧ (parseMethodDescriptor yX4_bestPlaces.desc).map (fun d => d.parameters.length) = some 4 := by decide +kernel
set_option maxRecDepth 100000 in
set_option maxHeartbeats 4000000 in
theorem c_X4_bestPlaces (l : Launch) (y : Sy) (x1 : Int32) (x2 : Int32) (x3 : Int32) (x4 : Int32) (st : St) (K : Int32 → St → Prop) (hw : w_X4_bestPlaces x1 x2 x3 x4 st K) : Ci 107 enX l yX4_bestPlaces cX4_bestPlaces 10 (some .int) 6 142 y [.ref (ad y 10), .int x1, .int x2, .int x3, .int x4] st K := by
  refine ent (by decide) (Nat.le_of_ble_eq_true rfl) ?_
  intro p e s m below meth c C hG ls hl
  have hl : lv_has ls 10 [(0, .ref (ad y 10)), (1, .int x1), (2, .int x2), (3, .int x3), (4, .int x4)] := hl
  generalize ([.ref (ad y 10), .int x1, .int x2, .int x3, .int x4] : List Value).toArray = args at C ⊢
  have C : Sd p s m args meth c cX4_bestPlaces 10 RX4 (some .int) y := C
  obtain ⟨hx, hb, hml, hown, hts, hr, hlk, hK, hN⟩ := id C
  generalize s.heap = H at hG ⊢
  generalize ([] : List Loc) = locs at hG ⊢
  unfold w_X4_bestPlaces at hw
  refine lv_iconst (v := 0) hx hb dX4_bestPlaces_0 (by decide) ?_
  refine lv_istore (lv' := [(5, .int 0), (0, .ref (ad y 10)), (1, .int x1), (2, .int x2), (3, .int x3), (4, .int x4)]) hx hb dX4_bestPlaces_1 hl (Nat.le_of_ble_eq_true rfl) rfl (fun ls hl => ?_)
  refine lv_iconst (v := (-1)) hx hb dX4_bestPlaces_3 (by decide) ?_
  refine lv_istore (lv' := [(6, .int (-1)), (5, .int 0), (0, .ref (ad y 10)), (1, .int x1), (2, .int x2), (3, .int x3), (4, .int x4)]) hx hb dX4_bestPlaces_4 hl (Nat.le_of_ble_eq_true rfl) rfl (fun ls hl => ?_)
  refine lv_iconst (v := 0) hx hb dX4_bestPlaces_6 (by decide) ?_
  refine lv_istore (lv' := [(7, .int 0), (6, .int (-1)), (5, .int 0), (0, .ref (ad y 10)), (1, .int x1), (2, .int x2), (3, .int x3), (4, .int x4)]) hx hb dX4_bestPlaces_7 hl (Nat.le_of_ble_eq_true rfl) rfl (fun ls hl => ?_)
  obtain ⟨n9, hw⟩ := hw
  exact z_X4_bestPlaces_L9 l y x1 x2 x3 x4 C  K  n9 0 (-1) 0 st H locs _ hG (lv_sub hl [3, 4, 5, 6, 7, 2, 1, 0] rfl) hw
set_option maxRecDepth 100000 in
set_option maxHeartbeats 4000000 in
theorem z_X4_openKept_b41 {p : Program} {e : Env} {s : State} {m : MethodId} {args : Array Value} {below : List Frame} {meth : Method} {c : Code} (l : Launch) (y : Sy) (x1 : Int32) (x2 : Int32) (C : Sd p s m args meth c cX4_openKept 4 RX4 (some .int) y) (c13 : Int32 → St → Prop) (K : Int32 → St → Prop) (hc13 : ∀ (v3 : Int32) (st : St) (H : Heap) (locs : List Loc) (ls : Array Slot), gH 107 enX y st s H locs → lv_has ls 4 [(0, .ref (ad y 10)), (1, .int x1), (2, .int x2), (3, .int v3)] → c13 v3 st → W p l e (rmm 5 117) s m args below meth c H locs 0 0 (MQ below (va_Qi K (gB 107 enX y) (gA 107 y)) args s 0 0 (gA 107 y)) (F0 m 13 ls [])) (v3 : Int32) (st : St) {H : Heap} {locs : List Loc} {ls : Array Slot} (hG : gH 107 enX y st s H locs) (hl : lv_has ls 4 [(0, .ref (ad y 10)), (1, .int x1), (2, .int x2), (3, .int v3)]) (hw : w_X4_openKept_b41 x1 x2 c13 K v3 st) : W p l e (rmm 5 117) s m args below meth c H locs 0 0 (MQ below (va_Qi K (gB 107 enX y) (gA 107 y)) args s 0 0 (gA 107 y)) (F0 m 41 ls []) := by
  obtain ⟨hx, hb, hml, hown, hts, hr, hlk, hK, hN⟩ := id C
  unfold w_X4_openKept_b41 at hw
  refine lv_iinc (v := (v3 + 1)) (lv' := [(3, .int (v3 + 1)), (0, .ref (ad y 10)), (1, .int x1), (2, .int x2)]) hx hb dX4_openKept_41 hl (k := 3) rfl rfl (Nat.le_of_ble_eq_true rfl) rfl (fun ls hl => ?_)
  refine lv_goto (tgt := 13) hx hb dX4_openKept_44 (by decide) ?_
  exact hc13 (v3 + 1) st H locs _ hG (lv_sub hl [1, 2, 3, 0] rfl) hw
set_option maxRecDepth 100000 in
set_option maxHeartbeats 4000000 in
theorem z_X4_openKept_b47 {p : Program} {e : Env} {s : State} {m : MethodId} {args : Array Value} {below : List Frame} {meth : Method} {c : Code} (l : Launch) (y : Sy) (x1 : Int32) (x2 : Int32) (C : Sd p s m args meth c cX4_openKept 4 RX4 (some .int) y)  (K : Int32 → St → Prop)   (st : St) {H : Heap} {locs : List Loc} {ls : Array Slot} (hG : gH 107 enX y st s H locs) (hl : lv_has ls 4 [(0, .ref (ad y 10)), (2, .int x2)]) (hw : w_X4_openKept_b47 x1 x2  K  st) : W p l e (rmm 5 117) s m args below meth c H locs 0 0 (MQ below (va_Qi K (gB 107 enX y) (gA 107 y)) args s 0 0 (gA 107 y)) (F0 m 47 ls []) := by
  obtain ⟨hx, hb, hml, hown, hts, hr, hlk, hK, hN⟩ := id C
  unfold w_X4_openKept_b47 at hw
  refine lv_aload_n hx hb dX4_openKept_47 rfl (lv_at hl 0 rfl) ?_
  refine r_get (C := RX4) (T := TX4) (Nf := 2) hx hb hts hown hK hG (by decide) rfl rfl inX4 1 (by decide) qF_X4_12 rfl dX4_openKept_48 ?_
  refine lv_iload_n hx hb dX4_openKept_51 rfl (lv_at hl 1 rfl) ?_
  refine r_ki (r_run_V (k := 99) (As := [.int x2]) (rest := []) hx hb hml hown hts hK hN hG (c_X1_passWeeks l y 99 isC_99 x2 st _ hw) (isC.lt isC_99) (isC.e isC_99 y _) rfl rfl qM_X4_25 qI_X1_passWeeks qS_X1_passWeeks qN_X1 qC_X1_passWeeks hd_X1_passWeeks ⟨Nat.le_of_ble_eq_true rfl, Nat.le_of_ble_eq_true rfl⟩ hl.1 rfl (Nat.le_of_ble_eq_true rfl) dX4_openKept_52) hG (fun r52 st52 H locs hw hG => ?_)
  exact r_iret hx hb hr hlk hK hG rfl hw dX4_openKept_55
set_option maxRecDepth 100000 in
set_option maxHeartbeats 4000000 in
theorem z_X4_openKept_L13 {p : Program} {e : Env} {s : State} {m : MethodId} {args : Array Value} {below : List Frame} {meth : Method} {c : Code} (l : Launch) (y : Sy) (x1 : Int32) (x2 : Int32) (C : Sd p s m args meth c cX4_openKept 4 RX4 (some .int) y)  (K : Int32 → St → Prop)  : ∀ (n : Nat) (v3 : Int32) (st : St) (H : Heap) (locs : List Loc) (ls : Array Slot), gH 107 enX y st s H locs → lv_has ls 4 [(0, .ref (ad y 10)), (1, .int x1), (2, .int x2), (3, .int v3)] → w_X4_openKept_L13 x1 x2  K n v3 st → W p l e (rmm 5 117) s m args below meth c H locs 0 0 (MQ below (va_Qi K (gB 107 enX y) (gA 107 y)) args s 0 0 (gA 107 y)) (F0 m 13 ls []) := by
  obtain ⟨hx, hb, hml, hown, hts, hr, hlk, hK, hN⟩ := id C
  intro n
  induction n with
  | zero => intro v3 st H locs ls hG hl hw; exact False.elim hw
  | succ n hc13 =>
    intro v3 st H locs ls hG hl hw
    have hw : w_X4_openKept_L13q x1 x2  K (fun v3 st => w_X4_openKept_L13 x1 x2  K n v3 st) v3 st := hw
    unfold w_X4_openKept_L13q at hw
    refine lv_iload_n hx hb dX4_openKept_13 rfl (lv_at hl 3 rfl) ?_
    refine lv_aload_n hx hb dX4_openKept_14 rfl (lv_at hl 0 rfl) ?_
    refine r_get (C := RX4) (T := TX4) (Nf := 2) hx hb hts hown hK hG (by decide) rfl rfl inX4 0 (by decide) qF_X4_18 rfl dX4_openKept_15 ?_
    refine r_ki (r_run_V (k := 11) (As := []) (rest := [.int v3]) hx hb hml hown hts hK hN hG (c_X1_keeperCount l y 11 isC_11 st _ hw) (isC.lt isC_11) (isC.e isC_11 y _) rfl rfl qM_X4_69 qI_X1_keeperCount qS_X1_keeperCount qN_X1 qC_X1_keeperCount hd_X1_keeperCount ⟨Nat.le_of_ble_eq_true rfl, Nat.le_of_ble_eq_true rfl⟩ hl.1 rfl (Nat.le_of_ble_eq_true rfl) dX4_openKept_18) hG (fun r18 st18 H locs hw hG => ?_)
    refine lv_icmp_ge (tgt := 47) hx hb dX4_openKept_21 (by decide) (fun hc => ?_) (fun hc => ?_)
    · replace hw := hw.1 hc
      exact z_X4_openKept_b47 l y x1 x2 C  K  st18 hG (lv_sub hl [0, 2] rfl) hw
    · replace hw := hw.2 hc
      refine lv_iload_n hx hb dX4_openKept_24 rfl (lv_at hl 1 rfl) ?_
      refine lv_iload_n hx hb dX4_openKept_25 rfl (lv_at hl 3 rfl) ?_
      refine r_ki (r_run_N (As := [.int x1, .int v3]) (rest := []) hx hb hml hown hts hK hN hG (c_X8_bit l y x1 v3 st18 _ hw) qM_X4_56 qT_X8_bit qN_X8 qC_X8_bit hd_X8_bit ⟨Nat.le_of_ble_eq_true rfl, Nat.le_of_ble_eq_true rfl⟩ hl.1 rfl (Nat.le_of_ble_eq_true rfl) dX4_openKept_26) hG (fun r26 st26 H locs hw hG => ?_)
      refine lv_if_ne (tgt := 41) hx hb dX4_openKept_29 (by decide) (fun hc => ?_) (fun hc => ?_)
      · replace hw := hw.1 hc
        exact z_X4_openKept_b41 l y x1 x2 C (fun v3 st => w_X4_openKept_L13 x1 x2  K n v3 st) K hc13 v3 st26 hG (lv_sub hl [0, 1, 2, 3] rfl) hw
      · replace hw := hw.2 hc
        refine lv_aload_n hx hb dX4_openKept_32 rfl (lv_at hl 0 rfl) ?_
        refine r_get (C := RX4) (T := TX4) (Nf := 2) hx hb hts hown hK hG (by decide) rfl rfl inX4 1 (by decide) qF_X4_12 rfl dX4_openKept_33 ?_
        refine lv_iload_n hx hb dX4_openKept_36 rfl (lv_at hl 3 rfl) ?_
        refine lv_iconst (v := (-1)) hx hb dX4_openKept_37 (by decide) ?_
        refine r_kv (r_run_V (k := 99) (As := [.int v3, .int (-1)]) (rest := []) hx hb hml hown hts hK hN hG (c_X1_move l y 99 isC_99 v3 (-1) st26 _ hw) (isC.lt isC_99) (isC.e isC_99 y _) rfl rfl qM_X4_75 qI_X1_move qS_X1_move qN_X1 qC_X1_move hd_X1_move ⟨Nat.le_of_ble_eq_true rfl, Nat.le_of_ble_eq_true rfl⟩ hl.1 rfl (Nat.le_of_ble_eq_true rfl) dX4_openKept_38) hG (fun st38 H locs hw hG => ?_)
        exact z_X4_openKept_b41 l y x1 x2 C (fun v3 st => w_X4_openKept_L13 x1 x2  K n v3 st) K hc13 v3 st38 hG (lv_sub hl [0, 1, 2, 3] rfl) hw
theorem hd_X4_openKept : yX4_openKept.cls ≠ "java/lang/invoke/MethodHandle" ∧ yX4_openKept.cls ≠ "java/lang/invoke/VarHandle" ∧ (parseMethodDescriptor yX4_openKept.desc).map (fun d => d.parameters.length) = some 2 := by decide +kernel
set_option maxRecDepth 100000 in
set_option maxHeartbeats 4000000 in
theorem c_X4_openKept (l : Launch) (y : Sy) (x1 : Int32) (x2 : Int32) (st : St) (K : Int32 → St → Prop) (hw : w_X4_openKept x1 x2 st K) : Ci 107 enX l yX4_openKept cX4_openKept 4 (some .int) 5 117 y [.ref (ad y 10), .int x1, .int x2] st K := by
  refine ent (by decide) (Nat.le_of_ble_eq_true rfl) ?_
  intro p e s m below meth c C hG ls hl
  have hl : lv_has ls 4 [(0, .ref (ad y 10)), (1, .int x1), (2, .int x2)] := hl
  generalize ([.ref (ad y 10), .int x1, .int x2] : List Value).toArray = args at C ⊢
  have C : Sd p s m args meth c cX4_openKept 4 RX4 (some .int) y := C
  obtain ⟨hx, hb, hml, hown, hts, hr, hlk, hK, hN⟩ := id C
  generalize s.heap = H at hG ⊢
  generalize ([] : List Loc) = locs at hG ⊢
  unfold w_X4_openKept at hw
  refine lv_aload_n hx hb dX4_openKept_0 rfl (lv_at hl 0 rfl) ?_
  refine r_get (C := RX4) (T := TX4) (Nf := 2) hx hb hts hown hK hG (by decide) rfl rfl inX4 1 (by decide) qF_X4_12 rfl dX4_openKept_1 ?_
  refine lv_aload_n hx hb dX4_openKept_4 rfl (lv_at hl 0 rfl) ?_
  refine r_get (C := RX4) (T := TX4) (Nf := 2) hx hb hts hown hK hG (by decide) rfl rfl inX4 0 (by decide) qF_X4_18 rfl dX4_openKept_5 ?_
  refine r_kv (r_run_V (k := 99) (As := [.ref (ad y 11)]) (rest := []) hx hb hml hown hts hK hN hG (c_X1_become l y 99 isC_99 11 isC_11 st _ hw) (isC.lt isC_99) (isC.e isC_99 y _) rfl rfl qM_X4_21 qI_X1_become qS_X1_become qN_X1 qC_X1_become hd_X1_become ⟨Nat.le_of_ble_eq_true rfl, Nat.le_of_ble_eq_true rfl⟩ hl.1 rfl (Nat.le_of_ble_eq_true rfl) dX4_openKept_8) hG (fun st8 H locs hw hG => ?_)
  refine lv_iconst (v := 0) hx hb dX4_openKept_11 (by decide) ?_
  refine lv_istore_n (lv' := [(3, .int 0), (0, .ref (ad y 10)), (1, .int x1), (2, .int x2)]) hx hb dX4_openKept_12 rfl hl (Nat.le_of_ble_eq_true rfl) rfl (fun ls hl => ?_)
  obtain ⟨n13, hw⟩ := hw
  exact z_X4_openKept_L13 l y x1 x2 C  K  n13 0 st8 H locs _ hG (lv_sub hl [1, 2, 3, 0] rfl) hw
set_option maxRecDepth 100000 in
set_option maxHeartbeats 4000000 in
theorem z_X4_fewestKept_b70 {p : Program} {e : Env} {s : State} {m : MethodId} {args : Array Value} {below : List Frame} {meth : Method} {c : Code} (l : Launch) (y : Sy) (x1 : Int32) (C : Sd p s m args meth c cX4_fewestKept 7 RX4 (some .int) y) (c24 : Int32 → Int32 → Int32 → Int32 → St → Prop) (K : Int32 → St → Prop) (hc24 : ∀ (v2 : Int32) (v3 : Int32) (v4 : Int32) (v5 : Int32) (st : St) (H : Heap) (locs : List Loc) (ls : Array Slot), gH 107 enX y st s H locs → lv_has ls 7 [(0, .ref (ad y 10)), (1, .int x1), (2, .int v2), (3, .int v3), (4, .int v4), (5, .int v5)] → c24 v2 v3 v4 v5 st → W p l e (rmm 6 140) s m args below meth c H locs 0 0 (MQ below (va_Qi K (gB 107 enX y) (gA 107 y)) args s 0 0 (gA 107 y)) (F0 m 24 ls [])) (v2 : Int32) (v3 : Int32) (v4 : Int32) (v5 : Int32) (st : St) {H : Heap} {locs : List Loc} {ls : Array Slot} (hG : gH 107 enX y st s H locs) (hl : lv_has ls 7 [(0, .ref (ad y 10)), (1, .int x1), (2, .int v2), (3, .int v3), (4, .int v4), (5, .int v5)]) (hw : w_X4_fewestKept_b70 x1 c24 K v2 v3 v4 v5 st) : W p l e (rmm 6 140) s m args below meth c H locs 0 0 (MQ below (va_Qi K (gB 107 enX y) (gA 107 y)) args s 0 0 (gA 107 y)) (F0 m 70 ls []) := by
  obtain ⟨hx, hb, hml, hown, hts, hr, hlk, hK, hN⟩ := id C
  unfold w_X4_fewestKept_b70 at hw
  refine lv_iinc (v := (v5 + 1)) (lv' := [(5, .int (v5 + 1)), (0, .ref (ad y 10)), (1, .int x1), (2, .int v2), (3, .int v3), (4, .int v4)]) hx hb dX4_fewestKept_70 hl (k := 5) rfl rfl (Nat.le_of_ble_eq_true rfl) rfl (fun ls hl => ?_)
  refine lv_goto (tgt := 24) hx hb dX4_fewestKept_73 (by decide) ?_
  exact hc24 v2 v3 v4 (v5 + 1) st H locs _ hG (lv_sub hl [1, 2, 3, 4, 5, 0] rfl) hw
set_option maxRecDepth 100000 in
set_option maxHeartbeats 4000000 in
theorem z_X4_fewestKept_b48 {p : Program} {e : Env} {s : State} {m : MethodId} {args : Array Value} {below : List Frame} {meth : Method} {c : Code} (l : Launch) (y : Sy) (x1 : Int32) (C : Sd p s m args meth c cX4_fewestKept 7 RX4 (some .int) y) (c24 : Int32 → Int32 → Int32 → Int32 → St → Prop) (K : Int32 → St → Prop) (hc24 : ∀ (v2 : Int32) (v3 : Int32) (v4 : Int32) (v5 : Int32) (st : St) (H : Heap) (locs : List Loc) (ls : Array Slot), gH 107 enX y st s H locs → lv_has ls 7 [(0, .ref (ad y 10)), (1, .int x1), (2, .int v2), (3, .int v3), (4, .int v4), (5, .int v5)] → c24 v2 v3 v4 v5 st → W p l e (rmm 6 140) s m args below meth c H locs 0 0 (MQ below (va_Qi K (gB 107 enX y) (gA 107 y)) args s 0 0 (gA 107 y)) (F0 m 24 ls [])) (v2 : Int32) (v3 : Int32) (v4 : Int32) (v5 : Int32) (s0 : Int32) (st : St) {H : Heap} {locs : List Loc} {ls : Array Slot} (hG : gH 107 enX y st s H locs) (hl : lv_has ls 7 [(0, .ref (ad y 10)), (1, .int x1), (2, .int v2), (3, .int v3), (4, .int v4), (5, .int v5)]) (hw : w_X4_fewestKept_b48 x1 c24 K v2 v3 v4 v5 s0 st) : W p l e (rmm 6 140) s m args below meth c H locs 0 0 (MQ below (va_Qi K (gB 107 enX y) (gA 107 y)) args s 0 0 (gA 107 y)) (F0 m 48 ls [.int s0]) := by
  obtain ⟨hx, hb, hml, hown, hts, hr, hlk, hK, hN⟩ := id C
  unfold w_X4_fewestKept_b48 at hw
  refine lv_istore (lv' := [(6, .int s0), (0, .ref (ad y 10)), (1, .int x1), (2, .int v2), (3, .int v3), (4, .int v4), (5, .int v5)]) hx hb dX4_fewestKept_48 hl (Nat.le_of_ble_eq_true rfl) rfl (fun ls hl => ?_)
  refine lv_iload hx hb dX4_fewestKept_50 (lv_at hl 0 rfl) ?_
  refine lv_if_eq (tgt := 70) hx hb dX4_fewestKept_52 (by decide) (fun hc => ?_) (fun hc => ?_)
  · replace hw := hw.1 hc
    exact z_X4_fewestKept_b70 l y x1 C c24 K hc24 v2 v3 v4 v5 st hG (lv_sub hl [1, 2, 3, 4, 5, 6] rfl) hw
  · replace hw := hw.2 hc
    refine lv_aload_n hx hb dX4_fewestKept_55 rfl (lv_at hl 1 rfl) ?_
    refine lv_iload hx hb dX4_fewestKept_56 (lv_at hl 6 rfl) ?_
    refine lv_iload_n hx hb dX4_fewestKept_58 rfl (lv_at hl 2 rfl) ?_
    refine r_ki (r_run_V (k := 10) (As := [.int v5, .int x1]) (rest := []) hx hb hml hown hts hK hN hG (c_X4_openKept l y v5 x1 st _ hw) (by decide) rfl rfl rfl qM_X4_88 qI_X4_openKept qS_X4_openKept qN_X4 qC_X4_openKept hd_X4_openKept ⟨Nat.le_of_ble_eq_true rfl, Nat.le_of_ble_eq_true rfl⟩ hl.1 rfl (Nat.le_of_ble_eq_true rfl) dX4_fewestKept_59) hG (fun r59 st59 H locs hw hG => ?_)
    refine lv_iload_n hx hb dX4_fewestKept_62 rfl (lv_at hl 4 rfl) ?_
    refine lv_icmp_lt (tgt := 70) hx hb dX4_fewestKept_63 (by decide) (fun hc => ?_) (fun hc => ?_)
    · replace hw := hw.1 hc
      exact z_X4_fewestKept_b70 l y x1 C c24 K hc24 v2 v3 v4 v5 st59 hG (lv_sub hl [1, 2, 3, 4, 5, 6] rfl) hw
    · replace hw := hw.2 hc
      refine lv_iload hx hb dX4_fewestKept_66 (lv_at hl 6 rfl) ?_
      refine lv_istore (lv' := [(4, .int v5), (6, .int s0), (0, .ref (ad y 10)), (1, .int x1), (2, .int v2), (3, .int v3), (5, .int v5)]) hx hb dX4_fewestKept_68 hl (Nat.le_of_ble_eq_true rfl) rfl (fun ls hl => ?_)
      exact z_X4_fewestKept_b70 l y x1 C c24 K hc24 v2 v3 v5 v5 st59 hG (lv_sub hl [2, 3, 4, 5, 0, 6] rfl) hw
set_option maxRecDepth 100000 in
set_option maxHeartbeats 4000000 in
theorem z_X4_fewestKept_L24 {p : Program} {e : Env} {s : State} {m : MethodId} {args : Array Value} {below : List Frame} {meth : Method} {c : Code} (l : Launch) (y : Sy) (x1 : Int32) (C : Sd p s m args meth c cX4_fewestKept 7 RX4 (some .int) y)  (K : Int32 → St → Prop)  : ∀ (n : Nat) (v2 : Int32) (v3 : Int32) (v4 : Int32) (v5 : Int32) (st : St) (H : Heap) (locs : List Loc) (ls : Array Slot), gH 107 enX y st s H locs → lv_has ls 7 [(0, .ref (ad y 10)), (1, .int x1), (2, .int v2), (3, .int v3), (4, .int v4), (5, .int v5)] → w_X4_fewestKept_L24 x1  K n v2 v3 v4 v5 st → W p l e (rmm 6 140) s m args below meth c H locs 0 0 (MQ below (va_Qi K (gB 107 enX y) (gA 107 y)) args s 0 0 (gA 107 y)) (F0 m 24 ls []) := by
  obtain ⟨hx, hb, hml, hown, hts, hr, hlk, hK, hN⟩ := id C
  intro n
  induction n with
  | zero => intro v2 v3 v4 v5 st H locs ls hG hl hw; exact False.elim hw
  | succ n hc24 =>
    intro v2 v3 v4 v5 st H locs ls hG hl hw
    have hw : w_X4_fewestKept_L24q x1  K (fun v2 v3 v4 v5 st => w_X4_fewestKept_L24 x1  K n v2 v3 v4 v5 st) v2 v3 v4 v5 st := hw
    unfold w_X4_fewestKept_L24q at hw
    refine lv_iload hx hb dX4_fewestKept_24 (lv_at hl 5 rfl) ?_
    refine lv_iload_n hx hb dX4_fewestKept_26 rfl (lv_at hl 2 rfl) ?_
    refine lv_icmp_ge (tgt := 76) hx hb dX4_fewestKept_27 (by decide) (fun hc => ?_) (fun hc => ?_)
    · replace hw := hw.1 hc
      refine lv_iload hx hb dX4_fewestKept_76 (lv_at hl 4 rfl) ?_
      exact r_iret hx hb hr hlk hK hG rfl hw dX4_fewestKept_78
    · replace hw := hw.2 hc
      refine lv_iload hx hb dX4_fewestKept_30 (lv_at hl 5 rfl) ?_
      refine r_ki (r_run_S (As := [.int v5]) (rest := []) hx hb hml hown hts hK hN hG (c_J6_bitCount_0f7a4 l y v5 st _ hw) qM_X4_83 qT_J6_bitCount_0f7a4 qN_J6 qC_J6_bitCount_0f7a4 hd_J6_bitCount_0f7a4 ⟨Nat.le_of_ble_eq_true rfl, Nat.le_of_ble_eq_true rfl⟩ hl.1 rfl (Nat.le_of_ble_eq_true rfl) dX4_fewestKept_32) hG (fun r32 st32 H locs hw hG => ?_)
      refine lv_iload hx hb dX4_fewestKept_35 (lv_at hl 4 rfl) ?_
      refine r_ki (r_run_S (As := [.int v4]) (rest := [.int r32]) hx hb hml hown hts hK hN hG (c_J6_bitCount_0f7a4 l y v4 st32 _ hw) qM_X4_83 qT_J6_bitCount_0f7a4 qN_J6 qC_J6_bitCount_0f7a4 hd_J6_bitCount_0f7a4 ⟨Nat.le_of_ble_eq_true rfl, Nat.le_of_ble_eq_true rfl⟩ hl.1 rfl (Nat.le_of_ble_eq_true rfl) dX4_fewestKept_37) hG (fun r37 st37 H locs hw hG => ?_)
      refine lv_icmp_ge (tgt := 47) hx hb dX4_fewestKept_40 (by decide) (fun hc => ?_) (fun hc => ?_)
      · replace hw := hw.1 hc
        refine lv_iconst (v := 0) hx hb dX4_fewestKept_47 (by decide) ?_
        exact z_X4_fewestKept_b48 l y x1 C (fun v2 v3 v4 v5 st => w_X4_fewestKept_L24 x1  K n v2 v3 v4 v5 st) K hc24 v2 v3 v4 v5 0 st37 hG (lv_sub hl [0, 1, 2, 3, 4, 5] rfl) hw
      · replace hw := hw.2 hc
        refine lv_iconst (v := 1) hx hb dX4_fewestKept_43 (by decide) ?_
        refine lv_goto (tgt := 48) hx hb dX4_fewestKept_44 (by decide) ?_
        exact z_X4_fewestKept_b48 l y x1 C (fun v2 v3 v4 v5 st => w_X4_fewestKept_L24 x1  K n v2 v3 v4 v5 st) K hc24 v2 v3 v4 v5 1 st37 hG (lv_sub hl [0, 1, 2, 3, 4, 5] rfl) hw
theorem hd_X4_fewestKept : yX4_fewestKept.cls ≠ "java/lang/invoke/MethodHandle" ∧ yX4_fewestKept.cls ≠ "java/lang/invoke/VarHandle" ∧ (parseMethodDescriptor yX4_fewestKept.desc).map (fun d => d.parameters.length) = some 1 := by decide +kernel
set_option maxRecDepth 100000 in
set_option maxHeartbeats 4000000 in
theorem c_X4_fewestKept (l : Launch) (y : Sy) (x1 : Int32) (st : St) (K : Int32 → St → Prop) (hw : w_X4_fewestKept x1 st K) : Ci 107 enX l yX4_fewestKept cX4_fewestKept 7 (some .int) 6 140 y [.ref (ad y 10), .int x1] st K := by
  refine ent (by decide) (Nat.le_of_ble_eq_true rfl) ?_
  intro p e s m below meth c C hG ls hl
  have hl : lv_has ls 7 [(0, .ref (ad y 10)), (1, .int x1)] := hl
  generalize ([.ref (ad y 10), .int x1] : List Value).toArray = args at C ⊢
  have C : Sd p s m args meth c cX4_fewestKept 7 RX4 (some .int) y := C
  obtain ⟨hx, hb, hml, hown, hts, hr, hlk, hK, hN⟩ := id C
  generalize s.heap = H at hG ⊢
  generalize ([] : List Loc) = locs at hG ⊢
  unfold w_X4_fewestKept at hw
  refine lv_iconst (v := 1) hx hb dX4_fewestKept_0 (by decide) ?_
  refine lv_aload_n hx hb dX4_fewestKept_1 rfl (lv_at hl 0 rfl) ?_
  refine r_get (C := RX4) (T := TX4) (Nf := 2) hx hb hts hown hK hG (by decide) rfl rfl inX4 0 (by decide) qF_X4_18 rfl dX4_fewestKept_2 ?_
  refine r_ki (r_run_V (k := 11) (As := []) (rest := [.int 1]) hx hb hml hown hts hK hN hG (c_X1_keeperCount l y 11 isC_11 st _ hw) (isC.lt isC_11) (isC.e isC_11 y _) rfl rfl qM_X4_69 qI_X1_keeperCount qS_X1_keeperCount qN_X1 qC_X1_keeperCount hd_X1_keeperCount ⟨Nat.le_of_ble_eq_true rfl, Nat.le_of_ble_eq_true rfl⟩ hl.1 rfl (Nat.le_of_ble_eq_true rfl) dX4_fewestKept_5) hG (fun r5 st5 H locs hw hG => ?_)
  refine lv_ishl hx hb dX4_fewestKept_8 ?_
  refine lv_iconst (v := 1) hx hb dX4_fewestKept_9 (by decide) ?_
  refine lv_isub hx hb dX4_fewestKept_10 ?_
  refine lv_istore_n (lv' := [(2, .int (((1 : Int32) <<< (r5 &&& 31)) - 1)), (0, .ref (ad y 10)), (1, .int x1)]) hx hb dX4_fewestKept_11 rfl hl (Nat.le_of_ble_eq_true rfl) rfl (fun ls hl => ?_)
  refine lv_aload_n hx hb dX4_fewestKept_12 rfl (lv_at hl 1 rfl) ?_
  refine lv_iload_n hx hb dX4_fewestKept_13 rfl (lv_at hl 2 rfl) ?_
  refine r_ki (r_run_V (k := 10) (As := [.int x1]) (rest := []) hx hb hml hown hts hK hN hG (c_X4_openAsAllIs l y x1 st5 _ hw) (by decide) rfl rfl rfl qM_X4_66 qI_X4_openAsAllIs qS_X4_openAsAllIs qN_X4 qC_X4_openAsAllIs hd_X4_openAsAllIs ⟨Nat.le_of_ble_eq_true rfl, Nat.le_of_ble_eq_true rfl⟩ hl.1 rfl (Nat.le_of_ble_eq_true rfl) dX4_fewestKept_14) hG (fun r14 st14 H locs hw hG => ?_)
  refine lv_istore_n (lv' := [(3, .int r14), (2, .int (((1 : Int32) <<< (r5 &&& 31)) - 1)), (0, .ref (ad y 10)), (1, .int x1)]) hx hb dX4_fewestKept_17 rfl hl (Nat.le_of_ble_eq_true rfl) rfl (fun ls hl => ?_)
  refine lv_iload_n hx hb dX4_fewestKept_18 rfl (lv_at hl 1 rfl) ?_
  refine lv_istore (lv' := [(4, .int (((1 : Int32) <<< (r5 &&& 31)) - 1)), (3, .int r14), (2, .int (((1 : Int32) <<< (r5 &&& 31)) - 1)), (0, .ref (ad y 10)), (1, .int x1)]) hx hb dX4_fewestKept_19 hl (Nat.le_of_ble_eq_true rfl) rfl (fun ls hl => ?_)
  refine lv_iconst (v := 0) hx hb dX4_fewestKept_21 (by decide) ?_
  refine lv_istore (lv' := [(5, .int 0), (4, .int (((1 : Int32) <<< (r5 &&& 31)) - 1)), (3, .int r14), (2, .int (((1 : Int32) <<< (r5 &&& 31)) - 1)), (0, .ref (ad y 10)), (1, .int x1)]) hx hb dX4_fewestKept_22 hl (Nat.le_of_ble_eq_true rfl) rfl (fun ls hl => ?_)
  obtain ⟨n24, hw⟩ := hw
  exact z_X4_fewestKept_L24 l y x1 C  K  n24 (((1 : Int32) <<< (r5 &&& 31)) - 1) r14 (((1 : Int32) <<< (r5 &&& 31)) - 1) 0 st14 H locs _ hG (lv_sub hl [4, 5, 3, 2, 1, 0] rfl) hw
set_option maxRecDepth 100000 in
set_option maxHeartbeats 4000000 in
theorem z_X4_opensAsTold_L8 {p : Program} {e : Env} {s : State} {m : MethodId} {args : Array Value} {below : List Frame} {meth : Method} {c : Code} (l : Launch) (y : Sy)  (C : Sd p s m args meth c cX4_opensAsTold 3 RX4 (some .boolean) y)  (K : Int32 → St → Prop)  : ∀ (n : Nat) (v2 : Int32) (st : St) (H : Heap) (locs : List Loc) (ls : Array Slot), gH 107 enX y st s H locs → lv_has ls 3 [(0, .ref (ad y 10)), (1, .ref (ad y 6)), (2, .int v2)] → w_X4_opensAsTold_L8   K n v2 st → W p l e (rmm 4 95) s m args below meth c H locs 0 0 (MQ below (va_Qi K (gB 107 enX y) (gA 107 y)) args s 0 0 (gA 107 y)) (F0 m 8 ls []) := by
  obtain ⟨hx, hb, hml, hown, hts, hr, hlk, hK, hN⟩ := id C
  intro n
  induction n with
  | zero => intro v2 st H locs ls hG hl hw; exact False.elim hw
  | succ n hc8 =>
    intro v2 st H locs ls hG hl hw
    have hw : w_X4_opensAsTold_L8q   K (fun v2 st => w_X4_opensAsTold_L8   K n v2 st) v2 st := hw
    unfold w_X4_opensAsTold_L8q at hw
    refine lv_iload_n hx hb dX4_opensAsTold_8 rfl (lv_at hl 2 rfl) ?_
    refine lv_aload_n hx hb dX4_opensAsTold_9 rfl (lv_at hl 1 rfl) ?_
    refine r_ki (r_run_V (k := 6) (As := []) (rest := [.int v2]) hx hb hml hown hts hK hN hG (c_X6_size l y  st _ hw) (by decide) rfl rfl rfl qM_X4_95 qI_X6_size qS_X6_size qN_X6 qC_X6_size hd_X6_size ⟨Nat.le_of_ble_eq_true rfl, Nat.le_of_ble_eq_true rfl⟩ hl.1 rfl (Nat.le_of_ble_eq_true rfl) dX4_opensAsTold_10) hG (fun r10 st10 H locs hw hG => ?_)
    refine lv_icmp_ge (tgt := 47) hx hb dX4_opensAsTold_13 (by decide) (fun hc => ?_) (fun hc => ?_)
    · replace hw := hw.1 hc
      refine lv_iconst (v := 1) hx hb dX4_opensAsTold_47 (by decide) ?_
      exact r_iret hx hb hr hlk hK hG rfl hw dX4_opensAsTold_48
    · replace hw := hw.2 hc
      refine lv_aload_n hx hb dX4_opensAsTold_16 rfl (lv_at hl 0 rfl) ?_
      refine r_get (C := RX4) (T := TX4) (Nf := 2) hx hb hts hown hK hG (by decide) rfl rfl inX4 1 (by decide) qF_X4_12 rfl dX4_opensAsTold_17 ?_
      refine r_ki (r_run_V (k := 99) (As := []) (rest := []) hx hb hml hown hts hK hN hG (c_X1_openCount l y 99 isC_99 st10 _ hw) (isC.lt isC_99) (isC.e isC_99 y _) rfl rfl qM_X4_100 qI_X1_openCount qS_X1_openCount qN_X1 qC_X1_openCount hd_X1_openCount ⟨Nat.le_of_ble_eq_true rfl, Nat.le_of_ble_eq_true rfl⟩ hl.1 rfl (Nat.le_of_ble_eq_true rfl) dX4_opensAsTold_20) hG (fun r20 st20 H locs hw hG => ?_)
      refine lv_aload_n hx hb dX4_opensAsTold_23 rfl (lv_at hl 1 rfl) ?_
      refine lv_iload_n hx hb dX4_opensAsTold_24 rfl (lv_at hl 2 rfl) ?_
      refine r_ki (r_run_V (k := 6) (As := [.int v2]) (rest := [.int r20]) hx hb hml hown hts hK hN hG (c_X6_number l y v2 st20 _ hw) (by decide) rfl rfl rfl qM_X4_103 qI_X6_number qS_X6_number qN_X6 qC_X6_number hd_X6_number ⟨Nat.le_of_ble_eq_true rfl, Nat.le_of_ble_eq_true rfl⟩ hl.1 rfl (Nat.le_of_ble_eq_true rfl) dX4_opensAsTold_25) hG (fun r25 st25 H locs hw hG => ?_)
      refine lv_icmp_eq (tgt := 33) hx hb dX4_opensAsTold_28 (by decide) (fun hc => ?_) (fun hc => ?_)
      · replace hw := hw.1 hc
        refine lv_aload_n hx hb dX4_opensAsTold_33 rfl (lv_at hl 0 rfl) ?_
        refine r_get (C := RX4) (T := TX4) (Nf := 2) hx hb hts hown hK hG (by decide) rfl rfl inX4 1 (by decide) qF_X4_12 rfl dX4_opensAsTold_34 ?_
        refine r_ki (r_run_V (k := 99) (As := []) (rest := []) hx hb hml hown hts hK hN hG (c_X1_passWeek l y 99 isC_99 st25 _ hw) (isC.lt isC_99) (isC.e isC_99 y _) rfl rfl qM_X4_44 qI_X1_passWeek qS_X1_passWeek qN_X1 qC_X1_passWeek hd_X1_passWeek ⟨Nat.le_of_ble_eq_true rfl, Nat.le_of_ble_eq_true rfl⟩ hl.1 rfl (Nat.le_of_ble_eq_true rfl) dX4_opensAsTold_37) hG (fun r37 st37 H locs hw hG => ?_)
        refine lv_pop hx hb dX4_opensAsTold_40 rfl ?_
        refine lv_iinc (v := (v2 + 1)) (lv' := [(2, .int (v2 + 1)), (0, .ref (ad y 10)), (1, .ref (ad y 6))]) hx hb dX4_opensAsTold_41 hl (k := 2) rfl rfl (Nat.le_of_ble_eq_true rfl) rfl (fun ls hl => ?_)
        refine lv_goto (tgt := 8) hx hb dX4_opensAsTold_44 (by decide) ?_
        exact hc8 (v2 + 1) st37 H locs _ hG (lv_sub hl [1, 2, 0] rfl) hw
      · replace hw := hw.2 hc
        refine lv_iconst (v := 0) hx hb dX4_opensAsTold_31 (by decide) ?_
        exact r_iret hx hb hr hlk hK hG rfl hw dX4_opensAsTold_32
theorem hd_X4_opensAsTold : yX4_opensAsTold.cls ≠ "java/lang/invoke/MethodHandle" ∧ yX4_opensAsTold.cls ≠ "java/lang/invoke/VarHandle" ∧ (parseMethodDescriptor yX4_opensAsTold.desc).map (fun d => d.parameters.length) = some 1 := by decide +kernel
set_option maxRecDepth 100000 in
set_option maxHeartbeats 4000000 in
theorem c_X4_opensAsTold (l : Launch) (y : Sy)  (st : St) (K : Int32 → St → Prop) (hw : w_X4_opensAsTold  st K) : Ci 107 enX l yX4_opensAsTold cX4_opensAsTold 3 (some .boolean) 4 95 y [.ref (ad y 10), .ref (ad y 6)] st K := by
  refine ent (by decide) (Nat.le_of_ble_eq_true rfl) ?_
  intro p e s m below meth c C hG ls hl
  have hl : lv_has ls 3 [(0, .ref (ad y 10)), (1, .ref (ad y 6))] := hl
  generalize ([.ref (ad y 10), .ref (ad y 6)] : List Value).toArray = args at C ⊢
  have C : Sd p s m args meth c cX4_opensAsTold 3 RX4 (some .boolean) y := C
  obtain ⟨hx, hb, hml, hown, hts, hr, hlk, hK, hN⟩ := id C
  generalize s.heap = H at hG ⊢
  generalize ([] : List Loc) = locs at hG ⊢
  unfold w_X4_opensAsTold at hw
  refine lv_aload_n hx hb dX4_opensAsTold_0 rfl (lv_at hl 1 rfl) ?_
  refine lv_ifnonnull (tgt := 6) hx hb dX4_opensAsTold_1 (by decide) ?_
  refine lv_iconst (v := 0) hx hb dX4_opensAsTold_6 (by decide) ?_
  refine lv_istore_n (lv' := [(2, .int 0), (0, .ref (ad y 10)), (1, .ref (ad y 6))]) hx hb dX4_opensAsTold_7 rfl hl (Nat.le_of_ble_eq_true rfl) rfl (fun ls hl => ?_)
  obtain ⟨n8, hw⟩ := hw
  exact z_X4_opensAsTold_L8 l y  C  K  n8 0 st H locs _ hG (lv_sub hl [1, 2, 0] rfl) hw
set_option maxRecDepth 100000 in
set_option maxHeartbeats 4000000 in
theorem z_X4_fittingHate_b74 {p : Program} {e : Env} {s : State} {m : MethodId} {args : Array Value} {below : List Frame} {meth : Method} {c : Code} (l : Launch) (y : Sy) (x1 : Int32) (x2 : Int32) (x4 : Int32) (C : Sd p s m args meth c cX4_fittingHate 9 RX4 (some .int) y) (c14 : Int32 → Int32 → Int32 → Int32 → St → Prop) (K : Int32 → St → Prop) (hc14 : ∀ (v5 : Int32) (v6 : Int32) (v7 : Int32) (v8 : Int32) (st : St) (H : Heap) (locs : List Loc) (ls : Array Slot), gH 107 enX y st s H locs → lv_has ls 9 [(0, .ref (ad y 10)), (1, .int x1), (2, .int x2), (3, .ref (ad y 6)), (4, .int x4), (5, .int v5), (6, .int v6), (7, .int v7), (8, .int v8)] → c14 v5 v6 v7 v8 st → W p l e (rmm 5 117) s m args below meth c H locs 0 0 (MQ below (va_Qi K (gB 107 enX y) (gA 107 y)) args s 0 0 (gA 107 y)) (F0 m 14 ls [])) (v5 : Int32) (v6 : Int32) (v7 : Int32) (v8 : Int32) (st : St) {H : Heap} {locs : List Loc} {ls : Array Slot} (hG : gH 107 enX y st s H locs) (hl : lv_has ls 9 [(0, .ref (ad y 10)), (1, .int x1), (2, .int x2), (3, .ref (ad y 6)), (4, .int x4), (5, .int v5), (6, .int v6), (7, .int v7), (8, .int v8)]) (hw : w_X4_fittingHate_b74 x1 x2 x4 c14 K v5 v6 v7 v8 st) : W p l e (rmm 5 117) s m args below meth c H locs 0 0 (MQ below (va_Qi K (gB 107 enX y) (gA 107 y)) args s 0 0 (gA 107 y)) (F0 m 74 ls []) := by
  obtain ⟨hx, hb, hml, hown, hts, hr, hlk, hK, hN⟩ := id C
  unfold w_X4_fittingHate_b74 at hw
  refine lv_iinc (v := (v8 + 1)) (lv' := [(8, .int (v8 + 1)), (0, .ref (ad y 10)), (1, .int x1), (2, .int x2), (3, .ref (ad y 6)), (4, .int x4), (5, .int v5), (6, .int v6), (7, .int v7)]) hx hb dX4_fittingHate_74 hl (k := 8) rfl rfl (Nat.le_of_ble_eq_true rfl) rfl (fun ls hl => ?_)
  refine lv_goto (tgt := 14) hx hb dX4_fittingHate_77 (by decide) ?_
  exact hc14 v5 v6 v7 (v8 + 1) st H locs _ hG (lv_sub hl [1, 2, 3, 4, 5, 6, 7, 8, 0] rfl) hw
set_option maxRecDepth 100000 in
set_option maxHeartbeats 4000000 in
theorem z_X4_fittingHate_b68 {p : Program} {e : Env} {s : State} {m : MethodId} {args : Array Value} {below : List Frame} {meth : Method} {c : Code} (l : Launch) (y : Sy) (x1 : Int32) (x2 : Int32) (x4 : Int32) (C : Sd p s m args meth c cX4_fittingHate 9 RX4 (some .int) y) (c14 : Int32 → Int32 → Int32 → Int32 → St → Prop) (K : Int32 → St → Prop) (hc14 : ∀ (v5 : Int32) (v6 : Int32) (v7 : Int32) (v8 : Int32) (st : St) (H : Heap) (locs : List Loc) (ls : Array Slot), gH 107 enX y st s H locs → lv_has ls 9 [(0, .ref (ad y 10)), (1, .int x1), (2, .int x2), (3, .ref (ad y 6)), (4, .int x4), (5, .int v5), (6, .int v6), (7, .int v7), (8, .int v8)] → c14 v5 v6 v7 v8 st → W p l e (rmm 5 117) s m args below meth c H locs 0 0 (MQ below (va_Qi K (gB 107 enX y) (gA 107 y)) args s 0 0 (gA 107 y)) (F0 m 14 ls [])) (v5 : Int32) (v8 : Int32) (s0 : Int32) (st : St) {H : Heap} {locs : List Loc} {ls : Array Slot} (hG : gH 107 enX y st s H locs) (hl : lv_has ls 9 [(0, .ref (ad y 10)), (1, .int x1), (2, .int x2), (3, .ref (ad y 6)), (4, .int x4), (5, .int v5), (8, .int v8)]) (hw : w_X4_fittingHate_b68 x1 x2 x4 c14 K v5 v8 s0 st) : W p l e (rmm 5 117) s m args below meth c H locs 0 0 (MQ below (va_Qi K (gB 107 enX y) (gA 107 y)) args s 0 0 (gA 107 y)) (F0 m 68 ls [.int s0]) := by
  obtain ⟨hx, hb, hml, hown, hts, hr, hlk, hK, hN⟩ := id C
  unfold w_X4_fittingHate_b68 at hw
  refine lv_istore (lv' := [(6, .int s0), (0, .ref (ad y 10)), (1, .int x1), (2, .int x2), (3, .ref (ad y 6)), (4, .int x4), (5, .int v5), (8, .int v8)]) hx hb dX4_fittingHate_68 hl (Nat.le_of_ble_eq_true rfl) rfl (fun ls hl => ?_)
  refine lv_iload hx hb dX4_fittingHate_70 (lv_at hl 7 rfl) ?_
  refine lv_istore (lv' := [(7, .int v8), (6, .int s0), (0, .ref (ad y 10)), (1, .int x1), (2, .int x2), (3, .ref (ad y 6)), (4, .int x4), (5, .int v5), (8, .int v8)]) hx hb dX4_fittingHate_72 hl (Nat.le_of_ble_eq_true rfl) rfl (fun ls hl => ?_)
  exact z_X4_fittingHate_b74 l y x1 x2 x4 C c14 K hc14 v5 s0 v8 v8 st hG (lv_sub hl [2, 3, 4, 5, 6, 7, 1, 0, 8] rfl) hw
set_option maxRecDepth 100000 in
set_option maxHeartbeats 4000000 in
theorem z_X4_fittingHate_b80 {p : Program} {e : Env} {s : State} {m : MethodId} {args : Array Value} {below : List Frame} {meth : Method} {c : Code} (l : Launch) (y : Sy) (x1 : Int32) (x2 : Int32) (x4 : Int32) (C : Sd p s m args meth c cX4_fittingHate 9 RX4 (some .int) y)  (K : Int32 → St → Prop)  (v5 : Int32) (v6 : Int32) (v7 : Int32) (st : St) {H : Heap} {locs : List Loc} {ls : Array Slot} (hG : gH 107 enX y st s H locs) (hl : lv_has ls 9 [(4, .int x4), (5, .int v5), (6, .int v6), (7, .int v7)]) (hw : w_X4_fittingHate_b80 x1 x2 x4  K v5 v6 v7 st) : W p l e (rmm 5 117) s m args below meth c H locs 0 0 (MQ below (va_Qi K (gB 107 enX y) (gA 107 y)) args s 0 0 (gA 107 y)) (F0 m 80 ls []) := by
  obtain ⟨hx, hb, hml, hown, hts, hr, hlk, hK, hN⟩ := id C
  unfold w_X4_fittingHate_b80 at hw
  refine lv_iload hx hb dX4_fittingHate_80 (lv_at hl 0 rfl) ?_
  refine lv_if_ne (tgt := 90) hx hb dX4_fittingHate_82 (by decide) (fun hc => ?_) (fun hc => ?_)
  · replace hw := hw.1 hc
    refine lv_iload hx hb dX4_fittingHate_90 (lv_at hl 0 rfl) ?_
    refine lv_iconst (v := 1) hx hb dX4_fittingHate_92 (by decide) ?_
    refine lv_icmp_ne (tgt := 101) hx hb dX4_fittingHate_93 (by decide) (fun hc => ?_) (fun hc => ?_)
    · replace hw := hw.1 hc
      refine lv_iload hx hb dX4_fittingHate_101 (lv_at hl 3 rfl) ?_
      exact r_iret hx hb hr hlk hK hG rfl hw dX4_fittingHate_103
    · replace hw := hw.2 hc
      refine lv_iload hx hb dX4_fittingHate_96 (lv_at hl 2 rfl) ?_
      refine lv_goto (tgt := 103) hx hb dX4_fittingHate_98 (by decide) ?_
      exact r_iret hx hb hr hlk hK hG rfl hw dX4_fittingHate_103
  · replace hw := hw.2 hc
    refine lv_iload hx hb dX4_fittingHate_85 (lv_at hl 1 rfl) ?_
    refine lv_goto (tgt := 103) hx hb dX4_fittingHate_87 (by decide) ?_
    exact r_iret hx hb hr hlk hK hG rfl hw dX4_fittingHate_103
set_option maxRecDepth 100000 in
set_option maxHeartbeats 4000000 in
theorem z_X4_fittingHate_L14 {p : Program} {e : Env} {s : State} {m : MethodId} {args : Array Value} {below : List Frame} {meth : Method} {c : Code} (l : Launch) (y : Sy) (x1 : Int32) (x2 : Int32) (x4 : Int32) (C : Sd p s m args meth c cX4_fittingHate 9 RX4 (some .int) y)  (K : Int32 → St → Prop)  : ∀ (n : Nat) (v5 : Int32) (v6 : Int32) (v7 : Int32) (v8 : Int32) (st : St) (H : Heap) (locs : List Loc) (ls : Array Slot), gH 107 enX y st s H locs → lv_has ls 9 [(0, .ref (ad y 10)), (1, .int x1), (2, .int x2), (3, .ref (ad y 6)), (4, .int x4), (5, .int v5), (6, .int v6), (7, .int v7), (8, .int v8)] → w_X4_fittingHate_L14 x1 x2 x4  K n v5 v6 v7 v8 st → W p l e (rmm 5 117) s m args below meth c H locs 0 0 (MQ below (va_Qi K (gB 107 enX y) (gA 107 y)) args s 0 0 (gA 107 y)) (F0 m 14 ls []) := by
  obtain ⟨hx, hb, hml, hown, hts, hr, hlk, hK, hN⟩ := id C
  intro n
  induction n with
  | zero => intro v5 v6 v7 v8 st H locs ls hG hl hw; exact False.elim hw
  | succ n hc14 =>
    intro v5 v6 v7 v8 st H locs ls hG hl hw
    have hw : w_X4_fittingHate_L14q x1 x2 x4  K (fun v5 v6 v7 v8 st => w_X4_fittingHate_L14 x1 x2 x4  K n v5 v6 v7 v8 st) v5 v6 v7 v8 st := hw
    unfold w_X4_fittingHate_L14q at hw
    refine lv_iload hx hb dX4_fittingHate_14 (lv_at hl 8 rfl) ?_
    refine lv_bipush (v := 99) hx hb dX4_fittingHate_16 (by decide) ?_
    refine lv_icmp_gt (tgt := 80) hx hb dX4_fittingHate_18 (by decide) (fun hc => ?_) (fun hc => ?_)
    · replace hw := hw.1 hc
      exact z_X4_fittingHate_b80 l y x1 x2 x4 C  K  v5 v6 v7 st hG (lv_sub hl [4, 5, 6, 7] rfl) hw
    · replace hw := hw.2 hc
      refine lv_aload_n hx hb dX4_fittingHate_21 rfl (lv_at hl 0 rfl) ?_
      refine r_get (C := RX4) (T := TX4) (Nf := 2) hx hb hts hown hK hG (by decide) rfl rfl inX4 1 (by decide) qF_X4_12 rfl dX4_fittingHate_22 ?_
      refine lv_aload_n hx hb dX4_fittingHate_25 rfl (lv_at hl 0 rfl) ?_
      refine r_get (C := RX4) (T := TX4) (Nf := 2) hx hb hts hown hK hG (by decide) rfl rfl inX4 0 (by decide) qF_X4_18 rfl dX4_fittingHate_26 ?_
      refine r_kv (r_run_V (k := 99) (As := [.ref (ad y 11)]) (rest := []) hx hb hml hown hts hK hN hG (c_X1_become l y 99 isC_99 11 isC_11 st _ hw) (isC.lt isC_99) (isC.e isC_99 y _) rfl rfl qM_X4_21 qI_X1_become qS_X1_become qN_X1 qC_X1_become hd_X1_become ⟨Nat.le_of_ble_eq_true rfl, Nat.le_of_ble_eq_true rfl⟩ hl.1 rfl (Nat.le_of_ble_eq_true rfl) dX4_fittingHate_29) hG (fun st29 H locs hw hG => ?_)
      refine lv_aload_n hx hb dX4_fittingHate_32 rfl (lv_at hl 0 rfl) ?_
      refine r_get (C := RX4) (T := TX4) (Nf := 2) hx hb hts hown hK hG (by decide) rfl rfl inX4 1 (by decide) qF_X4_12 rfl dX4_fittingHate_33 ?_
      refine lv_iload_n hx hb dX4_fittingHate_36 rfl (lv_at hl 1 rfl) ?_
      refine lv_iload_n hx hb dX4_fittingHate_37 rfl (lv_at hl 2 rfl) ?_
      refine lv_iload hx hb dX4_fittingHate_38 (lv_at hl 8 rfl) ?_
      refine r_kv (r_run_V (k := 99) (As := [.int x1, .int x2, .int v8]) (rest := []) hx hb hml hown hts hK hN hG (c_X1_setHate l y 99 isC_99 x1 x2 v8 st29 _ hw) (isC.lt isC_99) (isC.e isC_99 y _) rfl rfl qM_X4_59 qI_X1_setHate qS_X1_setHate qN_X1 qC_X1_setHate hd_X1_setHate ⟨Nat.le_of_ble_eq_true rfl, Nat.le_of_ble_eq_true rfl⟩ hl.1 rfl (Nat.le_of_ble_eq_true rfl) dX4_fittingHate_40) hG (fun st40 H locs hw hG => ?_)
      refine lv_aload_n hx hb dX4_fittingHate_43 rfl (lv_at hl 0 rfl) ?_
      refine lv_aload_n hx hb dX4_fittingHate_44 rfl (lv_at hl 3 rfl) ?_
      refine r_ki (r_run_V (k := 10) (As := [.ref (ad y 6)]) (rest := []) hx hb hml hown hts hK hN hG (c_X4_opensAsTold l y  st40 _ hw) (by decide) rfl rfl rfl qM_X4_91 qI_X4_opensAsTold qS_X4_opensAsTold qN_X4 qC_X4_opensAsTold hd_X4_opensAsTold ⟨Nat.le_of_ble_eq_true rfl, Nat.le_of_ble_eq_true rfl⟩ hl.1 rfl (Nat.le_of_ble_eq_true rfl) dX4_fittingHate_45) hG (fun r45 st45 H locs hw hG => ?_)
      refine lv_if_eq (tgt := 74) hx hb dX4_fittingHate_48 (by decide) (fun hc => ?_) (fun hc => ?_)
      · replace hw := hw.1 hc
        exact z_X4_fittingHate_b74 l y x1 x2 x4 C (fun v5 v6 v7 v8 st => w_X4_fittingHate_L14 x1 x2 x4  K n v5 v6 v7 v8 st) K hc14 v5 v6 v7 v8 st45 hG (lv_sub hl [0, 1, 2, 3, 4, 5, 6, 7, 8] rfl) hw
      · replace hw := hw.2 hc
        refine lv_iinc (v := (v5 + 1)) (lv' := [(5, .int (v5 + 1)), (0, .ref (ad y 10)), (1, .int x1), (2, .int x2), (3, .ref (ad y 6)), (4, .int x4), (6, .int v6), (7, .int v7), (8, .int v8)]) hx hb dX4_fittingHate_51 hl (k := 5) rfl rfl (Nat.le_of_ble_eq_true rfl) rfl (fun ls hl => ?_)
        refine lv_iload hx hb dX4_fittingHate_54 (lv_at hl 6 rfl) ?_
        refine lv_bipush (v := (-9)) hx hb dX4_fittingHate_56 (by decide) ?_
        refine lv_icmp_ne (tgt := 66) hx hb dX4_fittingHate_58 (by decide) (fun hc => ?_) (fun hc => ?_)
        · replace hw := hw.1 hc
          refine lv_iload hx hb dX4_fittingHate_66 (lv_at hl 6 rfl) ?_
          exact z_X4_fittingHate_b68 l y x1 x2 x4 C (fun v5 v6 v7 v8 st => w_X4_fittingHate_L14 x1 x2 x4  K n v5 v6 v7 v8 st) K hc14 (v5 + 1) v8 v6 st45 hG (lv_sub hl [1, 2, 3, 4, 5, 0, 8] rfl) hw
        · replace hw := hw.2 hc
          refine lv_iload hx hb dX4_fittingHate_61 (lv_at hl 8 rfl) ?_
          refine lv_goto (tgt := 68) hx hb dX4_fittingHate_63 (by decide) ?_
          exact z_X4_fittingHate_b68 l y x1 x2 x4 C (fun v5 v6 v7 v8 st => w_X4_fittingHate_L14 x1 x2 x4  K n v5 v6 v7 v8 st) K hc14 (v5 + 1) v8 v8 st45 hG (lv_sub hl [1, 2, 3, 4, 5, 0, 8] rfl) hw
theorem hd_X4_fittingHate : yX4_fittingHate.cls ≠ "java/lang/invoke/MethodHandle" ∧ yX4_fittingHate.cls ≠ "java/lang/invoke/VarHandle" ∧ (parseMethodDescriptor yX4_fittingHate.desc).map (fun d => d.parameters.length) = some 4 := by decide +kernel
set_option maxRecDepth 100000 in
set_option maxHeartbeats 4000000 in
theorem c_X4_fittingHate (l : Launch) (y : Sy) (x1 : Int32) (x2 : Int32) (x4 : Int32) (st : St) (K : Int32 → St → Prop) (hw : w_X4_fittingHate x1 x2 x4 st K) : Ci 107 enX l yX4_fittingHate cX4_fittingHate 9 (some .int) 5 117 y [.ref (ad y 10), .int x1, .int x2, .ref (ad y 6), .int x4] st K := by
  refine ent (by decide) (Nat.le_of_ble_eq_true rfl) ?_
  intro p e s m below meth c C hG ls hl
  have hl : lv_has ls 9 [(0, .ref (ad y 10)), (1, .int x1), (2, .int x2), (3, .ref (ad y 6)), (4, .int x4)] := hl
  generalize ([.ref (ad y 10), .int x1, .int x2, .ref (ad y 6), .int x4] : List Value).toArray = args at C ⊢
  have C : Sd p s m args meth c cX4_fittingHate 9 RX4 (some .int) y := C
  obtain ⟨hx, hb, hml, hown, hts, hr, hlk, hK, hN⟩ := id C
  generalize s.heap = H at hG ⊢
  generalize ([] : List Loc) = locs at hG ⊢
  unfold w_X4_fittingHate at hw
  refine lv_iconst (v := 0) hx hb dX4_fittingHate_0 (by decide) ?_
  refine lv_istore (lv' := [(5, .int 0), (0, .ref (ad y 10)), (1, .int x1), (2, .int x2), (3, .ref (ad y 6)), (4, .int x4)]) hx hb dX4_fittingHate_1 hl (Nat.le_of_ble_eq_true rfl) rfl (fun ls hl => ?_)
  refine lv_bipush (v := (-9)) hx hb dX4_fittingHate_3 (by decide) ?_
  refine lv_istore (lv' := [(6, .int (-9)), (5, .int 0), (0, .ref (ad y 10)), (1, .int x1), (2, .int x2), (3, .ref (ad y 6)), (4, .int x4)]) hx hb dX4_fittingHate_5 hl (Nat.le_of_ble_eq_true rfl) rfl (fun ls hl => ?_)
  refine lv_bipush (v := (-9)) hx hb dX4_fittingHate_7 (by decide) ?_
  refine lv_istore (lv' := [(7, .int (-9)), (6, .int (-9)), (5, .int 0), (0, .ref (ad y 10)), (1, .int x1), (2, .int x2), (3, .ref (ad y 6)), (4, .int x4)]) hx hb dX4_fittingHate_9 hl (Nat.le_of_ble_eq_true rfl) rfl (fun ls hl => ?_)
  refine lv_iconst (v := 0) hx hb dX4_fittingHate_11 (by decide) ?_
  refine lv_istore (lv' := [(8, .int 0), (7, .int (-9)), (6, .int (-9)), (5, .int 0), (0, .ref (ad y 10)), (1, .int x1), (2, .int x2), (3, .ref (ad y 6)), (4, .int x4)]) hx hb dX4_fittingHate_12 hl (Nat.le_of_ble_eq_true rfl) rfl (fun ls hl => ?_)
  obtain ⟨n14, hw⟩ := hw
  exact z_X4_fittingHate_L14 l y x1 x2 x4 C  K  n14 0 (-9) (-9) 0 st H locs _ hG (lv_sub hl [4, 5, 6, 7, 8, 3, 2, 1, 0] rfl) hw
set_option maxRecDepth 100000 in
set_option maxHeartbeats 4000000 in
theorem z_X4_hatesAsTold_L9 {p : Program} {e : Env} {s : State} {m : MethodId} {args : Array Value} {below : List Frame} {meth : Method} {c : Code} (l : Launch) (y : Sy) (x1 : Int32) (x2 : Int32) (C : Sd p s m args meth c cX4_hatesAsTold 5 RX4 (some .boolean) y)  (K : Int32 → St → Prop)  : ∀ (n : Nat) (v4 : Int32) (st : St) (H : Heap) (locs : List Loc) (ls : Array Slot), gH 107 enX y st s H locs → lv_has ls 5 [(0, .ref (ad y 10)), (1, .int x1), (2, .int x2), (3, .ref (ad y 6)), (4, .int v4)] → w_X4_hatesAsTold_L9 x1 x2  K n v4 st → W p l e (rmm 4 95) s m args below meth c H locs 0 0 (MQ below (va_Qi K (gB 107 enX y) (gA 107 y)) args s 0 0 (gA 107 y)) (F0 m 9 ls []) := by
  obtain ⟨hx, hb, hml, hown, hts, hr, hlk, hK, hN⟩ := id C
  intro n
  induction n with
  | zero => intro v4 st H locs ls hG hl hw; exact False.elim hw
  | succ n hc9 =>
    intro v4 st H locs ls hG hl hw
    have hw : w_X4_hatesAsTold_L9q x1 x2  K (fun v4 st => w_X4_hatesAsTold_L9 x1 x2  K n v4 st) v4 st := hw
    unfold w_X4_hatesAsTold_L9q at hw
    refine lv_iload hx hb dX4_hatesAsTold_9 (lv_at hl 4 rfl) ?_
    refine lv_aload_n hx hb dX4_hatesAsTold_11 rfl (lv_at hl 3 rfl) ?_
    refine r_ki (r_run_V (k := 6) (As := []) (rest := [.int v4]) hx hb hml hown hts hK hN hG (c_X6_size l y  st _ hw) (by decide) rfl rfl rfl qM_X4_95 qI_X6_size qS_X6_size qN_X6 qC_X6_size hd_X6_size ⟨Nat.le_of_ble_eq_true rfl, Nat.le_of_ble_eq_true rfl⟩ hl.1 rfl (Nat.le_of_ble_eq_true rfl) dX4_hatesAsTold_12) hG (fun r12 st12 H locs hw hG => ?_)
    refine lv_icmp_ge (tgt := 52) hx hb dX4_hatesAsTold_15 (by decide) (fun hc => ?_) (fun hc => ?_)
    · replace hw := hw.1 hc
      refine lv_iconst (v := 1) hx hb dX4_hatesAsTold_52 (by decide) ?_
      exact r_iret hx hb hr hlk hK hG rfl hw dX4_hatesAsTold_53
    · replace hw := hw.2 hc
      refine lv_aload_n hx hb dX4_hatesAsTold_18 rfl (lv_at hl 0 rfl) ?_
      refine r_get (C := RX4) (T := TX4) (Nf := 2) hx hb hts hown hK hG (by decide) rfl rfl inX4 1 (by decide) qF_X4_12 rfl dX4_hatesAsTold_19 ?_
      refine lv_iload_n hx hb dX4_hatesAsTold_22 rfl (lv_at hl 1 rfl) ?_
      refine lv_iload_n hx hb dX4_hatesAsTold_23 rfl (lv_at hl 2 rfl) ?_
      refine r_ki (r_run_V (k := 99) (As := [.int x1, .int x2]) (rest := []) hx hb hml hown hts hK hN hG (c_X1_hateOf l y 99 isC_99 x1 x2 st12 _ hw) (isC.lt isC_99) (isC.e isC_99 y _) rfl rfl qM_X4_29 qI_X1_hateOf qS_X1_hateOf qN_X1 qC_X1_hateOf hd_X1_hateOf ⟨Nat.le_of_ble_eq_true rfl, Nat.le_of_ble_eq_true rfl⟩ hl.1 rfl (Nat.le_of_ble_eq_true rfl) dX4_hatesAsTold_24) hG (fun r24 st24 H locs hw hG => ?_)
      refine lv_aload_n hx hb dX4_hatesAsTold_27 rfl (lv_at hl 3 rfl) ?_
      refine lv_iload hx hb dX4_hatesAsTold_28 (lv_at hl 4 rfl) ?_
      refine r_ki (r_run_V (k := 6) (As := [.int v4]) (rest := [.int r24]) hx hb hml hown hts hK hN hG (c_X6_number l y v4 st24 _ hw) (by decide) rfl rfl rfl qM_X4_103 qI_X6_number qS_X6_number qN_X6 qC_X6_number hd_X6_number ⟨Nat.le_of_ble_eq_true rfl, Nat.le_of_ble_eq_true rfl⟩ hl.1 rfl (Nat.le_of_ble_eq_true rfl) dX4_hatesAsTold_30) hG (fun r30 st30 H locs hw hG => ?_)
      refine lv_icmp_eq (tgt := 38) hx hb dX4_hatesAsTold_33 (by decide) (fun hc => ?_) (fun hc => ?_)
      · replace hw := hw.1 hc
        refine lv_aload_n hx hb dX4_hatesAsTold_38 rfl (lv_at hl 0 rfl) ?_
        refine r_get (C := RX4) (T := TX4) (Nf := 2) hx hb hts hown hK hG (by decide) rfl rfl inX4 1 (by decide) qF_X4_12 rfl dX4_hatesAsTold_39 ?_
        refine r_ki (r_run_V (k := 99) (As := []) (rest := []) hx hb hml hown hts hK hN hG (c_X1_passWeek l y 99 isC_99 st30 _ hw) (isC.lt isC_99) (isC.e isC_99 y _) rfl rfl qM_X4_44 qI_X1_passWeek qS_X1_passWeek qN_X1 qC_X1_passWeek hd_X1_passWeek ⟨Nat.le_of_ble_eq_true rfl, Nat.le_of_ble_eq_true rfl⟩ hl.1 rfl (Nat.le_of_ble_eq_true rfl) dX4_hatesAsTold_42) hG (fun r42 st42 H locs hw hG => ?_)
        refine lv_pop hx hb dX4_hatesAsTold_45 rfl ?_
        refine lv_iinc (v := (v4 + 1)) (lv' := [(4, .int (v4 + 1)), (0, .ref (ad y 10)), (1, .int x1), (2, .int x2), (3, .ref (ad y 6))]) hx hb dX4_hatesAsTold_46 hl (k := 4) rfl rfl (Nat.le_of_ble_eq_true rfl) rfl (fun ls hl => ?_)
        refine lv_goto (tgt := 9) hx hb dX4_hatesAsTold_49 (by decide) ?_
        exact hc9 (v4 + 1) st42 H locs _ hG (lv_sub hl [1, 2, 3, 4, 0] rfl) hw
      · replace hw := hw.2 hc
        refine lv_iconst (v := 0) hx hb dX4_hatesAsTold_36 (by decide) ?_
        exact r_iret hx hb hr hlk hK hG rfl hw dX4_hatesAsTold_37
theorem hd_X4_hatesAsTold : yX4_hatesAsTold.cls ≠ "java/lang/invoke/MethodHandle" ∧ yX4_hatesAsTold.cls ≠ "java/lang/invoke/VarHandle" ∧ (parseMethodDescriptor yX4_hatesAsTold.desc).map (fun d => d.parameters.length) = some 3 := by decide +kernel
set_option maxRecDepth 100000 in
set_option maxHeartbeats 4000000 in
theorem c_X4_hatesAsTold (l : Launch) (y : Sy) (x1 : Int32) (x2 : Int32) (st : St) (K : Int32 → St → Prop) (hw : w_X4_hatesAsTold x1 x2 st K) : Ci 107 enX l yX4_hatesAsTold cX4_hatesAsTold 5 (some .boolean) 4 95 y [.ref (ad y 10), .int x1, .int x2, .ref (ad y 6)] st K := by
  refine ent (by decide) (Nat.le_of_ble_eq_true rfl) ?_
  intro p e s m below meth c C hG ls hl
  have hl : lv_has ls 5 [(0, .ref (ad y 10)), (1, .int x1), (2, .int x2), (3, .ref (ad y 6))] := hl
  generalize ([.ref (ad y 10), .int x1, .int x2, .ref (ad y 6)] : List Value).toArray = args at C ⊢
  have C : Sd p s m args meth c cX4_hatesAsTold 5 RX4 (some .boolean) y := C
  obtain ⟨hx, hb, hml, hown, hts, hr, hlk, hK, hN⟩ := id C
  generalize s.heap = H at hG ⊢
  generalize ([] : List Loc) = locs at hG ⊢
  unfold w_X4_hatesAsTold at hw
  refine lv_aload_n hx hb dX4_hatesAsTold_0 rfl (lv_at hl 3 rfl) ?_
  refine lv_ifnonnull (tgt := 6) hx hb dX4_hatesAsTold_1 (by decide) ?_
  refine lv_iconst (v := 0) hx hb dX4_hatesAsTold_6 (by decide) ?_
  refine lv_istore (lv' := [(4, .int 0), (0, .ref (ad y 10)), (1, .int x1), (2, .int x2), (3, .ref (ad y 6))]) hx hb dX4_hatesAsTold_7 hl (Nat.le_of_ble_eq_true rfl) rfl (fun ls hl => ?_)
  obtain ⟨n9, hw⟩ := hw
  exact z_X4_hatesAsTold_L9 l y x1 x2 C  K  n9 0 st H locs _ hG (lv_sub hl [1, 2, 3, 4, 0] rfl) hw
set_option maxRecDepth 100000 in
set_option maxHeartbeats 4000000 in
theorem z_X4_fittingKinds_b53 {p : Program} {e : Env} {s : State} {m : MethodId} {args : Array Value} {below : List Frame} {meth : Method} {c : Code} (l : Launch) (y : Sy) (x1 : Int32) (x2 : Int32) (C : Sd p s m args meth c cX4_fittingKinds 6 RX4 (some .int) y) (c6 : Int32 → Int32 → St → Prop) (K : Int32 → St → Prop) (hc6 : ∀ (v4 : Int32) (v5 : Int32) (st : St) (H : Heap) (locs : List Loc) (ls : Array Slot), gH 107 enX y st s H locs → lv_has ls 6 [(0, .ref (ad y 10)), (1, .int x1), (2, .int x2), (3, .ref (ad y 6)), (4, .int v4), (5, .int v5)] → c6 v4 v5 st → W p l e (rmm 5 119) s m args below meth c H locs 0 0 (MQ below (va_Qi K (gB 107 enX y) (gA 107 y)) args s 0 0 (gA 107 y)) (F0 m 6 ls [])) (v4 : Int32) (v5 : Int32) (st : St) {H : Heap} {locs : List Loc} {ls : Array Slot} (hG : gH 107 enX y st s H locs) (hl : lv_has ls 6 [(0, .ref (ad y 10)), (1, .int x1), (2, .int x2), (3, .ref (ad y 6)), (4, .int v4), (5, .int v5)]) (hw : w_X4_fittingKinds_b53 x1 x2 c6 K v4 v5 st) : W p l e (rmm 5 119) s m args below meth c H locs 0 0 (MQ below (va_Qi K (gB 107 enX y) (gA 107 y)) args s 0 0 (gA 107 y)) (F0 m 53 ls []) := by
  obtain ⟨hx, hb, hml, hown, hts, hr, hlk, hK, hN⟩ := id C
  unfold w_X4_fittingKinds_b53 at hw
  refine lv_iinc (v := (v5 + 1)) (lv' := [(5, .int (v5 + 1)), (0, .ref (ad y 10)), (1, .int x1), (2, .int x2), (3, .ref (ad y 6)), (4, .int v4)]) hx hb dX4_fittingKinds_53 hl (k := 5) rfl rfl (Nat.le_of_ble_eq_true rfl) rfl (fun ls hl => ?_)
  refine lv_goto (tgt := 6) hx hb dX4_fittingKinds_56 (by decide) ?_
  exact hc6 v4 (v5 + 1) st H locs _ hG (lv_sub hl [1, 2, 3, 4, 5, 0] rfl) hw
set_option maxRecDepth 100000 in
set_option maxHeartbeats 4000000 in
theorem z_X4_fittingKinds_L6 {p : Program} {e : Env} {s : State} {m : MethodId} {args : Array Value} {below : List Frame} {meth : Method} {c : Code} (l : Launch) (y : Sy) (x1 : Int32) (x2 : Int32) (C : Sd p s m args meth c cX4_fittingKinds 6 RX4 (some .int) y)  (K : Int32 → St → Prop)  : ∀ (n : Nat) (v4 : Int32) (v5 : Int32) (st : St) (H : Heap) (locs : List Loc) (ls : Array Slot), gH 107 enX y st s H locs → lv_has ls 6 [(0, .ref (ad y 10)), (1, .int x1), (2, .int x2), (3, .ref (ad y 6)), (4, .int v4), (5, .int v5)] → w_X4_fittingKinds_L6 x1 x2  K n v4 v5 st → W p l e (rmm 5 119) s m args below meth c H locs 0 0 (MQ below (va_Qi K (gB 107 enX y) (gA 107 y)) args s 0 0 (gA 107 y)) (F0 m 6 ls []) := by
  obtain ⟨hx, hb, hml, hown, hts, hr, hlk, hK, hN⟩ := id C
  intro n
  induction n with
  | zero => intro v4 v5 st H locs ls hG hl hw; exact False.elim hw
  | succ n hc6 =>
    intro v4 v5 st H locs ls hG hl hw
    have hw : w_X4_fittingKinds_L6q x1 x2  K (fun v4 v5 st => w_X4_fittingKinds_L6 x1 x2  K n v4 v5 st) v4 v5 st := hw
    unfold w_X4_fittingKinds_L6q at hw
    refine lv_iload hx hb dX4_fittingKinds_6 (lv_at hl 5 rfl) ?_
    refine lv_bipush (v := 6) hx hb dX4_fittingKinds_8 (by decide) ?_
    refine lv_icmp_ge (tgt := 59) hx hb dX4_fittingKinds_10 (by decide) (fun hc => ?_) (fun hc => ?_)
    · replace hw := hw.1 hc
      refine lv_iload hx hb dX4_fittingKinds_59 (lv_at hl 4 rfl) ?_
      exact r_iret hx hb hr hlk hK hG rfl hw dX4_fittingKinds_61
    · replace hw := hw.2 hc
      refine lv_aload_n hx hb dX4_fittingKinds_13 rfl (lv_at hl 0 rfl) ?_
      refine r_get (C := RX4) (T := TX4) (Nf := 2) hx hb hts hown hK hG (by decide) rfl rfl inX4 1 (by decide) qF_X4_12 rfl dX4_fittingKinds_14 ?_
      refine lv_aload_n hx hb dX4_fittingKinds_17 rfl (lv_at hl 0 rfl) ?_
      refine r_get (C := RX4) (T := TX4) (Nf := 2) hx hb hts hown hK hG (by decide) rfl rfl inX4 0 (by decide) qF_X4_18 rfl dX4_fittingKinds_18 ?_
      refine r_kv (r_run_V (k := 99) (As := [.ref (ad y 11)]) (rest := []) hx hb hml hown hts hK hN hG (c_X1_become l y 99 isC_99 11 isC_11 st _ hw) (isC.lt isC_99) (isC.e isC_99 y _) rfl rfl qM_X4_21 qI_X1_become qS_X1_become qN_X1 qC_X1_become hd_X1_become ⟨Nat.le_of_ble_eq_true rfl, Nat.le_of_ble_eq_true rfl⟩ hl.1 rfl (Nat.le_of_ble_eq_true rfl) dX4_fittingKinds_21) hG (fun st21 H locs hw hG => ?_)
      refine lv_aload_n hx hb dX4_fittingKinds_24 rfl (lv_at hl 0 rfl) ?_
      refine r_get (C := RX4) (T := TX4) (Nf := 2) hx hb hts hown hK hG (by decide) rfl rfl inX4 1 (by decide) qF_X4_12 rfl dX4_fittingKinds_25 ?_
      refine lv_iload_n hx hb dX4_fittingKinds_28 rfl (lv_at hl 1 rfl) ?_
      refine lv_iload hx hb dX4_fittingKinds_29 (lv_at hl 5 rfl) ?_
      refine r_kv (r_run_V (k := 99) (As := [.int x1, .int v5]) (rest := []) hx hb hml hown hts hK hN hG (c_X1_setKind l y 99 isC_99 x1 v5 st21 _ hw) (isC.lt isC_99) (isC.e isC_99 y _) rfl rfl qM_X4_106 qI_X1_setKind qS_X1_setKind qN_X1 qC_X1_setKind hd_X1_setKind ⟨Nat.le_of_ble_eq_true rfl, Nat.le_of_ble_eq_true rfl⟩ hl.1 rfl (Nat.le_of_ble_eq_true rfl) dX4_fittingKinds_31) hG (fun st31 H locs hw hG => ?_)
      refine lv_aload_n hx hb dX4_fittingKinds_34 rfl (lv_at hl 0 rfl) ?_
      refine lv_iload_n hx hb dX4_fittingKinds_35 rfl (lv_at hl 1 rfl) ?_
      refine lv_iload_n hx hb dX4_fittingKinds_36 rfl (lv_at hl 2 rfl) ?_
      refine lv_aload_n hx hb dX4_fittingKinds_37 rfl (lv_at hl 3 rfl) ?_
      refine r_ki (r_run_V (k := 10) (As := [.int x1, .int x2, .ref (ad y 6)]) (rest := []) hx hb hml hown hts hK hN hG (c_X4_hatesAsTold l y x1 x2 st31 _ hw) (by decide) rfl rfl rfl qM_X4_109 qI_X4_hatesAsTold qS_X4_hatesAsTold qN_X4 qC_X4_hatesAsTold hd_X4_hatesAsTold ⟨Nat.le_of_ble_eq_true rfl, Nat.le_of_ble_eq_true rfl⟩ hl.1 rfl (Nat.le_of_ble_eq_true rfl) dX4_fittingKinds_38) hG (fun r38 st38 H locs hw hG => ?_)
      refine lv_if_eq (tgt := 53) hx hb dX4_fittingKinds_41 (by decide) (fun hc => ?_) (fun hc => ?_)
      · replace hw := hw.1 hc
        exact z_X4_fittingKinds_b53 l y x1 x2 C (fun v4 v5 st => w_X4_fittingKinds_L6 x1 x2  K n v4 v5 st) K hc6 v4 v5 st38 hG (lv_sub hl [0, 1, 2, 3, 4, 5] rfl) hw
      · replace hw := hw.2 hc
        refine lv_iload hx hb dX4_fittingKinds_44 (lv_at hl 4 rfl) ?_
        refine lv_iconst (v := 1) hx hb dX4_fittingKinds_46 (by decide) ?_
        refine lv_iload hx hb dX4_fittingKinds_47 (lv_at hl 5 rfl) ?_
        refine lv_ishl hx hb dX4_fittingKinds_49 ?_
        refine lv_ior hx hb dX4_fittingKinds_50 ?_
        refine lv_istore (lv' := [(4, .int (v4 ||| ((1 : Int32) <<< (v5 &&& 31)))), (0, .ref (ad y 10)), (1, .int x1), (2, .int x2), (3, .ref (ad y 6)), (5, .int v5)]) hx hb dX4_fittingKinds_51 hl (Nat.le_of_ble_eq_true rfl) rfl (fun ls hl => ?_)
        exact z_X4_fittingKinds_b53 l y x1 x2 C (fun v4 v5 st => w_X4_fittingKinds_L6 x1 x2  K n v4 v5 st) K hc6 (v4 ||| ((1 : Int32) <<< (v5 &&& 31))) v5 st38 hG (lv_sub hl [1, 2, 3, 4, 0, 5] rfl) hw
theorem hd_X4_fittingKinds : yX4_fittingKinds.cls ≠ "java/lang/invoke/MethodHandle" ∧ yX4_fittingKinds.cls ≠ "java/lang/invoke/VarHandle" ∧ (parseMethodDescriptor yX4_fittingKinds.desc).map (fun d => d.parameters.length) = some 3 := by decide +kernel
set_option maxRecDepth 100000 in
set_option maxHeartbeats 4000000 in
theorem c_X4_fittingKinds (l : Launch) (y : Sy) (x1 : Int32) (x2 : Int32) (st : St) (K : Int32 → St → Prop) (hw : w_X4_fittingKinds x1 x2 st K) : Ci 107 enX l yX4_fittingKinds cX4_fittingKinds 6 (some .int) 5 119 y [.ref (ad y 10), .int x1, .int x2, .ref (ad y 6)] st K := by
  refine ent (by decide) (Nat.le_of_ble_eq_true rfl) ?_
  intro p e s m below meth c C hG ls hl
  have hl : lv_has ls 6 [(0, .ref (ad y 10)), (1, .int x1), (2, .int x2), (3, .ref (ad y 6))] := hl
  generalize ([.ref (ad y 10), .int x1, .int x2, .ref (ad y 6)] : List Value).toArray = args at C ⊢
  have C : Sd p s m args meth c cX4_fittingKinds 6 RX4 (some .int) y := C
  obtain ⟨hx, hb, hml, hown, hts, hr, hlk, hK, hN⟩ := id C
  generalize s.heap = H at hG ⊢
  generalize ([] : List Loc) = locs at hG ⊢
  unfold w_X4_fittingKinds at hw
  refine lv_iconst (v := 0) hx hb dX4_fittingKinds_0 (by decide) ?_
  refine lv_istore (lv' := [(4, .int 0), (0, .ref (ad y 10)), (1, .int x1), (2, .int x2), (3, .ref (ad y 6))]) hx hb dX4_fittingKinds_1 hl (Nat.le_of_ble_eq_true rfl) rfl (fun ls hl => ?_)
  refine lv_iconst (v := 0) hx hb dX4_fittingKinds_3 (by decide) ?_
  refine lv_istore (lv' := [(5, .int 0), (4, .int 0), (0, .ref (ad y 10)), (1, .int x1), (2, .int x2), (3, .ref (ad y 6))]) hx hb dX4_fittingKinds_4 hl (Nat.le_of_ble_eq_true rfl) rfl (fun ls hl => ?_)
  obtain ⟨n6, hw⟩ := hw
  exact z_X4_fittingKinds_L6 l y x1 x2 C  K  n6 0 0 st H locs _ hG (lv_sub hl [2, 3, 4, 5, 1, 0] rfl) hw
set_option maxRecDepth 100000 in
set_option maxHeartbeats 4000000 in
theorem z_X4_fittingFigures_b53 {p : Program} {e : Env} {s : State} {m : MethodId} {args : Array Value} {below : List Frame} {meth : Method} {c : Code} (l : Launch) (y : Sy) (x1 : Int32) (x2 : Int32) (C : Sd p s m args meth c cX4_fittingFigures 6 RX4 (some .int) y) (c6 : Int32 → Int32 → St → Prop) (K : Int32 → St → Prop) (hc6 : ∀ (v4 : Int32) (v5 : Int32) (st : St) (H : Heap) (locs : List Loc) (ls : Array Slot), gH 107 enX y st s H locs → lv_has ls 6 [(0, .ref (ad y 10)), (1, .int x1), (2, .int x2), (3, .ref (ad y 6)), (4, .int v4), (5, .int v5)] → c6 v4 v5 st → W p l e (rmm 5 119) s m args below meth c H locs 0 0 (MQ below (va_Qi K (gB 107 enX y) (gA 107 y)) args s 0 0 (gA 107 y)) (F0 m 6 ls [])) (v4 : Int32) (v5 : Int32) (st : St) {H : Heap} {locs : List Loc} {ls : Array Slot} (hG : gH 107 enX y st s H locs) (hl : lv_has ls 6 [(0, .ref (ad y 10)), (1, .int x1), (2, .int x2), (3, .ref (ad y 6)), (4, .int v4), (5, .int v5)]) (hw : w_X4_fittingFigures_b53 x1 x2 c6 K v4 v5 st) : W p l e (rmm 5 119) s m args below meth c H locs 0 0 (MQ below (va_Qi K (gB 107 enX y) (gA 107 y)) args s 0 0 (gA 107 y)) (F0 m 53 ls []) := by
  obtain ⟨hx, hb, hml, hown, hts, hr, hlk, hK, hN⟩ := id C
  unfold w_X4_fittingFigures_b53 at hw
  refine lv_iinc (v := (v5 + 1)) (lv' := [(5, .int (v5 + 1)), (0, .ref (ad y 10)), (1, .int x1), (2, .int x2), (3, .ref (ad y 6)), (4, .int v4)]) hx hb dX4_fittingFigures_53 hl (k := 5) rfl rfl (Nat.le_of_ble_eq_true rfl) rfl (fun ls hl => ?_)
  refine lv_goto (tgt := 6) hx hb dX4_fittingFigures_56 (by decide) ?_
  exact hc6 v4 (v5 + 1) st H locs _ hG (lv_sub hl [1, 2, 3, 4, 5, 0] rfl) hw
set_option maxRecDepth 100000 in
set_option maxHeartbeats 4000000 in
theorem z_X4_fittingFigures_L6 {p : Program} {e : Env} {s : State} {m : MethodId} {args : Array Value} {below : List Frame} {meth : Method} {c : Code} (l : Launch) (y : Sy) (x1 : Int32) (x2 : Int32) (C : Sd p s m args meth c cX4_fittingFigures 6 RX4 (some .int) y)  (K : Int32 → St → Prop)  : ∀ (n : Nat) (v4 : Int32) (v5 : Int32) (st : St) (H : Heap) (locs : List Loc) (ls : Array Slot), gH 107 enX y st s H locs → lv_has ls 6 [(0, .ref (ad y 10)), (1, .int x1), (2, .int x2), (3, .ref (ad y 6)), (4, .int v4), (5, .int v5)] → w_X4_fittingFigures_L6 x1 x2  K n v4 v5 st → W p l e (rmm 5 119) s m args below meth c H locs 0 0 (MQ below (va_Qi K (gB 107 enX y) (gA 107 y)) args s 0 0 (gA 107 y)) (F0 m 6 ls []) := by
  obtain ⟨hx, hb, hml, hown, hts, hr, hlk, hK, hN⟩ := id C
  intro n
  induction n with
  | zero => intro v4 v5 st H locs ls hG hl hw; exact False.elim hw
  | succ n hc6 =>
    intro v4 v5 st H locs ls hG hl hw
    have hw : w_X4_fittingFigures_L6q x1 x2  K (fun v4 v5 st => w_X4_fittingFigures_L6 x1 x2  K n v4 v5 st) v4 v5 st := hw
    unfold w_X4_fittingFigures_L6q at hw
    refine lv_iload hx hb dX4_fittingFigures_6 (lv_at hl 5 rfl) ?_
    refine lv_bipush (v := 9) hx hb dX4_fittingFigures_8 (by decide) ?_
    refine lv_icmp_gt (tgt := 59) hx hb dX4_fittingFigures_10 (by decide) (fun hc => ?_) (fun hc => ?_)
    · replace hw := hw.1 hc
      refine lv_iload hx hb dX4_fittingFigures_59 (lv_at hl 4 rfl) ?_
      exact r_iret hx hb hr hlk hK hG rfl hw dX4_fittingFigures_61
    · replace hw := hw.2 hc
      refine lv_aload_n hx hb dX4_fittingFigures_13 rfl (lv_at hl 0 rfl) ?_
      refine r_get (C := RX4) (T := TX4) (Nf := 2) hx hb hts hown hK hG (by decide) rfl rfl inX4 1 (by decide) qF_X4_12 rfl dX4_fittingFigures_14 ?_
      refine lv_aload_n hx hb dX4_fittingFigures_17 rfl (lv_at hl 0 rfl) ?_
      refine r_get (C := RX4) (T := TX4) (Nf := 2) hx hb hts hown hK hG (by decide) rfl rfl inX4 0 (by decide) qF_X4_18 rfl dX4_fittingFigures_18 ?_
      refine r_kv (r_run_V (k := 99) (As := [.ref (ad y 11)]) (rest := []) hx hb hml hown hts hK hN hG (c_X1_become l y 99 isC_99 11 isC_11 st _ hw) (isC.lt isC_99) (isC.e isC_99 y _) rfl rfl qM_X4_21 qI_X1_become qS_X1_become qN_X1 qC_X1_become hd_X1_become ⟨Nat.le_of_ble_eq_true rfl, Nat.le_of_ble_eq_true rfl⟩ hl.1 rfl (Nat.le_of_ble_eq_true rfl) dX4_fittingFigures_21) hG (fun st21 H locs hw hG => ?_)
      refine lv_aload_n hx hb dX4_fittingFigures_24 rfl (lv_at hl 0 rfl) ?_
      refine r_get (C := RX4) (T := TX4) (Nf := 2) hx hb hts hown hK hG (by decide) rfl rfl inX4 1 (by decide) qF_X4_12 rfl dX4_fittingFigures_25 ?_
      refine lv_iload_n hx hb dX4_fittingFigures_28 rfl (lv_at hl 1 rfl) ?_
      refine lv_iload hx hb dX4_fittingFigures_29 (lv_at hl 5 rfl) ?_
      refine r_kv (r_run_V (k := 99) (As := [.int x1, .int v5]) (rest := []) hx hb hml hown hts hK hN hG (c_X1_setFigure l y 99 isC_99 x1 v5 st21 _ hw) (isC.lt isC_99) (isC.e isC_99 y _) rfl rfl qM_X4_113 qI_X1_setFigure qS_X1_setFigure qN_X1 qC_X1_setFigure hd_X1_setFigure ⟨Nat.le_of_ble_eq_true rfl, Nat.le_of_ble_eq_true rfl⟩ hl.1 rfl (Nat.le_of_ble_eq_true rfl) dX4_fittingFigures_31) hG (fun st31 H locs hw hG => ?_)
      refine lv_aload_n hx hb dX4_fittingFigures_34 rfl (lv_at hl 0 rfl) ?_
      refine lv_iload_n hx hb dX4_fittingFigures_35 rfl (lv_at hl 1 rfl) ?_
      refine lv_iload_n hx hb dX4_fittingFigures_36 rfl (lv_at hl 2 rfl) ?_
      refine lv_aload_n hx hb dX4_fittingFigures_37 rfl (lv_at hl 3 rfl) ?_
      refine r_ki (r_run_V (k := 10) (As := [.int x1, .int x2, .ref (ad y 6)]) (rest := []) hx hb hml hown hts hK hN hG (c_X4_hatesAsTold l y x1 x2 st31 _ hw) (by decide) rfl rfl rfl qM_X4_109 qI_X4_hatesAsTold qS_X4_hatesAsTold qN_X4 qC_X4_hatesAsTold hd_X4_hatesAsTold ⟨Nat.le_of_ble_eq_true rfl, Nat.le_of_ble_eq_true rfl⟩ hl.1 rfl (Nat.le_of_ble_eq_true rfl) dX4_fittingFigures_38) hG (fun r38 st38 H locs hw hG => ?_)
      refine lv_if_eq (tgt := 53) hx hb dX4_fittingFigures_41 (by decide) (fun hc => ?_) (fun hc => ?_)
      · replace hw := hw.1 hc
        exact z_X4_fittingFigures_b53 l y x1 x2 C (fun v4 v5 st => w_X4_fittingFigures_L6 x1 x2  K n v4 v5 st) K hc6 v4 v5 st38 hG (lv_sub hl [0, 1, 2, 3, 4, 5] rfl) hw
      · replace hw := hw.2 hc
        refine lv_iload hx hb dX4_fittingFigures_44 (lv_at hl 4 rfl) ?_
        refine lv_iconst (v := 1) hx hb dX4_fittingFigures_46 (by decide) ?_
        refine lv_iload hx hb dX4_fittingFigures_47 (lv_at hl 5 rfl) ?_
        refine lv_ishl hx hb dX4_fittingFigures_49 ?_
        refine lv_ior hx hb dX4_fittingFigures_50 ?_
        refine lv_istore (lv' := [(4, .int (v4 ||| ((1 : Int32) <<< (v5 &&& 31)))), (0, .ref (ad y 10)), (1, .int x1), (2, .int x2), (3, .ref (ad y 6)), (5, .int v5)]) hx hb dX4_fittingFigures_51 hl (Nat.le_of_ble_eq_true rfl) rfl (fun ls hl => ?_)
        exact z_X4_fittingFigures_b53 l y x1 x2 C (fun v4 v5 st => w_X4_fittingFigures_L6 x1 x2  K n v4 v5 st) K hc6 (v4 ||| ((1 : Int32) <<< (v5 &&& 31))) v5 st38 hG (lv_sub hl [1, 2, 3, 4, 0, 5] rfl) hw
theorem hd_X4_fittingFigures : yX4_fittingFigures.cls ≠ "java/lang/invoke/MethodHandle" ∧ yX4_fittingFigures.cls ≠ "java/lang/invoke/VarHandle" ∧ (parseMethodDescriptor yX4_fittingFigures.desc).map (fun d => d.parameters.length) = some 3 := by decide +kernel
set_option maxRecDepth 100000 in
set_option maxHeartbeats 4000000 in
theorem c_X4_fittingFigures (l : Launch) (y : Sy) (x1 : Int32) (x2 : Int32) (st : St) (K : Int32 → St → Prop) (hw : w_X4_fittingFigures x1 x2 st K) : Ci 107 enX l yX4_fittingFigures cX4_fittingFigures 6 (some .int) 5 119 y [.ref (ad y 10), .int x1, .int x2, .ref (ad y 6)] st K := by
  refine ent (by decide) (Nat.le_of_ble_eq_true rfl) ?_
  intro p e s m below meth c C hG ls hl
  have hl : lv_has ls 6 [(0, .ref (ad y 10)), (1, .int x1), (2, .int x2), (3, .ref (ad y 6))] := hl
  generalize ([.ref (ad y 10), .int x1, .int x2, .ref (ad y 6)] : List Value).toArray = args at C ⊢
  have C : Sd p s m args meth c cX4_fittingFigures 6 RX4 (some .int) y := C
  obtain ⟨hx, hb, hml, hown, hts, hr, hlk, hK, hN⟩ := id C
  generalize s.heap = H at hG ⊢
  generalize ([] : List Loc) = locs at hG ⊢
  unfold w_X4_fittingFigures at hw
  refine lv_iconst (v := 0) hx hb dX4_fittingFigures_0 (by decide) ?_
  refine lv_istore (lv' := [(4, .int 0), (0, .ref (ad y 10)), (1, .int x1), (2, .int x2), (3, .ref (ad y 6))]) hx hb dX4_fittingFigures_1 hl (Nat.le_of_ble_eq_true rfl) rfl (fun ls hl => ?_)
  refine lv_iconst (v := 0) hx hb dX4_fittingFigures_3 (by decide) ?_
  refine lv_istore (lv' := [(5, .int 0), (4, .int 0), (0, .ref (ad y 10)), (1, .int x1), (2, .int x2), (3, .ref (ad y 6))]) hx hb dX4_fittingFigures_4 hl (Nat.le_of_ble_eq_true rfl) rfl (fun ls hl => ?_)
  obtain ⟨n6, hw⟩ := hw
  exact z_X4_fittingFigures_L6 l y x1 x2 C  K  n6 0 0 st H locs _ hG (lv_sub hl [2, 3, 4, 5, 1, 0] rfl) hw
theorem hd_X4_hateMadeUp : yX4_hateMadeUp.cls ≠ "java/lang/invoke/MethodHandle" ∧ yX4_hateMadeUp.cls ≠ "java/lang/invoke/VarHandle" ∧ (parseMethodDescriptor yX4_hateMadeUp.desc).map (fun d => d.parameters.length) = some 2 := by decide +kernel
set_option maxRecDepth 100000 in
set_option maxHeartbeats 4000000 in
theorem c_X4_hateMadeUp (l : Launch) (y : Sy) (x1 : Int32) (x2 : Int32) (st : St) (K : Int32 → St → Prop) (hw : w_X4_hateMadeUp x1 x2 st K) : Ci 107 enX l yX4_hateMadeUp cX4_hateMadeUp 3 (some .int) 5 117 y [.ref (ad y 10), .int x1, .int x2] st K := by
  refine ent (by decide) (Nat.le_of_ble_eq_true rfl) ?_
  intro p e s m below meth c C hG ls hl
  have hl : lv_has ls 3 [(0, .ref (ad y 10)), (1, .int x1), (2, .int x2)] := hl
  generalize ([.ref (ad y 10), .int x1, .int x2] : List Value).toArray = args at C ⊢
  have C : Sd p s m args meth c cX4_hateMadeUp 3 RX4 (some .int) y := C
  obtain ⟨hx, hb, hml, hown, hts, hr, hlk, hK, hN⟩ := id C
  generalize s.heap = H at hG ⊢
  generalize ([] : List Loc) = locs at hG ⊢
  unfold w_X4_hateMadeUp at hw
  refine lv_aload_n hx hb dX4_hateMadeUp_0 rfl (lv_at hl 0 rfl) ?_
  refine r_get (C := RX4) (T := TX4) (Nf := 2) hx hb hts hown hK hG (by decide) rfl rfl inX4 1 (by decide) qF_X4_12 rfl dX4_hateMadeUp_1 ?_
  refine lv_aload_n hx hb dX4_hateMadeUp_4 rfl (lv_at hl 0 rfl) ?_
  refine r_get (C := RX4) (T := TX4) (Nf := 2) hx hb hts hown hK hG (by decide) rfl rfl inX4 0 (by decide) qF_X4_18 rfl dX4_hateMadeUp_5 ?_
  refine r_kv (r_run_V (k := 99) (As := [.ref (ad y 11)]) (rest := []) hx hb hml hown hts hK hN hG (c_X1_become l y 99 isC_99 11 isC_11 st _ hw) (isC.lt isC_99) (isC.e isC_99 y _) rfl rfl qM_X4_21 qI_X1_become qS_X1_become qN_X1 qC_X1_become hd_X1_become ⟨Nat.le_of_ble_eq_true rfl, Nat.le_of_ble_eq_true rfl⟩ hl.1 rfl (Nat.le_of_ble_eq_true rfl) dX4_hateMadeUp_8) hG (fun st8 H locs hw hG => ?_)
  refine lv_aload_n hx hb dX4_hateMadeUp_11 rfl (lv_at hl 0 rfl) ?_
  refine r_get (C := RX4) (T := TX4) (Nf := 2) hx hb hts hown hK hG (by decide) rfl rfl inX4 1 (by decide) qF_X4_12 rfl dX4_hateMadeUp_12 ?_
  refine lv_iload_n hx hb dX4_hateMadeUp_15 rfl (lv_at hl 1 rfl) ?_
  refine lv_iload_n hx hb dX4_hateMadeUp_16 rfl (lv_at hl 2 rfl) ?_
  refine lv_aload_n hx hb dX4_hateMadeUp_17 rfl (lv_at hl 0 rfl) ?_
  refine r_get (C := RX4) (T := TX4) (Nf := 2) hx hb hts hown hK hG (by decide) rfl rfl inX4 0 (by decide) qF_X4_18 rfl dX4_hateMadeUp_18 ?_
  refine lv_iload_n hx hb dX4_hateMadeUp_21 rfl (lv_at hl 1 rfl) ?_
  refine lv_iload_n hx hb dX4_hateMadeUp_22 rfl (lv_at hl 2 rfl) ?_
  refine r_ki (r_run_V (k := 11) (As := [.int x1, .int x2]) (rest := [.int x2, .int x1, .ref (ad y 99)]) hx hb hml hown hts hK hN hG (c_X1_hateOf l y 11 isC_11 x1 x2 st8 _ hw) (isC.lt isC_11) (isC.e isC_11 y _) rfl rfl qM_X4_29 qI_X1_hateOf qS_X1_hateOf qN_X1 qC_X1_hateOf hd_X1_hateOf ⟨Nat.le_of_ble_eq_true rfl, Nat.le_of_ble_eq_true rfl⟩ hl.1 rfl (Nat.le_of_ble_eq_true rfl) dX4_hateMadeUp_23) hG (fun r23 st23 H locs hw hG => ?_)
  refine lv_iconst (v := 2) hx hb dX4_hateMadeUp_26 (by decide) ?_
  refine lv_idiv hx hb dX4_hateMadeUp_27 (by decide) ?_
  refine r_kv (r_run_V (k := 99) (As := [.int x1, .int x2, .int (r23 / 2)]) (rest := []) hx hb hml hown hts hK hN hG (c_X1_setHate l y 99 isC_99 x1 x2 (r23 / 2) st23 _ hw) (isC.lt isC_99) (isC.e isC_99 y _) rfl rfl qM_X4_59 qI_X1_setHate qS_X1_setHate qN_X1 qC_X1_setHate hd_X1_setHate ⟨Nat.le_of_ble_eq_true rfl, Nat.le_of_ble_eq_true rfl⟩ hl.1 rfl (Nat.le_of_ble_eq_true rfl) dX4_hateMadeUp_28) hG (fun st28 H locs hw hG => ?_)
  refine lv_aload_n hx hb dX4_hateMadeUp_31 rfl (lv_at hl 0 rfl) ?_
  refine r_get (C := RX4) (T := TX4) (Nf := 2) hx hb hts hown hK hG (by decide) rfl rfl inX4 1 (by decide) qF_X4_12 rfl dX4_hateMadeUp_32 ?_
  refine lv_iconst (v := 4) hx hb dX4_hateMadeUp_35 (by decide) ?_
  refine r_ki (r_run_V (k := 99) (As := [.int 4]) (rest := []) hx hb hml hown hts hK hN hG (c_X1_passWeeks l y 99 isC_99 4 st28 _ hw) (isC.lt isC_99) (isC.e isC_99 y _) rfl rfl qM_X4_25 qI_X1_passWeeks qS_X1_passWeeks qN_X1 qC_X1_passWeeks hd_X1_passWeeks ⟨Nat.le_of_ble_eq_true rfl, Nat.le_of_ble_eq_true rfl⟩ hl.1 rfl (Nat.le_of_ble_eq_true rfl) dX4_hateMadeUp_36) hG (fun r36 st36 H locs hw hG => ?_)
  refine lv_pop hx hb dX4_hateMadeUp_39 rfl ?_
  refine lv_aload_n hx hb dX4_hateMadeUp_40 rfl (lv_at hl 0 rfl) ?_
  refine r_get (C := RX4) (T := TX4) (Nf := 2) hx hb hts hown hK hG (by decide) rfl rfl inX4 1 (by decide) qF_X4_12 rfl dX4_hateMadeUp_41 ?_
  refine lv_iload_n hx hb dX4_hateMadeUp_44 rfl (lv_at hl 1 rfl) ?_
  refine lv_iload_n hx hb dX4_hateMadeUp_45 rfl (lv_at hl 2 rfl) ?_
  refine r_ki (r_run_V (k := 99) (As := [.int x1, .int x2]) (rest := []) hx hb hml hown hts hK hN hG (c_X1_hateOf l y 99 isC_99 x1 x2 st36 _ hw) (isC.lt isC_99) (isC.e isC_99 y _) rfl rfl qM_X4_29 qI_X1_hateOf qS_X1_hateOf qN_X1 qC_X1_hateOf hd_X1_hateOf ⟨Nat.le_of_ble_eq_true rfl, Nat.le_of_ble_eq_true rfl⟩ hl.1 rfl (Nat.le_of_ble_eq_true rfl) dX4_hateMadeUp_46) hG (fun r46 st46 H locs hw hG => ?_)
  exact r_iret hx hb hr hlk hK hG rfl hw dX4_hateMadeUp_49
set_option maxRecDepth 100000 in
set_option maxHeartbeats 4000000 in
theorem z_X4_gain_b33 {p : Program} {e : Env} {s : State} {m : MethodId} {args : Array Value} {below : List Frame} {meth : Method} {c : Code} (l : Launch) (y : Sy) (x1 : Int32) (x2 : Int32) (x3 : Int32) (x4 : Int32) (x5 : Int32) (C : Sd p s m args meth c cX4_gain 8 RX4 (some .int) y)  (K : Int32 → St → Prop)  (v6 : Int32) (s0 : Int32) (st : St) {H : Heap} {locs : List Loc} {ls : Array Slot} (hG : gH 107 enX y st s H locs) (hl : lv_has ls 8 [(0, .ref (ad y 10)), (1, .int x1), (6, .int v6)]) (hw : w_X4_gain_b33 x1 x2 x3 x4 x5  K v6 s0 st) : W p l e (rmm 2 44) s m args below meth c H locs 0 0 (MQ below (va_Qi K (gB 107 enX y) (gA 107 y)) args s 0 0 (gA 107 y)) (F0 m 33 ls [.int s0]) := by
  obtain ⟨hx, hb, hml, hown, hts, hr, hlk, hK, hN⟩ := id C
  unfold w_X4_gain_b33 at hw
  refine lv_istore (lv' := [(7, .int s0), (0, .ref (ad y 10)), (1, .int x1), (6, .int v6)]) hx hb dX4_gain_33 hl (Nat.le_of_ble_eq_true rfl) rfl (fun ls hl => ?_)
  refine lv_iconst (v := 4) hx hb dX4_gain_35 (by decide) ?_
  refine lv_aload_n hx hb dX4_gain_36 rfl (lv_at hl 1 rfl) ?_
  refine r_get (C := RX4) (T := TX4) (Nf := 2) hx hb hts hown hK hG (by decide) rfl rfl inX4 0 (by decide) qF_X4_18 rfl dX4_gain_37 ?_
  refine lv_iload_n hx hb dX4_gain_40 rfl (lv_at hl 2 rfl) ?_
  refine r_ki (r_run_V (k := 11) (As := [.int x1]) (rest := [.int 4]) hx hb hml hown hts hK hN hG (c_X1_wageOf l y 11 isC_11 x1 st _ hw) (isC.lt isC_11) (isC.e isC_11 y _) rfl rfl qM_X4_126 qI_X1_wageOf qS_X1_wageOf qN_X1 qC_X1_wageOf hd_X1_wageOf ⟨Nat.le_of_ble_eq_true rfl, Nat.le_of_ble_eq_true rfl⟩ hl.1 rfl (Nat.le_of_ble_eq_true rfl) dX4_gain_41) hG (fun r41 st41 H locs hw hG => ?_)
  refine lv_imul hx hb dX4_gain_44 ?_
  refine lv_iload hx hb dX4_gain_45 (lv_at hl 3 rfl) ?_
  refine lv_iconst (v := 2) hx hb dX4_gain_47 (by decide) ?_
  refine lv_idiv hx hb dX4_gain_48 (by decide) ?_
  refine lv_isub hx hb dX4_gain_49 ?_
  refine lv_iload hx hb dX4_gain_50 (lv_at hl 0 rfl) ?_
  refine lv_isub hx hb dX4_gain_52 ?_
  exact r_iret hx hb hr hlk hK hG rfl hw dX4_gain_53
set_option maxRecDepth 100000 in
set_option maxHeartbeats 4000000 in
theorem z_X4_gain_b32 {p : Program} {e : Env} {s : State} {m : MethodId} {args : Array Value} {below : List Frame} {meth : Method} {c : Code} (l : Launch) (y : Sy) (x1 : Int32) (x2 : Int32) (x3 : Int32) (x4 : Int32) (x5 : Int32) (C : Sd p s m args meth c cX4_gain 8 RX4 (some .int) y)  (K : Int32 → St → Prop)  (v6 : Int32) (st : St) {H : Heap} {locs : List Loc} {ls : Array Slot} (hG : gH 107 enX y st s H locs) (hl : lv_has ls 8 [(0, .ref (ad y 10)), (1, .int x1), (6, .int v6)]) (hw : w_X4_gain_b32 x1 x2 x3 x4 x5  K v6 st) : W p l e (rmm 2 44) s m args below meth c H locs 0 0 (MQ below (va_Qi K (gB 107 enX y) (gA 107 y)) args s 0 0 (gA 107 y)) (F0 m 32 ls []) := by
  obtain ⟨hx, hb, hml, hown, hts, hr, hlk, hK, hN⟩ := id C
  unfold w_X4_gain_b32 at hw
  refine lv_iconst (v := 0) hx hb dX4_gain_32 (by decide) ?_
  exact z_X4_gain_b33 l y x1 x2 x3 x4 x5 C  K  v6 0 st hG (lv_sub hl [0, 1, 2] rfl) hw
set_option maxRecDepth 100000 in
set_option maxHeartbeats 4000000 in
theorem z_X4_gain_b17 {p : Program} {e : Env} {s : State} {m : MethodId} {args : Array Value} {below : List Frame} {meth : Method} {c : Code} (l : Launch) (y : Sy) (x1 : Int32) (x2 : Int32) (x3 : Int32) (x4 : Int32) (x5 : Int32) (C : Sd p s m args meth c cX4_gain 8 RX4 (some .int) y)  (K : Int32 → St → Prop)  (s0 : Int32) (st : St) {H : Heap} {locs : List Loc} {ls : Array Slot} (hG : gH 107 enX y st s H locs) (hl : lv_has ls 8 [(0, .ref (ad y 10)), (1, .int x1), (2, .int x2), (3, .int x3)]) (hw : w_X4_gain_b17 x1 x2 x3 x4 x5  K s0 st) : W p l e (rmm 2 44) s m args below meth c H locs 0 0 (MQ below (va_Qi K (gB 107 enX y) (gA 107 y)) args s 0 0 (gA 107 y)) (F0 m 17 ls [.int s0]) := by
  obtain ⟨hx, hb, hml, hown, hts, hr, hlk, hK, hN⟩ := id C
  unfold w_X4_gain_b17 at hw
  refine lv_istore (lv' := [(6, .int s0), (0, .ref (ad y 10)), (1, .int x1), (2, .int x2), (3, .int x3)]) hx hb dX4_gain_17 hl (Nat.le_of_ble_eq_true rfl) rfl (fun ls hl => ?_)
  refine lv_iload_n hx hb dX4_gain_19 rfl (lv_at hl 3 rfl) ?_
  refine lv_iconst (v := 1) hx hb dX4_gain_20 (by decide) ?_
  refine lv_icmp_ne (tgt := 32) hx hb dX4_gain_21 (by decide) (fun hc => ?_) (fun hc => ?_)
  · replace hw := hw.1 hc
    exact z_X4_gain_b32 l y x1 x2 x3 x4 x5 C  K  s0 st hG (lv_sub hl [1, 2, 0] rfl) hw
  · replace hw := hw.2 hc
    refine lv_iload_n hx hb dX4_gain_24 rfl (lv_at hl 4 rfl) ?_
    refine lv_if_ne (tgt := 32) hx hb dX4_gain_25 (by decide) (fun hc => ?_) (fun hc => ?_)
    · replace hw := hw.1 hc
      exact z_X4_gain_b32 l y x1 x2 x3 x4 x5 C  K  s0 st hG (lv_sub hl [1, 2, 0] rfl) hw
    · replace hw := hw.2 hc
      refine lv_iconst (v := 3) hx hb dX4_gain_28 (by decide) ?_
      refine lv_goto (tgt := 33) hx hb dX4_gain_29 (by decide) ?_
      exact z_X4_gain_b33 l y x1 x2 x3 x4 x5 C  K  s0 3 st hG (lv_sub hl [1, 2, 0] rfl) hw
set_option maxRecDepth 100000 in
set_option maxHeartbeats 4000000 in
theorem z_X4_gain_b15 {p : Program} {e : Env} {s : State} {m : MethodId} {args : Array Value} {below : List Frame} {meth : Method} {c : Code} (l : Launch) (y : Sy) (x1 : Int32) (x2 : Int32) (x3 : Int32) (x4 : Int32) (x5 : Int32) (C : Sd p s m args meth c cX4_gain 8 RX4 (some .int) y)  (K : Int32 → St → Prop)   (st : St) {H : Heap} {locs : List Loc} {ls : Array Slot} (hG : gH 107 enX y st s H locs) (hl : lv_has ls 8 [(0, .ref (ad y 10)), (1, .int x1), (2, .int x2), (3, .int x3), (4, .int x4)]) (hw : w_X4_gain_b15 x1 x2 x3 x4 x5  K  st) : W p l e (rmm 2 44) s m args below meth c H locs 0 0 (MQ below (va_Qi K (gB 107 enX y) (gA 107 y)) args s 0 0 (gA 107 y)) (F0 m 15 ls []) := by
  obtain ⟨hx, hb, hml, hown, hts, hr, hlk, hK, hN⟩ := id C
  unfold w_X4_gain_b15 at hw
  refine lv_iload hx hb dX4_gain_15 (lv_at hl 4 rfl) ?_
  exact z_X4_gain_b17 l y x1 x2 x3 x4 x5 C  K  x4 st hG (lv_sub hl [0, 1, 2, 3] rfl) hw
theorem hd_X4_gain : yX4_gain.cls ≠ "java/lang/invoke/MethodHandle" ∧ yX4_gain.cls ≠ "java/lang/invoke/VarHandle" ∧ (parseMethodDescriptor yX4_gain.desc).map (fun d => d.parameters.length) = some 5 := by decide +kernel
set_option maxRecDepth 100000 in
set_option maxHeartbeats 4000000 in
theorem c_X4_gain (l : Launch) (y : Sy) (x1 : Int32) (x2 : Int32) (x3 : Int32) (x4 : Int32) (x5 : Int32) (st : St) (K : Int32 → St → Prop) (hw : w_X4_gain x1 x2 x3 x4 x5 st K) : Ci 107 enX l yX4_gain cX4_gain 8 (some .int) 2 44 y [.ref (ad y 10), .int x1, .int x2, .int x3, .int x4, .int x5] st K := by
  refine ent (by decide) (Nat.le_of_ble_eq_true rfl) ?_
  intro p e s m below meth c C hG ls hl
  have hl : lv_has ls 8 [(0, .ref (ad y 10)), (1, .int x1), (2, .int x2), (3, .int x3), (4, .int x4), (5, .int x5)] := hl
  generalize ([.ref (ad y 10), .int x1, .int x2, .int x3, .int x4, .int x5] : List Value).toArray = args at C ⊢
  have C : Sd p s m args meth c cX4_gain 8 RX4 (some .int) y := C
  obtain ⟨hx, hb, hml, hown, hts, hr, hlk, hK, hN⟩ := id C
  generalize s.heap = H at hG ⊢
  generalize ([] : List Loc) = locs at hG ⊢
  unfold w_X4_gain at hw
  refine lv_iload_n hx hb dX4_gain_0 rfl (lv_at hl 2 rfl) ?_
  refine lv_iconst (v := 1) hx hb dX4_gain_1 (by decide) ?_
  refine lv_icmp_ne (tgt := 15) hx hb dX4_gain_2 (by decide) (fun hc => ?_) (fun hc => ?_)
  · replace hw := hw.1 hc
    exact z_X4_gain_b15 l y x1 x2 x3 x4 x5 C  K  st hG (lv_sub hl [0, 1, 2, 3, 4] rfl) hw
  · replace hw := hw.2 hc
    refine lv_iload_n hx hb dX4_gain_5 rfl (lv_at hl 3 rfl) ?_
    refine lv_iconst (v := 1) hx hb dX4_gain_6 (by decide) ?_
    refine lv_icmp_ne (tgt := 15) hx hb dX4_gain_7 (by decide) (fun hc => ?_) (fun hc => ?_)
    · replace hw := hw.1 hc
      exact z_X4_gain_b15 l y x1 x2 x3 x4 x5 C  K  st hG (lv_sub hl [0, 1, 2, 3, 4] rfl) hw
    · replace hw := hw.2 hc
      refine lv_iload hx hb dX4_gain_10 (lv_at hl 5 rfl) ?_
      refine lv_goto (tgt := 17) hx hb dX4_gain_12 (by decide) ?_
      exact z_X4_gain_b17 l y x1 x2 x3 x4 x5 C  K  x5 st hG (lv_sub hl [0, 1, 2, 3] rfl) hw
set_option maxRecDepth 100000 in
set_option maxHeartbeats 4000000 in
theorem z_X4_settled_b119 {p : Program} {e : Env} {s : State} {m : MethodId} {args : Array Value} {below : List Frame} {meth : Method} {c : Code} (l : Launch) (y : Sy) (x1 : Int32) (x2 : Int32) (C : Sd p s m args meth c cX4_settled 10 RX4 (some .int) y)  (K : Int32 → St → Prop)  (v6 : Int32) (v7 : Int32) (st : St) {H : Heap} {locs : List Loc} {ls : Array Slot} (hG : gH 107 enX y st s H locs) (hl : lv_has ls 10 [(6, .int v6), (7, .int v7)]) (hw : w_X4_settled_b119 x1 x2  K v6 v7 st) : W p l e (rmm 6 140) s m args below meth c H locs 0 0 (MQ below (va_Qi K (gB 107 enX y) (gA 107 y)) args s 0 0 (gA 107 y)) (F0 m 119 ls []) := by
  obtain ⟨hx, hb, hml, hown, hts, hr, hlk, hK, hN⟩ := id C
  unfold w_X4_settled_b119 at hw
  refine lv_bipush (v := 10) hx hb dX4_settled_119 (by decide) ?_
  refine lv_iload hx hb dX4_settled_121 (lv_at hl 0 rfl) ?_
  refine lv_imul hx hb dX4_settled_123 ?_
  refine lv_iload hx hb dX4_settled_124 (lv_at hl 1 rfl) ?_
  refine lv_iadd hx hb dX4_settled_126 ?_
  exact r_iret hx hb hr hlk hK hG rfl hw dX4_settled_127
set_option maxRecDepth 100000 in
set_option maxHeartbeats 4000000 in
theorem z_X4_settled_b128 {p : Program} {e : Env} {s : State} {m : MethodId} {args : Array Value} {below : List Frame} {meth : Method} {c : Code} (l : Launch) (y : Sy) (x1 : Int32) (x2 : Int32) (C : Sd p s m args meth c cX4_settled 10 RX4 (some .int) y) (c19 : Int32 → Int32 → Int32 → St → Prop) (K : Int32 → St → Prop) (hc19 : ∀ (v3 : Int32) (v4 : Int32) (v5 : Int32) (st : St) (H : Heap) (locs : List Loc) (ls : Array Slot), gH 107 enX y st s H locs → lv_has ls 10 [(0, .ref (ad y 10)), (1, .int x1), (2, .int x2), (3, .int v3), (4, .int v4), (5, .int v5)] → c19 v3 v4 v5 st → W p l e (rmm 6 140) s m args below meth c H locs 0 0 (MQ below (va_Qi K (gB 107 enX y) (gA 107 y)) args s 0 0 (gA 107 y)) (F0 m 19 ls [])) (v3 : Int32) (v4 : Int32) (v5 : Int32) (st : St) {H : Heap} {locs : List Loc} {ls : Array Slot} (hG : gH 107 enX y st s H locs) (hl : lv_has ls 10 [(0, .ref (ad y 10)), (1, .int x1), (2, .int x2), (3, .int v3), (4, .int v4), (5, .int v5)]) (hw : w_X4_settled_b128 x1 x2 c19 K v3 v4 v5 st) : W p l e (rmm 6 140) s m args below meth c H locs 0 0 (MQ below (va_Qi K (gB 107 enX y) (gA 107 y)) args s 0 0 (gA 107 y)) (F0 m 128 ls []) := by
  obtain ⟨hx, hb, hml, hown, hts, hr, hlk, hK, hN⟩ := id C
  unfold w_X4_settled_b128 at hw
  refine lv_iinc (v := (v5 + 1)) (lv' := [(5, .int (v5 + 1)), (0, .ref (ad y 10)), (1, .int x1), (2, .int x2), (3, .int v3), (4, .int v4)]) hx hb dX4_settled_128 hl (k := 5) rfl rfl (Nat.le_of_ble_eq_true rfl) rfl (fun ls hl => ?_)
  refine lv_goto (tgt := 19) hx hb dX4_settled_131 (by decide) ?_
  exact hc19 v3 v4 (v5 + 1) st H locs _ hG (lv_sub hl [1, 2, 3, 4, 5, 0] rfl) hw
set_option maxRecDepth 100000 in
set_option maxHeartbeats 4000000 in
theorem z_X4_settled_b107 {p : Program} {e : Env} {s : State} {m : MethodId} {args : Array Value} {below : List Frame} {meth : Method} {c : Code} (l : Launch) (y : Sy) (x1 : Int32) (x2 : Int32) (C : Sd p s m args meth c cX4_settled 10 RX4 (some .int) y) (c19 : Int32 → Int32 → Int32 → St → Prop) (K : Int32 → St → Prop) (hc19 : ∀ (v3 : Int32) (v4 : Int32) (v5 : Int32) (st : St) (H : Heap) (locs : List Loc) (ls : Array Slot), gH 107 enX y st s H locs → lv_has ls 10 [(0, .ref (ad y 10)), (1, .int x1), (2, .int x2), (3, .int v3), (4, .int v4), (5, .int v5)] → c19 v3 v4 v5 st → W p l e (rmm 6 140) s m args below meth c H locs 0 0 (MQ below (va_Qi K (gB 107 enX y) (gA 107 y)) args s 0 0 (gA 107 y)) (F0 m 19 ls [])) (v3 : Int32) (v4 : Int32) (v5 : Int32) (v6 : Int32) (v7 : Int32) (v8 : Int32) (s0 : Int32) (st : St) {H : Heap} {locs : List Loc} {ls : Array Slot} (hG : gH 107 enX y st s H locs) (hl : lv_has ls 10 [(0, .ref (ad y 10)), (1, .int x1), (2, .int x2), (3, .int v3), (4, .int v4), (5, .int v5), (6, .int v6), (7, .int v7), (8, .int v8)]) (hw : w_X4_settled_b107 x1 x2 c19 K v3 v4 v5 v6 v7 v8 s0 st) : W p l e (rmm 6 140) s m args below meth c H locs 0 0 (MQ below (va_Qi K (gB 107 enX y) (gA 107 y)) args s 0 0 (gA 107 y)) (F0 m 107 ls [.int s0]) := by
  obtain ⟨hx, hb, hml, hown, hts, hr, hlk, hK, hN⟩ := id C
  unfold w_X4_settled_b107 at hw
  refine lv_istore (lv' := [(9, .int s0), (0, .ref (ad y 10)), (1, .int x1), (2, .int x2), (3, .int v3), (4, .int v4), (5, .int v5), (6, .int v6), (7, .int v7), (8, .int v8)]) hx hb dX4_settled_107 hl (Nat.le_of_ble_eq_true rfl) rfl (fun ls hl => ?_)
  refine lv_iload hx hb dX4_settled_109 (lv_at hl 9 rfl) ?_
  refine lv_if_eq (tgt := 128) hx hb dX4_settled_111 (by decide) (fun hc => ?_) (fun hc => ?_)
  · replace hw := hw.1 hc
    exact z_X4_settled_b128 l y x1 x2 C c19 K hc19 v3 v4 v5 st hG (lv_sub hl [1, 2, 3, 4, 5, 6] rfl) hw
  · replace hw := hw.2 hc
    refine lv_iload hx hb dX4_settled_114 (lv_at hl 0 rfl) ?_
    refine lv_if_eq (tgt := 128) hx hb dX4_settled_116 (by decide) (fun hc => ?_) (fun hc => ?_)
    · replace hw := hw.1 hc
      exact z_X4_settled_b128 l y x1 x2 C c19 K hc19 v3 v4 v5 st hG (lv_sub hl [1, 2, 3, 4, 5, 6] rfl) hw
    · replace hw := hw.2 hc
      exact z_X4_settled_b119 l y x1 x2 C  K  v6 v7 st hG (lv_sub hl [7, 8] rfl) hw
set_option maxRecDepth 100000 in
set_option maxHeartbeats 4000000 in
theorem z_X4_settled_b71 {p : Program} {e : Env} {s : State} {m : MethodId} {args : Array Value} {below : List Frame} {meth : Method} {c : Code} (l : Launch) (y : Sy) (x1 : Int32) (x2 : Int32) (C : Sd p s m args meth c cX4_settled 10 RX4 (some .int) y) (c19 : Int32 → Int32 → Int32 → St → Prop) (K : Int32 → St → Prop) (hc19 : ∀ (v3 : Int32) (v4 : Int32) (v5 : Int32) (st : St) (H : Heap) (locs : List Loc) (ls : Array Slot), gH 107 enX y st s H locs → lv_has ls 10 [(0, .ref (ad y 10)), (1, .int x1), (2, .int x2), (3, .int v3), (4, .int v4), (5, .int v5)] → c19 v3 v4 v5 st → W p l e (rmm 6 140) s m args below meth c H locs 0 0 (MQ below (va_Qi K (gB 107 enX y) (gA 107 y)) args s 0 0 (gA 107 y)) (F0 m 19 ls [])) (v3 : Int32) (v4 : Int32) (v5 : Int32) (v6 : Int32) (v7 : Int32) (s0 : Int32) (st : St) {H : Heap} {locs : List Loc} {ls : Array Slot} (hG : gH 107 enX y st s H locs) (hl : lv_has ls 10 [(0, .ref (ad y 10)), (1, .int x1), (2, .int x2), (3, .int v3), (4, .int v4), (5, .int v5), (6, .int v6), (7, .int v7)]) (hw : w_X4_settled_b71 x1 x2 c19 K v3 v4 v5 v6 v7 s0 st) : W p l e (rmm 6 140) s m args below meth c H locs 0 0 (MQ below (va_Qi K (gB 107 enX y) (gA 107 y)) args s 0 0 (gA 107 y)) (F0 m 71 ls [.int s0]) := by
  obtain ⟨hx, hb, hml, hown, hts, hr, hlk, hK, hN⟩ := id C
  unfold w_X4_settled_b71 at hw
  refine lv_istore (lv' := [(8, .int s0), (0, .ref (ad y 10)), (1, .int x1), (2, .int x2), (3, .int v3), (4, .int v4), (5, .int v5), (6, .int v6), (7, .int v7)]) hx hb dX4_settled_71 hl (Nat.le_of_ble_eq_true rfl) rfl (fun ls hl => ?_)
  refine lv_aload_n hx hb dX4_settled_73 rfl (lv_at hl 1 rfl) ?_
  refine lv_iload_n hx hb dX4_settled_74 rfl (lv_at hl 3 rfl) ?_
  refine lv_iload hx hb dX4_settled_75 (lv_at hl 8 rfl) ?_
  refine lv_iload hx hb dX4_settled_77 (lv_at hl 7 rfl) ?_
  refine lv_iload_n hx hb dX4_settled_79 rfl (lv_at hl 4 rfl) ?_
  refine lv_iload hx hb dX4_settled_80 (lv_at hl 5 rfl) ?_
  refine r_ki (r_run_V (k := 10) (As := [.int x2, .int v7, .int v6, .int v3, .int v4]) (rest := []) hx hb hml hown hts hK hN hG (c_X4_gain l y x2 v7 v6 v3 v4 st _ hw) (by decide) rfl rfl rfl qM_X4_123 qI_X4_gain qS_X4_gain qN_X4 qC_X4_gain hd_X4_gain ⟨Nat.le_of_ble_eq_true rfl, Nat.le_of_ble_eq_true rfl⟩ hl.1 rfl (Nat.le_of_ble_eq_true rfl) dX4_settled_82) hG (fun r82 st82 H locs hw hG => ?_)
  refine lv_aload_n hx hb dX4_settled_85 rfl (lv_at hl 1 rfl) ?_
  refine lv_iload_n hx hb dX4_settled_86 rfl (lv_at hl 3 rfl) ?_
  refine lv_iconst (v := 1) hx hb dX4_settled_87 (by decide) ?_
  refine lv_iload hx hb dX4_settled_88 (lv_at hl 8 rfl) ?_
  refine lv_isub hx hb dX4_settled_90 ?_
  refine lv_iload hx hb dX4_settled_91 (lv_at hl 7 rfl) ?_
  refine lv_iload_n hx hb dX4_settled_93 rfl (lv_at hl 4 rfl) ?_
  refine lv_iload hx hb dX4_settled_94 (lv_at hl 5 rfl) ?_
  refine r_ki (r_run_V (k := 10) (As := [.int x2, .int (1 - v7), .int v6, .int v3, .int v4]) (rest := [.int r82]) hx hb hml hown hts hK hN hG (c_X4_gain l y x2 (1 - v7) v6 v3 v4 st82 _ hw) (by decide) rfl rfl rfl qM_X4_123 qI_X4_gain qS_X4_gain qN_X4 qC_X4_gain hd_X4_gain ⟨Nat.le_of_ble_eq_true rfl, Nat.le_of_ble_eq_true rfl⟩ hl.1 rfl (Nat.le_of_ble_eq_true rfl) dX4_settled_96) hG (fun r96 st96 H locs hw hG => ?_)
  refine lv_icmp_lt (tgt := 106) hx hb dX4_settled_99 (by decide) (fun hc => ?_) (fun hc => ?_)
  · replace hw := hw.1 hc
    refine lv_iconst (v := 0) hx hb dX4_settled_106 (by decide) ?_
    exact z_X4_settled_b107 l y x1 x2 C c19 K hc19 v3 v4 v5 v6 v7 s0 0 st96 hG (lv_sub hl [1, 2, 3, 4, 5, 6, 7, 8, 0] rfl) hw
  · replace hw := hw.2 hc
    refine lv_iconst (v := 1) hx hb dX4_settled_102 (by decide) ?_
    refine lv_goto (tgt := 107) hx hb dX4_settled_103 (by decide) ?_
    exact z_X4_settled_b107 l y x1 x2 C c19 K hc19 v3 v4 v5 v6 v7 s0 1 st96 hG (lv_sub hl [1, 2, 3, 4, 5, 6, 7, 8, 0] rfl) hw
set_option maxRecDepth 100000 in
set_option maxHeartbeats 4000000 in
theorem z_X4_settled_L19 {p : Program} {e : Env} {s : State} {m : MethodId} {args : Array Value} {below : List Frame} {meth : Method} {c : Code} (l : Launch) (y : Sy) (x1 : Int32) (x2 : Int32) (C : Sd p s m args meth c cX4_settled 10 RX4 (some .int) y)  (K : Int32 → St → Prop)  : ∀ (n : Nat) (v3 : Int32) (v4 : Int32) (v5 : Int32) (st : St) (H : Heap) (locs : List Loc) (ls : Array Slot), gH 107 enX y st s H locs → lv_has ls 10 [(0, .ref (ad y 10)), (1, .int x1), (2, .int x2), (3, .int v3), (4, .int v4), (5, .int v5)] → w_X4_settled_L19 x1 x2  K n v3 v4 v5 st → W p l e (rmm 6 140) s m args below meth c H locs 0 0 (MQ below (va_Qi K (gB 107 enX y) (gA 107 y)) args s 0 0 (gA 107 y)) (F0 m 19 ls []) := by
  obtain ⟨hx, hb, hml, hown, hts, hr, hlk, hK, hN⟩ := id C
  intro n
  induction n with
  | zero => intro v3 v4 v5 st H locs ls hG hl hw; exact False.elim hw
  | succ n hc19 =>
    intro v3 v4 v5 st H locs ls hG hl hw
    have hw : w_X4_settled_L19q x1 x2  K (fun v3 v4 v5 st => w_X4_settled_L19 x1 x2  K n v3 v4 v5 st) v3 v4 v5 st := hw
    unfold w_X4_settled_L19q at hw
    refine lv_iload hx hb dX4_settled_19 (lv_at hl 5 rfl) ?_
    refine lv_iconst (v := 4) hx hb dX4_settled_21 (by decide) ?_
    refine lv_icmp_ge (tgt := 134) hx hb dX4_settled_22 (by decide) (fun hc => ?_) (fun hc => ?_)
    · replace hw := hw.1 hc
      refine lv_bipush (v := (-9)) hx hb dX4_settled_134 (by decide) ?_
      exact r_iret hx hb hr hlk hK hG rfl hw dX4_settled_136
    · replace hw := hw.2 hc
      refine lv_iload hx hb dX4_settled_25 (lv_at hl 5 rfl) ?_
      refine lv_iconst (v := 2) hx hb dX4_settled_27 (by decide) ?_
      refine lv_idiv hx hb dX4_settled_28 (by decide) ?_
      refine lv_istore (lv' := [(6, .int (v5 / 2)), (0, .ref (ad y 10)), (1, .int x1), (2, .int x2), (3, .int v3), (4, .int v4), (5, .int v5)]) hx hb dX4_settled_29 hl (Nat.le_of_ble_eq_true rfl) rfl (fun ls hl => ?_)
      refine lv_iload hx hb dX4_settled_31 (lv_at hl 6 rfl) ?_
      refine lv_iconst (v := 2) hx hb dX4_settled_33 (by decide) ?_
      refine lv_irem hx hb dX4_settled_34 (by decide) ?_
      refine lv_istore (lv' := [(7, .int (v5 - v5 / 2 * 2)), (6, .int (v5 / 2)), (0, .ref (ad y 10)), (1, .int x1), (2, .int x2), (3, .int v3), (4, .int v4), (5, .int v5)]) hx hb dX4_settled_35 hl (Nat.le_of_ble_eq_true rfl) rfl (fun ls hl => ?_)
      refine lv_aload_n hx hb dX4_settled_37 rfl (lv_at hl 2 rfl) ?_
      refine lv_iload_n hx hb dX4_settled_38 rfl (lv_at hl 3 rfl) ?_
      refine lv_iload hx hb dX4_settled_39 (lv_at hl 1 rfl) ?_
      refine lv_iload hx hb dX4_settled_41 (lv_at hl 0 rfl) ?_
      refine lv_iload_n hx hb dX4_settled_43 rfl (lv_at hl 5 rfl) ?_
      refine lv_iload hx hb dX4_settled_44 (lv_at hl 6 rfl) ?_
      refine r_ki (r_run_V (k := 10) (As := [.int x1, .int (v5 / 2), .int (v5 - v5 / 2 * 2), .int v3, .int v4]) (rest := []) hx hb hml hown hts hK hN hG (c_X4_gain l y x1 (v5 / 2) (v5 - v5 / 2 * 2) v3 v4 st _ hw) (by decide) rfl rfl rfl qM_X4_123 qI_X4_gain qS_X4_gain qN_X4 qC_X4_gain hd_X4_gain ⟨Nat.le_of_ble_eq_true rfl, Nat.le_of_ble_eq_true rfl⟩ hl.1 rfl (Nat.le_of_ble_eq_true rfl) dX4_settled_46) hG (fun r46 st46 H locs hw hG => ?_)
      refine lv_aload_n hx hb dX4_settled_49 rfl (lv_at hl 2 rfl) ?_
      refine lv_iload_n hx hb dX4_settled_50 rfl (lv_at hl 3 rfl) ?_
      refine lv_iconst (v := 1) hx hb dX4_settled_51 (by decide) ?_
      refine lv_iload hx hb dX4_settled_52 (lv_at hl 1 rfl) ?_
      refine lv_isub hx hb dX4_settled_54 ?_
      refine lv_iload hx hb dX4_settled_55 (lv_at hl 0 rfl) ?_
      refine lv_iload_n hx hb dX4_settled_57 rfl (lv_at hl 5 rfl) ?_
      refine lv_iload hx hb dX4_settled_58 (lv_at hl 6 rfl) ?_
      refine r_ki (r_run_V (k := 10) (As := [.int x1, .int (1 - (v5 / 2)), .int (v5 - v5 / 2 * 2), .int v3, .int v4]) (rest := [.int r46]) hx hb hml hown hts hK hN hG (c_X4_gain l y x1 (1 - (v5 / 2)) (v5 - v5 / 2 * 2) v3 v4 st46 _ hw) (by decide) rfl rfl rfl qM_X4_123 qI_X4_gain qS_X4_gain qN_X4 qC_X4_gain hd_X4_gain ⟨Nat.le_of_ble_eq_true rfl, Nat.le_of_ble_eq_true rfl⟩ hl.1 rfl (Nat.le_of_ble_eq_true rfl) dX4_settled_60) hG (fun r60 st60 H locs hw hG => ?_)
      refine lv_icmp_lt (tgt := 70) hx hb dX4_settled_63 (by decide) (fun hc => ?_) (fun hc => ?_)
      · replace hw := hw.1 hc
        refine lv_iconst (v := 0) hx hb dX4_settled_70 (by decide) ?_
        exact z_X4_settled_b71 l y x1 x2 C (fun v3 v4 v5 st => w_X4_settled_L19 x1 x2  K n v3 v4 v5 st) K hc19 v3 v4 v5 (v5 / 2) (v5 - v5 / 2 * 2) 0 st60 hG (lv_sub hl [2, 3, 4, 5, 6, 7, 1, 0] rfl) hw
      · replace hw := hw.2 hc
        refine lv_iconst (v := 1) hx hb dX4_settled_66 (by decide) ?_
        refine lv_goto (tgt := 71) hx hb dX4_settled_67 (by decide) ?_
        exact z_X4_settled_b71 l y x1 x2 C (fun v3 v4 v5 st => w_X4_settled_L19 x1 x2  K n v3 v4 v5 st) K hc19 v3 v4 v5 (v5 / 2) (v5 - v5 / 2 * 2) 1 st60 hG (lv_sub hl [2, 3, 4, 5, 6, 7, 1, 0] rfl) hw
theorem hd_X4_settled : yX4_settled.cls ≠ "java/lang/invoke/MethodHandle" ∧ yX4_settled.cls ≠ "java/lang/invoke/VarHandle" ∧ (parseMethodDescriptor yX4_settled.desc).map (fun d => d.parameters.length) = some 2 := by decide +kernel
set_option maxRecDepth 100000 in
set_option maxHeartbeats 4000000 in
theorem c_X4_settled (l : Launch) (y : Sy) (x1 : Int32) (x2 : Int32) (st : St) (K : Int32 → St → Prop) (hw : w_X4_settled x1 x2 st K) : Ci 107 enX l yX4_settled cX4_settled 10 (some .int) 6 140 y [.ref (ad y 10), .int x1, .int x2] st K := by
  refine ent (by decide) (Nat.le_of_ble_eq_true rfl) ?_
  intro p e s m below meth c C hG ls hl
  have hl : lv_has ls 10 [(0, .ref (ad y 10)), (1, .int x1), (2, .int x2)] := hl
  generalize ([.ref (ad y 10), .int x1, .int x2] : List Value).toArray = args at C ⊢
  have C : Sd p s m args meth c cX4_settled 10 RX4 (some .int) y := C
  obtain ⟨hx, hb, hml, hown, hts, hr, hlk, hK, hN⟩ := id C
  generalize s.heap = H at hG ⊢
  generalize ([] : List Loc) = locs at hG ⊢
  unfold w_X4_settled at hw
  refine lv_aload_n hx hb dX4_settled_0 rfl (lv_at hl 0 rfl) ?_
  refine lv_iload_n hx hb dX4_settled_1 rfl (lv_at hl 1 rfl) ?_
  refine lv_iload_n hx hb dX4_settled_2 rfl (lv_at hl 2 rfl) ?_
  refine lv_iconst (v := 4) hx hb dX4_settled_3 (by decide) ?_
  refine r_ki (r_run_V (k := 10) (As := [.int x1, .int x2, .int 4]) (rest := []) hx hb hml hown hts hK hN hG (c_X4_hateAfter l y x1 x2 4 st _ hw) (by decide) rfl rfl rfl qM_X4_116 qI_X4_hateAfter qS_X4_hateAfter qN_X4 qC_X4_hateAfter hd_X4_hateAfter ⟨Nat.le_of_ble_eq_true rfl, Nat.le_of_ble_eq_true rfl⟩ hl.1 rfl (Nat.le_of_ble_eq_true rfl) dX4_settled_4) hG (fun r4 st4 H locs hw hG => ?_)
  refine lv_istore_n (lv' := [(3, .int r4), (0, .ref (ad y 10)), (1, .int x1), (2, .int x2)]) hx hb dX4_settled_7 rfl hl (Nat.le_of_ble_eq_true rfl) rfl (fun ls hl => ?_)
  refine lv_aload_n hx hb dX4_settled_8 rfl (lv_at hl 1 rfl) ?_
  refine lv_iload_n hx hb dX4_settled_9 rfl (lv_at hl 2 rfl) ?_
  refine lv_iload_n hx hb dX4_settled_10 rfl (lv_at hl 3 rfl) ?_
  refine r_ki (r_run_V (k := 10) (As := [.int x1, .int x2]) (rest := []) hx hb hml hown hts hK hN hG (c_X4_hateMadeUp l y x1 x2 st4 _ hw) (by decide) rfl rfl rfl qM_X4_120 qI_X4_hateMadeUp qS_X4_hateMadeUp qN_X4 qC_X4_hateMadeUp hd_X4_hateMadeUp ⟨Nat.le_of_ble_eq_true rfl, Nat.le_of_ble_eq_true rfl⟩ hl.1 rfl (Nat.le_of_ble_eq_true rfl) dX4_settled_11) hG (fun r11 st11 H locs hw hG => ?_)
  refine lv_istore (lv' := [(4, .int r11), (3, .int r4), (0, .ref (ad y 10)), (1, .int x1), (2, .int x2)]) hx hb dX4_settled_14 hl (Nat.le_of_ble_eq_true rfl) rfl (fun ls hl => ?_)
  refine lv_iconst (v := 0) hx hb dX4_settled_16 (by decide) ?_
  refine lv_istore (lv' := [(5, .int 0), (4, .int r11), (3, .int r4), (0, .ref (ad y 10)), (1, .int x1), (2, .int x2)]) hx hb dX4_settled_17 hl (Nat.le_of_ble_eq_true rfl) rfl (fun ls hl => ?_)
  obtain ⟨n19, hw⟩ := hw
  exact z_X4_settled_L19 l y x1 x2 C  K  n19 r4 r11 0 st11 H locs _ hG (lv_sub hl [3, 4, 5, 2, 1, 0] rfl) hw
