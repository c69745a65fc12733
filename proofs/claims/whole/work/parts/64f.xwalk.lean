theorem hd_X8_two : yX8_two.cls ≠ "java/lang/invoke/MethodHandle" ∧ yX8_two.cls ≠ "java/lang/invoke/VarHandle" ∧ (parseMethodDescriptor yX8_two.desc).map (fun d => d.parameters.length) = some 2 := by decide +kernel
set_option maxRecDepth 100000 in
set_option maxHeartbeats 4000000 in
theorem c_X8_two (l : Launch) (y : Sy) (x1 : Int32) (x2 : Int32) (st : St) (K : Int32 → St → Prop) (hw : w_X8_two x1 x2 st K) : Ci 107 enX l yX8_two cX8_two 4 (some .int) 7 169 y [.ref (ad y 0), .int x1, .int x2] st K := by
  refine ent (by decide) (Nat.le_of_ble_eq_true rfl) ?_
  intro p e s m below meth c C hG ls hl
  have hl : lv_has ls 4 [(0, .ref (ad y 0)), (1, .int x1), (2, .int x2)] := hl
  generalize ([.ref (ad y 0), .int x1, .int x2] : List Value).toArray = args at C ⊢
  have C : Sd p s m args meth c cX8_two 4 RX8 (some .int) y := C
  obtain ⟨hx, hb, hml, hown, hts, hr, hlk, hK, hN⟩ := id C
  generalize s.heap = H at hG ⊢
  generalize ([] : List Loc) = locs at hG ⊢
  unfold w_X8_two at hw
  refine lv_aload_n hx hb dX8_two_0 rfl (lv_at hl 0 rfl) ?_
  refine lv_iload_n hx hb dX8_two_1 rfl (lv_at hl 1 rfl) ?_
  refine lv_iload_n hx hb dX8_two_2 rfl (lv_at hl 2 rfl) ?_
  refine r_ki (r_run_V (k := 0) (As := [.int x1, .int x2]) (rest := []) hx hb hml hown hts hK hN hG (c_X8_twoRefusal l y x1 x2 st _ hw) (by decide) rfl rfl rfl qM_X8_135 qI_X8_twoRefusal qS_X8_twoRefusal qN_X8 qC_X8_twoRefusal hd_X8_twoRefusal ⟨Nat.le_of_ble_eq_true rfl, Nat.le_of_ble_eq_true rfl⟩ hl.1 rfl (Nat.le_of_ble_eq_true rfl) dX8_two_3) hG (fun r3 st3 H locs hw hG => ?_)
  refine lv_istore_n (lv' := [(3, .int r3), (0, .ref (ad y 0)), (1, .int x1), (2, .int x2)]) hx hb dX8_two_6 rfl hl (Nat.le_of_ble_eq_true rfl) rfl (fun ls hl => ?_)
  refine lv_iload_n hx hb dX8_two_7 rfl (lv_at hl 0 rfl) ?_
  refine lv_if_eq (tgt := 19) hx hb dX8_two_8 (by decide) (fun hc => ?_) (fun hc => ?_)
  · replace hw := hw.1 hc
    refine lv_aload_n hx hb dX8_two_19 rfl (lv_at hl 1 rfl) ?_
    refine r_get (C := RX8) (T := TX8) (Nf := 10) hx hb hts hown hK hG (by decide) rfl rfl inX8 8 (by decide) qF_X8_59 rfl dX8_two_20 ?_
    refine lv_iload_n hx hb dX8_two_23 rfl (lv_at hl 2 rfl) ?_
    refine lv_iload_n hx hb dX8_two_24 rfl (lv_at hl 3 rfl) ?_
    refine r_ki (r_run_V (k := 10) (As := [.int x1, .int x2]) (rest := []) hx hb hml hown hts hK hN hG (c_X4_settled l y x1 x2 st3 _ hw) (by decide) rfl rfl rfl qM_X8_244 qI_X4_settled qS_X4_settled qN_X4 qC_X4_settled hd_X4_settled ⟨Nat.le_of_ble_eq_true rfl, Nat.le_of_ble_eq_true rfl⟩ hl.1 rfl (Nat.le_of_ble_eq_true rfl) dX8_two_25) hG (fun r25 st25 H locs hw hG => ?_)
    exact r_iret hx hb hr hlk hK hG rfl hw dX8_two_28
  · replace hw := hw.2 hc
    refine lv_aload_n hx hb dX8_two_11 rfl (lv_at hl 1 rfl) ?_
    refine lv_iload_n hx hb dX8_two_12 rfl (lv_at hl 0 rfl) ?_
    refine r_ki (r_run_V (k := 0) (As := [.int r3]) (rest := []) hx hb hml hown hts hK hN hG (c_X8_refused l y r3 st3 _ hw) (by decide) rfl rfl rfl qM_X8_74 qI_X8_refused qS_X8_refused qN_X8 qC_X8_refused hd_X8_refused ⟨Nat.le_of_ble_eq_true rfl, Nat.le_of_ble_eq_true rfl⟩ hl.1 rfl (Nat.le_of_ble_eq_true rfl) dX8_two_13) hG (fun r13 st13 H locs hw hG => ?_)
    refine lv_goto (tgt := 28) hx hb dX8_two_16 (by decide) ?_
    exact r_iret hx hb hr hlk hK hG rfl hw dX8_two_28
theorem hd_X8_send : yX8_send.cls ≠ "java/lang/invoke/MethodHandle" ∧ yX8_send.cls ≠ "java/lang/invoke/VarHandle" ∧ (parseMethodDescriptor yX8_send.desc).map (fun d => d.parameters.length) = some 1 := by decide +kernel
set_option maxRecDepth 100000 in
set_option maxHeartbeats 4000000 in
theorem c_X8_send (l : Launch) (y : Sy) (x1 : Int32) (st : St) (K : Int32 → St → Prop) (hw : w_X8_send x1 st K) : Ci 107 enX l yX8_send cX8_send 3 (some .int) 7 164 y [.ref (ad y 0), .int x1] st K := by
  refine ent (by decide) (Nat.le_of_ble_eq_true rfl) ?_
  intro p e s m below meth c C hG ls hl
  have hl : lv_has ls 3 [(0, .ref (ad y 0)), (1, .int x1)] := hl
  generalize ([.ref (ad y 0), .int x1] : List Value).toArray = args at C ⊢
  have C : Sd p s m args meth c cX8_send 3 RX8 (some .int) y := C
  obtain ⟨hx, hb, hml, hown, hts, hr, hlk, hK, hN⟩ := id C
  generalize s.heap = H at hG ⊢
  generalize ([] : List Loc) = locs at hG ⊢
  unfold w_X8_send at hw
  refine lv_iload_n hx hb dX8_send_0 rfl (lv_at hl 1 rfl) ?_
  refine lv_iconst (v := 0) hx hb dX8_send_1 (by decide) ?_
  refine lv_bipush (v := 60) hx hb dX8_send_2 (by decide) ?_
  refine r_ki (r_run_S (As := [.int x1, .int 0, .int 60]) (rest := []) hx hb hml hown hts hK hN hG (c_X8_range l y x1 0 60 st _ hw) qM_X8_63 qT_X8_range qN_X8 qC_X8_range hd_X8_range ⟨Nat.le_of_ble_eq_true rfl, Nat.le_of_ble_eq_true rfl⟩ hl.1 rfl (Nat.le_of_ble_eq_true rfl) dX8_send_4) hG (fun r4 st4 H locs hw hG => ?_)
  refine lv_istore_n (lv' := [(2, .int r4), (0, .ref (ad y 0)), (1, .int x1)]) hx hb dX8_send_7 rfl hl (Nat.le_of_ble_eq_true rfl) rfl (fun ls hl => ?_)
  refine lv_iload_n hx hb dX8_send_8 rfl (lv_at hl 0 rfl) ?_
  refine lv_if_eq (tgt := 20) hx hb dX8_send_9 (by decide) (fun hc => ?_) (fun hc => ?_)
  · replace hw := hw.1 hc
    refine lv_aload_n hx hb dX8_send_20 rfl (lv_at hl 1 rfl) ?_
    refine r_get (C := RX8) (T := TX8) (Nf := 10) hx hb hts hown hK hG (by decide) rfl rfl inX8 8 (by decide) qF_X8_59 rfl dX8_send_21 ?_
    refine lv_iload_n hx hb dX8_send_24 rfl (lv_at hl 2 rfl) ?_
    refine r_ki (r_run_V (k := 10) (As := [.int x1]) (rest := []) hx hb hml hown hts hK hN hG (c_X4_bestSending l y x1 st4 _ hw) (by decide) rfl rfl rfl qM_X8_247 qI_X4_bestSending qS_X4_bestSending qN_X4 qC_X4_bestSending hd_X4_bestSending ⟨Nat.le_of_ble_eq_true rfl, Nat.le_of_ble_eq_true rfl⟩ hl.1 rfl (Nat.le_of_ble_eq_true rfl) dX8_send_25) hG (fun r25 st25 H locs hw hG => ?_)
    exact r_iret hx hb hr hlk hK hG rfl hw dX8_send_28
  · replace hw := hw.2 hc
    refine lv_aload_n hx hb dX8_send_12 rfl (lv_at hl 1 rfl) ?_
    refine lv_iload_n hx hb dX8_send_13 rfl (lv_at hl 0 rfl) ?_
    refine r_ki (r_run_V (k := 0) (As := [.int r4]) (rest := []) hx hb hml hown hts hK hN hG (c_X8_refused l y r4 st4 _ hw) (by decide) rfl rfl rfl qM_X8_74 qI_X8_refused qS_X8_refused qN_X8 qC_X8_refused hd_X8_refused ⟨Nat.le_of_ble_eq_true rfl, Nat.le_of_ble_eq_true rfl⟩ hl.1 rfl (Nat.le_of_ble_eq_true rfl) dX8_send_14) hG (fun r14 st14 H locs hw hG => ?_)
    refine lv_goto (tgt := 28) hx hb dX8_send_17 (by decide) ?_
    exact r_iret hx hb hr hlk hK hG rfl hw dX8_send_28
theorem hd_X8_swap : yX8_swap.cls ≠ "java/lang/invoke/MethodHandle" ∧ yX8_swap.cls ≠ "java/lang/invoke/VarHandle" ∧ (parseMethodDescriptor yX8_swap.desc).map (fun d => d.parameters.length) = some 1 := by decide +kernel
set_option maxRecDepth 100000 in
set_option maxHeartbeats 4000000 in
theorem c_X8_swap (l : Launch) (y : Sy) (x1 : Int32) (st : St) (K : Int32 → St → Prop) (hw : w_X8_swap x1 st K) : Ci 107 enX l yX8_swap cX8_swap 3 (some .int) 7 164 y [.ref (ad y 0), .int x1] st K := by
  refine ent (by decide) (Nat.le_of_ble_eq_true rfl) ?_
  intro p e s m below meth c C hG ls hl
  have hl : lv_has ls 3 [(0, .ref (ad y 0)), (1, .int x1)] := hl
  generalize ([.ref (ad y 0), .int x1] : List Value).toArray = args at C ⊢
  have C : Sd p s m args meth c cX8_swap 3 RX8 (some .int) y := C
  obtain ⟨hx, hb, hml, hown, hts, hr, hlk, hK, hN⟩ := id C
  generalize s.heap = H at hG ⊢
  generalize ([] : List Loc) = locs at hG ⊢
  unfold w_X8_swap at hw
  refine lv_iload_n hx hb dX8_swap_0 rfl (lv_at hl 1 rfl) ?_
  refine lv_iconst (v := 0) hx hb dX8_swap_1 (by decide) ?_
  refine lv_bipush (v := 60) hx hb dX8_swap_2 (by decide) ?_
  refine r_ki (r_run_S (As := [.int x1, .int 0, .int 60]) (rest := []) hx hb hml hown hts hK hN hG (c_X8_range l y x1 0 60 st _ hw) qM_X8_63 qT_X8_range qN_X8 qC_X8_range hd_X8_range ⟨Nat.le_of_ble_eq_true rfl, Nat.le_of_ble_eq_true rfl⟩ hl.1 rfl (Nat.le_of_ble_eq_true rfl) dX8_swap_4) hG (fun r4 st4 H locs hw hG => ?_)
  refine lv_istore_n (lv' := [(2, .int r4), (0, .ref (ad y 0)), (1, .int x1)]) hx hb dX8_swap_7 rfl hl (Nat.le_of_ble_eq_true rfl) rfl (fun ls hl => ?_)
  refine lv_iload_n hx hb dX8_swap_8 rfl (lv_at hl 0 rfl) ?_
  refine lv_if_eq (tgt := 20) hx hb dX8_swap_9 (by decide) (fun hc => ?_) (fun hc => ?_)
  · replace hw := hw.1 hc
    refine lv_aload_n hx hb dX8_swap_20 rfl (lv_at hl 1 rfl) ?_
    refine r_get (C := RX8) (T := TX8) (Nf := 10) hx hb hts hown hK hG (by decide) rfl rfl inX8 8 (by decide) qF_X8_59 rfl dX8_swap_21 ?_
    refine lv_iload_n hx hb dX8_swap_24 rfl (lv_at hl 2 rfl) ?_
    refine r_ki (r_run_V (k := 10) (As := [.int x1]) (rest := []) hx hb hml hown hts hK hN hG (c_X4_bestSwap l y x1 st4 _ hw) (by decide) rfl rfl rfl qM_X8_250 qI_X4_bestSwap qS_X4_bestSwap qN_X4 qC_X4_bestSwap hd_X4_bestSwap ⟨Nat.le_of_ble_eq_true rfl, Nat.le_of_ble_eq_true rfl⟩ hl.1 rfl (Nat.le_of_ble_eq_true rfl) dX8_swap_25) hG (fun r25 st25 H locs hw hG => ?_)
    exact r_iret hx hb hr hlk hK hG rfl hw dX8_swap_28
  · replace hw := hw.2 hc
    refine lv_aload_n hx hb dX8_swap_12 rfl (lv_at hl 1 rfl) ?_
    refine lv_iload_n hx hb dX8_swap_13 rfl (lv_at hl 0 rfl) ?_
    refine r_ki (r_run_V (k := 0) (As := [.int r4]) (rest := []) hx hb hml hown hts hK hN hG (c_X8_refused l y r4 st4 _ hw) (by decide) rfl rfl rfl qM_X8_74 qI_X8_refused qS_X8_refused qN_X8 qC_X8_refused hd_X8_refused ⟨Nat.le_of_ble_eq_true rfl, Nat.le_of_ble_eq_true rfl⟩ hl.1 rfl (Nat.le_of_ble_eq_true rfl) dX8_swap_14) hG (fun r14 st14 H locs hw hG => ?_)
    refine lv_goto (tgt := 28) hx hb dX8_swap_17 (by decide) ?_
    exact r_iret hx hb hr hlk hK hG rfl hw dX8_swap_28
theorem hd_X8_places : yX8_places.cls ≠ "java/lang/invoke/MethodHandle" ∧ yX8_places.cls ≠ "java/lang/invoke/VarHandle" ∧ (parseMethodDescriptor yX8_places.desc).map (fun d => d.parameters.length) = some 5 := by decide +kernel
set_option maxRecDepth 100000 in
set_option maxHeartbeats 4000000 in
theorem c_X8_places (l : Launch) (y : Sy) (x1 : Int32) (x2 : Int32) (x3 : Int32) (x4 : Int32) (x5 : Int32) (st : St) (K : Int32 → St → Prop) (hw : w_X8_places x1 x2 x3 x4 x5 st K) : Ci 107 enX l yX8_places cX8_places 9 (some .int) 7 171 y [.ref (ad y 0), .int x1, .int x2, .int x3, .int x4, .int x5] st K := by
  refine ent (by decide) (Nat.le_of_ble_eq_true rfl) ?_
  intro p e s m below meth c C hG ls hl
  have hl : lv_has ls 9 [(0, .ref (ad y 0)), (1, .int x1), (2, .int x2), (3, .int x3), (4, .int x4), (5, .int x5)] := hl
  generalize ([.ref (ad y 0), .int x1, .int x2, .int x3, .int x4, .int x5] : List Value).toArray = args at C ⊢
  have C : Sd p s m args meth c cX8_places 9 RX8 (some .int) y := C
  obtain ⟨hx, hb, hml, hown, hts, hr, hlk, hK, hN⟩ := id C
  generalize s.heap = H at hG ⊢
  generalize ([] : List Loc) = locs at hG ⊢
  unfold w_X8_places at hw
  refine lv_aload_n hx hb dX8_places_0 rfl (lv_at hl 0 rfl) ?_
  refine lv_iload_n hx hb dX8_places_1 rfl (lv_at hl 1 rfl) ?_
  refine lv_iload_n hx hb dX8_places_2 rfl (lv_at hl 2 rfl) ?_
  refine r_ki (r_run_V (k := 0) (As := [.int x1, .int x2]) (rest := []) hx hb hml hown hts hK hN hG (c_X8_twoRefusal l y x1 x2 st _ hw) (by decide) rfl rfl rfl qM_X8_135 qI_X8_twoRefusal qS_X8_twoRefusal qN_X8 qC_X8_twoRefusal hd_X8_twoRefusal ⟨Nat.le_of_ble_eq_true rfl, Nat.le_of_ble_eq_true rfl⟩ hl.1 rfl (Nat.le_of_ble_eq_true rfl) dX8_places_3) hG (fun r3 st3 H locs hw hG => ?_)
  refine lv_aload_n hx hb dX8_places_6 rfl (lv_at hl 0 rfl) ?_
  refine lv_iload_n hx hb dX8_places_7 rfl (lv_at hl 1 rfl) ?_
  refine lv_iload_n hx hb dX8_places_8 rfl (lv_at hl 3 rfl) ?_
  refine r_ki (r_run_V (k := 0) (As := [.int x1, .int x3]) (rest := [.int r3]) hx hb hml hown hts hK hN hG (c_X8_twoRefusal l y x1 x3 st3 _ hw) (by decide) rfl rfl rfl qM_X8_135 qI_X8_twoRefusal qS_X8_twoRefusal qN_X8 qC_X8_twoRefusal hd_X8_twoRefusal ⟨Nat.le_of_ble_eq_true rfl, Nat.le_of_ble_eq_true rfl⟩ hl.1 rfl (Nat.le_of_ble_eq_true rfl) dX8_places_9) hG (fun r9 st9 H locs hw hG => ?_)
  refine lv_aload_n hx hb dX8_places_12 rfl (lv_at hl 0 rfl) ?_
  refine lv_iload_n hx hb dX8_places_13 rfl (lv_at hl 2 rfl) ?_
  refine lv_iload_n hx hb dX8_places_14 rfl (lv_at hl 3 rfl) ?_
  refine r_ki (r_run_V (k := 0) (As := [.int x2, .int x3]) (rest := [.int r9, .int r3]) hx hb hml hown hts hK hN hG (c_X8_twoRefusal l y x2 x3 st9 _ hw) (by decide) rfl rfl rfl qM_X8_135 qI_X8_twoRefusal qS_X8_twoRefusal qN_X8 qC_X8_twoRefusal hd_X8_twoRefusal ⟨Nat.le_of_ble_eq_true rfl, Nat.le_of_ble_eq_true rfl⟩ hl.1 rfl (Nat.le_of_ble_eq_true rfl) dX8_places_15) hG (fun r15 st15 H locs hw hG => ?_)
  refine r_ki (r_run_S (As := [.int r3, .int r9, .int r15]) (rest := []) hx hb hml hown hts hK hN hG (c_X8_firstOf l y r3 r9 r15 st15 _ hw) qM_X8_71 qT_X8_firstOf qN_X8 qC_X8_firstOf hd_X8_firstOf ⟨Nat.le_of_ble_eq_true rfl, Nat.le_of_ble_eq_true rfl⟩ hl.1 rfl (Nat.le_of_ble_eq_true rfl) dX8_places_18) hG (fun r18 st18 H locs hw hG => ?_)
  refine lv_istore (lv' := [(6, .int r18), (0, .ref (ad y 0)), (1, .int x1), (2, .int x2), (3, .int x3), (4, .int x4), (5, .int x5)]) hx hb dX8_places_21 hl (Nat.le_of_ble_eq_true rfl) rfl (fun ls hl => ?_)
  refine lv_iload hx hb dX8_places_23 (lv_at hl 0 rfl) ?_
  refine lv_iload hx hb dX8_places_25 (lv_at hl 5 rfl) ?_
  refine lv_iconst (v := 0) hx hb dX8_places_27 (by decide) ?_
  refine lv_bipush (v := 60) hx hb dX8_places_28 (by decide) ?_
  refine r_ki (r_run_S (As := [.int x4, .int 0, .int 60]) (rest := [.int r18]) hx hb hml hown hts hK hN hG (c_X8_range l y x4 0 60 st18 _ hw) qM_X8_63 qT_X8_range qN_X8 qC_X8_range hd_X8_range ⟨Nat.le_of_ble_eq_true rfl, Nat.le_of_ble_eq_true rfl⟩ hl.1 rfl (Nat.le_of_ble_eq_true rfl) dX8_places_30) hG (fun r30 st30 H locs hw hG => ?_)
  refine lv_iload hx hb dX8_places_33 (lv_at hl 6 rfl) ?_
  refine lv_iconst (v := 1) hx hb dX8_places_35 (by decide) ?_
  refine r_ki (r_run_S (As := [.int x5, .int 1]) (rest := [.int r30, .int r18]) hx hb hml hown hts hK hN hG (c_X8_choice l y x5 1 st30 _ hw) qM_X8_97 qT_X8_choice qN_X8 qC_X8_choice hd_X8_choice ⟨Nat.le_of_ble_eq_true rfl, Nat.le_of_ble_eq_true rfl⟩ hl.1 rfl (Nat.le_of_ble_eq_true rfl) dX8_places_36) hG (fun r36 st36 H locs hw hG => ?_)
  refine r_ki (r_run_S (As := [.int r18, .int r30, .int r36]) (rest := []) hx hb hml hown hts hK hN hG (c_X8_firstOf l y r18 r30 r36 st36 _ hw) qM_X8_71 qT_X8_firstOf qN_X8 qC_X8_firstOf hd_X8_firstOf ⟨Nat.le_of_ble_eq_true rfl, Nat.le_of_ble_eq_true rfl⟩ hl.1 rfl (Nat.le_of_ble_eq_true rfl) dX8_places_39) hG (fun r39 st39 H locs hw hG => ?_)
  refine lv_istore (lv' := [(7, .int r39), (6, .int r18), (0, .ref (ad y 0)), (1, .int x1), (2, .int x2), (3, .int x3), (4, .int x4), (5, .int x5)]) hx hb dX8_places_42 hl (Nat.le_of_ble_eq_true rfl) rfl (fun ls hl => ?_)
  refine lv_iload hx hb dX8_places_44 (lv_at hl 0 rfl) ?_
  refine lv_if_eq (tgt := 56) hx hb dX8_places_46 (by decide) (fun hc => ?_) (fun hc => ?_)
  · replace hw := hw.1 hc
    refine lv_aload_n hx hb dX8_places_56 rfl (lv_at hl 2 rfl) ?_
    refine r_get (C := RX8) (T := TX8) (Nf := 10) hx hb hts hown hK hG (by decide) rfl rfl inX8 8 (by decide) qF_X8_59 rfl dX8_places_57 ?_
    refine lv_iload_n hx hb dX8_places_60 rfl (lv_at hl 3 rfl) ?_
    refine lv_iload_n hx hb dX8_places_61 rfl (lv_at hl 4 rfl) ?_
    refine lv_iload_n hx hb dX8_places_62 rfl (lv_at hl 5 rfl) ?_
    refine lv_iload hx hb dX8_places_63 (lv_at hl 6 rfl) ?_
    refine r_ki (r_run_V (k := 10) (As := [.int x1, .int x2, .int x3, .int x4]) (rest := []) hx hb hml hown hts hK hN hG (c_X4_bestPlaces l y x1 x2 x3 x4 st39 _ hw) (by decide) rfl rfl rfl qM_X8_253 qI_X4_bestPlaces qS_X4_bestPlaces qN_X4 qC_X4_bestPlaces hd_X4_bestPlaces ⟨Nat.le_of_ble_eq_true rfl, Nat.le_of_ble_eq_true rfl⟩ hl.1 rfl (Nat.le_of_ble_eq_true rfl) dX8_places_65) hG (fun r65 st65 H locs hw hG => ?_)
    refine lv_istore (lv' := [(8, .int r65), (7, .int r39), (6, .int r18), (0, .ref (ad y 0)), (1, .int x1), (2, .int x2), (3, .int x3), (4, .int x4), (5, .int x5)]) hx hb dX8_places_68 hl (Nat.le_of_ble_eq_true rfl) rfl (fun ls hl => ?_)
    refine lv_iload hx hb dX8_places_70 (lv_at hl 8 rfl) ?_
    refine lv_if_ne (tgt := 80) hx hb dX8_places_72 (by decide) (fun hc => ?_) (fun hc => ?_)
    · replace hw := hw.1 hc
      refine lv_aload_n hx hb dX8_places_80 rfl (lv_at hl 3 rfl) ?_
      refine r_get (C := RX8) (T := TX8) (Nf := 10) hx hb hts hown hK hG (by decide) rfl rfl inX8 8 (by decide) qF_X8_59 rfl dX8_places_81 ?_
      refine lv_iload_n hx hb dX8_places_84 rfl (lv_at hl 4 rfl) ?_
      refine lv_iload_n hx hb dX8_places_85 rfl (lv_at hl 5 rfl) ?_
      refine lv_iload_n hx hb dX8_places_86 rfl (lv_at hl 6 rfl) ?_
      refine lv_iload hx hb dX8_places_87 (lv_at hl 7 rfl) ?_
      refine lv_iload hx hb dX8_places_89 (lv_at hl 0 rfl) ?_
      refine r_ki (r_run_V (k := 10) (As := [.int x1, .int x2, .int x3, .int x4, .int r65]) (rest := []) hx hb hml hown hts hK hN hG (c_X4_openPlaced l y x1 x2 x3 x4 r65 st65 _ hw) (by decide) rfl rfl rfl qM_X8_257 qI_X4_openPlaced qS_X4_openPlaced qN_X4 qC_X4_openPlaced hd_X4_openPlaced ⟨Nat.le_of_ble_eq_true rfl, Nat.le_of_ble_eq_true rfl⟩ hl.1 rfl (Nat.le_of_ble_eq_true rfl) dX8_places_91) hG (fun r91 st91 H locs hw hG => ?_)
      exact r_iret hx hb hr hlk hK hG rfl hw dX8_places_94
    · replace hw := hw.2 hc
      refine lv_iload hx hb dX8_places_75 (lv_at hl 0 rfl) ?_
      refine lv_goto (tgt := 94) hx hb dX8_places_77 (by decide) ?_
      exact r_iret hx hb hr hlk hK hG rfl hw dX8_places_94
  · replace hw := hw.2 hc
    refine lv_aload_n hx hb dX8_places_49 rfl (lv_at hl 2 rfl) ?_
    refine lv_iload hx hb dX8_places_50 (lv_at hl 0 rfl) ?_
    refine r_ki (r_run_V (k := 0) (As := [.int r39]) (rest := []) hx hb hml hown hts hK hN hG (c_X8_refused l y r39 st39 _ hw) (by decide) rfl rfl rfl qM_X8_74 qI_X8_refused qS_X8_refused qN_X8 qC_X8_refused hd_X8_refused ⟨Nat.le_of_ble_eq_true rfl, Nat.le_of_ble_eq_true rfl⟩ hl.1 rfl (Nat.le_of_ble_eq_true rfl) dX8_places_52) hG (fun r52 st52 H locs hw hG => ?_)
    exact r_iret hx hb hr hlk hK hG rfl hw dX8_places_55
theorem hd_X8_fewest : yX8_fewest.cls ≠ "java/lang/invoke/MethodHandle" ∧ yX8_fewest.cls ≠ "java/lang/invoke/VarHandle" ∧ (parseMethodDescriptor yX8_fewest.desc).map (fun d => d.parameters.length) = some 2 := by decide +kernel
set_option maxRecDepth 100000 in
set_option maxHeartbeats 4000000 in
theorem c_X8_fewest (l : Launch) (y : Sy) (x1 : Int32) (x2 : Int32) (st : St) (K : Int32 → St → Prop) (hw : w_X8_fewest x1 x2 st K) : Ci 107 enX l yX8_fewest cX8_fewest 5 (some .int) 7 166 y [.ref (ad y 0), .int x1, .int x2] st K := by
  refine ent (by decide) (Nat.le_of_ble_eq_true rfl) ?_
  intro p e s m below meth c C hG ls hl
  have hl : lv_has ls 5 [(0, .ref (ad y 0)), (1, .int x1), (2, .int x2)] := hl
  generalize ([.ref (ad y 0), .int x1, .int x2] : List Value).toArray = args at C ⊢
  have C : Sd p s m args meth c cX8_fewest 5 RX8 (some .int) y := C
  obtain ⟨hx, hb, hml, hown, hts, hr, hlk, hK, hN⟩ := id C
  generalize s.heap = H at hG ⊢
  generalize ([] : List Loc) = locs at hG ⊢
  unfold w_X8_fewest at hw
  refine lv_iload_n hx hb dX8_fewest_0 rfl (lv_at hl 1 rfl) ?_
  refine lv_iconst (v := 0) hx hb dX8_fewest_1 (by decide) ?_
  refine lv_bipush (v := 60) hx hb dX8_fewest_2 (by decide) ?_
  refine r_ki (r_run_S (As := [.int x1, .int 0, .int 60]) (rest := []) hx hb hml hown hts hK hN hG (c_X8_range l y x1 0 60 st _ hw) qM_X8_63 qT_X8_range qN_X8 qC_X8_range hd_X8_range ⟨Nat.le_of_ble_eq_true rfl, Nat.le_of_ble_eq_true rfl⟩ hl.1 rfl (Nat.le_of_ble_eq_true rfl) dX8_fewest_4) hG (fun r4 st4 H locs hw hG => ?_)
  refine lv_iload_n hx hb dX8_fewest_7 rfl (lv_at hl 2 rfl) ?_
  refine lv_iconst (v := 1) hx hb dX8_fewest_8 (by decide) ?_
  refine r_ki (r_run_S (As := [.int x2, .int 1]) (rest := [.int r4]) hx hb hml hown hts hK hN hG (c_X8_choice l y x2 1 st4 _ hw) qM_X8_97 qT_X8_choice qN_X8 qC_X8_choice hd_X8_choice ⟨Nat.le_of_ble_eq_true rfl, Nat.le_of_ble_eq_true rfl⟩ hl.1 rfl (Nat.le_of_ble_eq_true rfl) dX8_fewest_9) hG (fun r9 st9 H locs hw hG => ?_)
  refine lv_iconst (v := 0) hx hb dX8_fewest_12 (by decide) ?_
  refine r_ki (r_run_S (As := [.int r4, .int r9, .int 0]) (rest := []) hx hb hml hown hts hK hN hG (c_X8_firstOf l y r4 r9 0 st9 _ hw) qM_X8_71 qT_X8_firstOf qN_X8 qC_X8_firstOf hd_X8_firstOf ⟨Nat.le_of_ble_eq_true rfl, Nat.le_of_ble_eq_true rfl⟩ hl.1 rfl (Nat.le_of_ble_eq_true rfl) dX8_fewest_13) hG (fun r13 st13 H locs hw hG => ?_)
  refine lv_istore_n (lv' := [(3, .int r13), (0, .ref (ad y 0)), (1, .int x1), (2, .int x2)]) hx hb dX8_fewest_16 rfl hl (Nat.le_of_ble_eq_true rfl) rfl (fun ls hl => ?_)
  refine lv_iload_n hx hb dX8_fewest_17 rfl (lv_at hl 0 rfl) ?_
  refine lv_if_eq (tgt := 27) hx hb dX8_fewest_18 (by decide) (fun hc => ?_) (fun hc => ?_)
  · replace hw := hw.1 hc
    refine lv_aload_n hx hb dX8_fewest_27 rfl (lv_at hl 1 rfl) ?_
    refine r_get (C := RX8) (T := TX8) (Nf := 10) hx hb hts hown hK hG (by decide) rfl rfl inX8 8 (by decide) qF_X8_59 rfl dX8_fewest_28 ?_
    refine lv_iload_n hx hb dX8_fewest_31 rfl (lv_at hl 2 rfl) ?_
    refine r_ki (r_run_V (k := 10) (As := [.int x1]) (rest := []) hx hb hml hown hts hK hN hG (c_X4_fewestKept l y x1 st13 _ hw) (by decide) rfl rfl rfl qM_X8_261 qI_X4_fewestKept qS_X4_fewestKept qN_X4 qC_X4_fewestKept hd_X4_fewestKept ⟨Nat.le_of_ble_eq_true rfl, Nat.le_of_ble_eq_true rfl⟩ hl.1 rfl (Nat.le_of_ble_eq_true rfl) dX8_fewest_32) hG (fun r32 st32 H locs hw hG => ?_)
    refine lv_istore (lv' := [(4, .int r32), (3, .int r13), (0, .ref (ad y 0)), (1, .int x1), (2, .int x2)]) hx hb dX8_fewest_35 hl (Nat.le_of_ble_eq_true rfl) rfl (fun ls hl => ?_)
    refine lv_iload_n hx hb dX8_fewest_37 rfl (lv_at hl 4 rfl) ?_
    refine lv_if_ne (tgt := 46) hx hb dX8_fewest_38 (by decide) (fun hc => ?_) (fun hc => ?_)
    · replace hw := hw.1 hc
      refine lv_aload_n hx hb dX8_fewest_46 rfl (lv_at hl 2 rfl) ?_
      refine r_get (C := RX8) (T := TX8) (Nf := 10) hx hb hts hown hK hG (by decide) rfl rfl inX8 7 (by decide) qF_X8_52 rfl dX8_fewest_47 ?_
      refine lv_iload hx hb dX8_fewest_50 (lv_at hl 0 rfl) ?_
      refine r_ki (r_run_V (k := 8) (As := [.int r32]) (rest := []) hx hb hml hown hts hK hN hG (c_X3_wages l y r32 st32 _ hw) (by decide) rfl rfl rfl qM_X8_264 qI_X3_wages qS_X3_wages qN_X3 qC_X3_wages hd_X3_wages ⟨Nat.le_of_ble_eq_true rfl, Nat.le_of_ble_eq_true rfl⟩ hl.1 rfl (Nat.le_of_ble_eq_true rfl) dX8_fewest_52) hG (fun r52 st52 H locs hw hG => ?_)
      exact r_iret hx hb hr hlk hK hG rfl hw dX8_fewest_55
    · replace hw := hw.2 hc
      refine lv_iload hx hb dX8_fewest_41 (lv_at hl 0 rfl) ?_
      refine lv_goto (tgt := 55) hx hb dX8_fewest_43 (by decide) ?_
      exact r_iret hx hb hr hlk hK hG rfl hw dX8_fewest_55
  · replace hw := hw.2 hc
    refine lv_aload_n hx hb dX8_fewest_21 rfl (lv_at hl 1 rfl) ?_
    refine lv_iload_n hx hb dX8_fewest_22 rfl (lv_at hl 0 rfl) ?_
    refine r_ki (r_run_V (k := 0) (As := [.int r13]) (rest := []) hx hb hml hown hts hK hN hG (c_X8_refused l y r13 st13 _ hw) (by decide) rfl rfl rfl qM_X8_74 qI_X8_refused qS_X8_refused qN_X8 qC_X8_refused hd_X8_refused ⟨Nat.le_of_ble_eq_true rfl, Nat.le_of_ble_eq_true rfl⟩ hl.1 rfl (Nat.le_of_ble_eq_true rfl) dX8_fewest_23) hG (fun r23 st23 H locs hw hG => ?_)
    exact r_iret hx hb hr hlk hK hG rfl hw dX8_fewest_26
set_option maxRecDepth 100000 in
set_option maxHeartbeats 4000000 in
theorem z_X8_pay_b13 {p : Program} {e : Env} {s : State} {m : MethodId} {args : Array Value} {below : List Frame} {meth : Method} {c : Code} (l : Launch) (y : Sy) (x1 : Int32) (x2 : Int32) (C : Sd p s m args meth c cX8_pay 4 RX8 (some .int) y)  (K : Int32 → St → Prop)  (s0 : Int32) (st : St) {H : Heap} {locs : List Loc} {ls : Array Slot} (hG : gH 107 enX y st s H locs) (hl : lv_has ls 4 [(0, .ref (ad y 0)), (1, .int x1), (2, .int x2)]) (hw : w_X8_pay_b13 x1 x2  K s0 st) : W p l e (rmm 3 67) s m args below meth c H locs 0 0 (MQ below (va_Qi K (gB 107 enX y) (gA 107 y)) args s 0 0 (gA 107 y)) (F0 m 13 ls [.int s0]) := by
  obtain ⟨hx, hb, hml, hown, hts, hr, hlk, hK, hN⟩ := id C
  unfold w_X8_pay_b13 at hw
  refine lv_iload_n hx hb dX8_pay_13 rfl (lv_at hl 2 rfl) ?_
  refine lv_iconst (v := 0) hx hb dX8_pay_14 (by decide) ?_
  refine lv_bipush (v := 60) hx hb dX8_pay_15 (by decide) ?_
  refine r_ki (r_run_S (As := [.int x2, .int 0, .int 60]) (rest := [.int s0]) hx hb hml hown hts hK hN hG (c_X8_range l y x2 0 60 st _ hw) qM_X8_63 qT_X8_range qN_X8 qC_X8_range hd_X8_range ⟨Nat.le_of_ble_eq_true rfl, Nat.le_of_ble_eq_true rfl⟩ hl.1 rfl (Nat.le_of_ble_eq_true rfl) dX8_pay_17) hG (fun r17 st17 H locs hw hG => ?_)
  refine lv_iconst (v := 0) hx hb dX8_pay_20 (by decide) ?_
  refine r_ki (r_run_S (As := [.int s0, .int r17, .int 0]) (rest := []) hx hb hml hown hts hK hN hG (c_X8_firstOf l y s0 r17 0 st17 _ hw) qM_X8_71 qT_X8_firstOf qN_X8 qC_X8_firstOf hd_X8_firstOf ⟨Nat.le_of_ble_eq_true rfl, Nat.le_of_ble_eq_true rfl⟩ hl.1 rfl (Nat.le_of_ble_eq_true rfl) dX8_pay_21) hG (fun r21 st21 H locs hw hG => ?_)
  refine lv_istore_n (lv' := [(3, .int r21), (0, .ref (ad y 0)), (1, .int x1), (2, .int x2)]) hx hb dX8_pay_24 rfl hl (Nat.le_of_ble_eq_true rfl) rfl (fun ls hl => ?_)
  refine lv_iload_n hx hb dX8_pay_25 rfl (lv_at hl 0 rfl) ?_
  refine lv_if_eq (tgt := 37) hx hb dX8_pay_26 (by decide) (fun hc => ?_) (fun hc => ?_)
  · replace hw := hw.1 hc
    refine lv_aload_n hx hb dX8_pay_37 rfl (lv_at hl 1 rfl) ?_
    refine r_get (C := RX8) (T := TX8) (Nf := 10) hx hb hts hown hK hG (by decide) rfl rfl inX8 7 (by decide) qF_X8_52 rfl dX8_pay_38 ?_
    refine lv_aload_n hx hb dX8_pay_41 rfl (lv_at hl 1 rfl) ?_
    refine r_get (C := RX8) (T := TX8) (Nf := 10) hx hb hts hown hK hG (by decide) rfl rfl inX8 7 (by decide) qF_X8_52 rfl dX8_pay_42 ?_
    refine lv_iload_n hx hb dX8_pay_45 rfl (lv_at hl 2 rfl) ?_
    refine r_ki (r_run_V (k := 8) (As := [.int x1]) (rest := [.ref (ad y 8)]) hx hb hml hown hts hK hN hG (c_X3_keepersIn l y x1 st21 _ hw) (by decide) rfl rfl rfl qM_X8_267 qI_X3_keepersIn qS_X3_keepersIn qN_X3 qC_X3_keepersIn hd_X3_keepersIn ⟨Nat.le_of_ble_eq_true rfl, Nat.le_of_ble_eq_true rfl⟩ hl.1 rfl (Nat.le_of_ble_eq_true rfl) dX8_pay_46) hG (fun r46 st46 H locs hw hG => ?_)
    refine r_ki (r_run_V (k := 8) (As := [.int r46]) (rest := []) hx hb hml hown hts hK hN hG (c_X3_wages l y r46 st46 _ hw) (by decide) rfl rfl rfl qM_X8_264 qI_X3_wages qS_X3_wages qN_X3 qC_X3_wages hd_X3_wages ⟨Nat.le_of_ble_eq_true rfl, Nat.le_of_ble_eq_true rfl⟩ hl.1 rfl (Nat.le_of_ble_eq_true rfl) dX8_pay_49) hG (fun r49 st49 H locs hw hG => ?_)
    refine lv_iload_n hx hb dX8_pay_52 rfl (lv_at hl 3 rfl) ?_
    refine lv_imul hx hb dX8_pay_53 ?_
    exact r_iret hx hb hr hlk hK hG rfl hw dX8_pay_54
  · replace hw := hw.2 hc
    refine lv_aload_n hx hb dX8_pay_29 rfl (lv_at hl 1 rfl) ?_
    refine lv_iload_n hx hb dX8_pay_30 rfl (lv_at hl 0 rfl) ?_
    refine r_ki (r_run_V (k := 0) (As := [.int r21]) (rest := []) hx hb hml hown hts hK hN hG (c_X8_refused l y r21 st21 _ hw) (by decide) rfl rfl rfl qM_X8_74 qI_X8_refused qS_X8_refused qN_X8 qC_X8_refused hd_X8_refused ⟨Nat.le_of_ble_eq_true rfl, Nat.le_of_ble_eq_true rfl⟩ hl.1 rfl (Nat.le_of_ble_eq_true rfl) dX8_pay_31) hG (fun r31 st31 H locs hw hG => ?_)
    refine lv_goto (tgt := 54) hx hb dX8_pay_34 (by decide) ?_
    exact r_iret hx hb hr hlk hK hG rfl hw dX8_pay_54
theorem hd_X8_pay : yX8_pay.cls ≠ "java/lang/invoke/MethodHandle" ∧ yX8_pay.cls ≠ "java/lang/invoke/VarHandle" ∧ (parseMethodDescriptor yX8_pay.desc).map (fun d => d.parameters.length) = some 2 := by decide +kernel
set_option maxRecDepth 100000 in
set_option maxHeartbeats 4000000 in
theorem c_X8_pay (l : Launch) (y : Sy) (x1 : Int32) (x2 : Int32) (st : St) (K : Int32 → St → Prop) (hw : w_X8_pay x1 x2 st K) : Ci 107 enX l yX8_pay cX8_pay 4 (some .int) 3 67 y [.ref (ad y 0), .int x1, .int x2] st K := by
  refine ent (by decide) (Nat.le_of_ble_eq_true rfl) ?_
  intro p e s m below meth c C hG ls hl
  have hl : lv_has ls 4 [(0, .ref (ad y 0)), (1, .int x1), (2, .int x2)] := hl
  generalize ([.ref (ad y 0), .int x1, .int x2] : List Value).toArray = args at C ⊢
  have C : Sd p s m args meth c cX8_pay 4 RX8 (some .int) y := C
  obtain ⟨hx, hb, hml, hown, hts, hr, hlk, hK, hN⟩ := id C
  generalize s.heap = H at hG ⊢
  generalize ([] : List Loc) = locs at hG ⊢
  unfold w_X8_pay at hw
  refine lv_iload_n hx hb dX8_pay_0 rfl (lv_at hl 1 rfl) ?_
  refine lv_iconst (v := (-1)) hx hb dX8_pay_1 (by decide) ?_
  refine lv_icmp_ne (tgt := 9) hx hb dX8_pay_2 (by decide) (fun hc => ?_) (fun hc => ?_)
  · replace hw := hw.1 hc
    refine lv_iload_n hx hb dX8_pay_9 rfl (lv_at hl 1 rfl) ?_
    refine r_ki (r_run_S (As := [.int x1]) (rest := []) hx hb hml hown hts hK hN hG (c_X8_townRefusal l y x1 st _ hw) qM_X8_169 qT_X8_townRefusal qN_X8 qC_X8_townRefusal hd_X8_townRefusal ⟨Nat.le_of_ble_eq_true rfl, Nat.le_of_ble_eq_true rfl⟩ hl.1 rfl (Nat.le_of_ble_eq_true rfl) dX8_pay_10) hG (fun r10 st10 H locs hw hG => ?_)
    exact z_X8_pay_b13 l y x1 x2 C  K  r10 st10 hG (lv_sub hl [0, 1, 2] rfl) hw
  · replace hw := hw.2 hc
    refine lv_iconst (v := 0) hx hb dX8_pay_5 (by decide) ?_
    refine lv_goto (tgt := 13) hx hb dX8_pay_6 (by decide) ?_
    exact z_X8_pay_b13 l y x1 x2 C  K  0 st hG (lv_sub hl [0, 1, 2] rfl) hw
theorem hd_X8_whoHates : yX8_whoHates.cls ≠ "java/lang/invoke/MethodHandle" ∧ yX8_whoHates.cls ≠ "java/lang/invoke/VarHandle" ∧ (parseMethodDescriptor yX8_whoHates.desc).map (fun d => d.parameters.length) = some 3 := by decide +kernel
set_option maxRecDepth 100000 in
set_option maxHeartbeats 4000000 in
theorem c_X8_whoHates (l : Launch) (y : Sy) (x1 : Int32) (x2 : Int32) (x3 : Int32) (st : St) (K : Int32 → St → Prop) (hw : w_X8_whoHates x1 x2 x3 st K) : Ci 107 enX l yX8_whoHates cX8_whoHates 5 (some .int) 6 145 y [.ref (ad y 0), .int x1, .int x2, .int x3] st K := by
  refine ent (by decide) (Nat.le_of_ble_eq_true rfl) ?_
  intro p e s m below meth c C hG ls hl
  have hl : lv_has ls 5 [(0, .ref (ad y 0)), (1, .int x1), (2, .int x2), (3, .int x3)] := hl
  generalize ([.ref (ad y 0), .int x1, .int x2, .int x3] : List Value).toArray = args at C ⊢
  have C : Sd p s m args meth c cX8_whoHates 5 RX8 (some .int) y := C
  obtain ⟨hx, hb, hml, hown, hts, hr, hlk, hK, hN⟩ := id C
  generalize s.heap = H at hG ⊢
  generalize ([] : List Loc) = locs at hG ⊢
  unfold w_X8_whoHates at hw
  refine lv_aload_n hx hb dX8_whoHates_0 rfl (lv_at hl 0 rfl) ?_
  refine lv_iload_n hx hb dX8_whoHates_1 rfl (lv_at hl 1 rfl) ?_
  refine lv_iload_n hx hb dX8_whoHates_2 rfl (lv_at hl 2 rfl) ?_
  refine r_ki (r_run_V (k := 0) (As := [.int x1, .int x2]) (rest := []) hx hb hml hown hts hK hN hG (c_X8_twoRefusal l y x1 x2 st _ hw) (by decide) rfl rfl rfl qM_X8_135 qI_X8_twoRefusal qS_X8_twoRefusal qN_X8 qC_X8_twoRefusal hd_X8_twoRefusal ⟨Nat.le_of_ble_eq_true rfl, Nat.le_of_ble_eq_true rfl⟩ hl.1 rfl (Nat.le_of_ble_eq_true rfl) dX8_whoHates_3) hG (fun r3 st3 H locs hw hG => ?_)
  refine lv_iload_n hx hb dX8_whoHates_6 rfl (lv_at hl 3 rfl) ?_
  refine lv_iconst (v := 2) hx hb dX8_whoHates_7 (by decide) ?_
  refine r_ki (r_run_S (As := [.int x3, .int 2]) (rest := [.int r3]) hx hb hml hown hts hK hN hG (c_X8_choice l y x3 2 st3 _ hw) qM_X8_97 qT_X8_choice qN_X8 qC_X8_choice hd_X8_choice ⟨Nat.le_of_ble_eq_true rfl, Nat.le_of_ble_eq_true rfl⟩ hl.1 rfl (Nat.le_of_ble_eq_true rfl) dX8_whoHates_8) hG (fun r8 st8 H locs hw hG => ?_)
  refine lv_iconst (v := 0) hx hb dX8_whoHates_11 (by decide) ?_
  refine r_ki (r_run_S (As := [.int r3, .int r8, .int 0]) (rest := []) hx hb hml hown hts hK hN hG (c_X8_firstOf l y r3 r8 0 st8 _ hw) qM_X8_71 qT_X8_firstOf qN_X8 qC_X8_firstOf hd_X8_firstOf ⟨Nat.le_of_ble_eq_true rfl, Nat.le_of_ble_eq_true rfl⟩ hl.1 rfl (Nat.le_of_ble_eq_true rfl) dX8_whoHates_12) hG (fun r12 st12 H locs hw hG => ?_)
  refine lv_istore (lv' := [(4, .int r12), (0, .ref (ad y 0)), (1, .int x1), (2, .int x2), (3, .int x3)]) hx hb dX8_whoHates_15 hl (Nat.le_of_ble_eq_true rfl) rfl (fun ls hl => ?_)
  refine lv_iload hx hb dX8_whoHates_17 (lv_at hl 0 rfl) ?_
  refine lv_if_eq (tgt := 31) hx hb dX8_whoHates_19 (by decide) (fun hc => ?_) (fun hc => ?_)
  · replace hw := hw.1 hc
    refine lv_aload_n hx hb dX8_whoHates_31 rfl (lv_at hl 1 rfl) ?_
    refine r_get (C := RX8) (T := TX8) (Nf := 10) hx hb hts hown hK hG (by decide) rfl rfl inX8 8 (by decide) qF_X8_59 rfl dX8_whoHates_32 ?_
    refine lv_iload_n hx hb dX8_whoHates_35 rfl (lv_at hl 2 rfl) ?_
    refine lv_iload_n hx hb dX8_whoHates_36 rfl (lv_at hl 3 rfl) ?_
    refine lv_aload_n hx hb dX8_whoHates_37 rfl (lv_at hl 1 rfl) ?_
    refine r_get (C := RX8) (T := TX8) (Nf := 10) hx hb hts hown hK hG (by decide) rfl rfl inX8 6 (by decide) qF_X8_36 rfl dX8_whoHates_38 ?_
    refine lv_iload_n hx hb dX8_whoHates_41 rfl (lv_at hl 4 rfl) ?_
    refine r_ki (r_run_V (k := 10) (As := [.int x1, .int x2, .ref (ad y 6), .int x3]) (rest := []) hx hb hml hown hts hK hN hG (c_X4_fittingHate l y x1 x2 x3 st12 _ hw) (by decide) rfl rfl rfl qM_X8_270 qI_X4_fittingHate qS_X4_fittingHate qN_X4 qC_X4_fittingHate hd_X4_fittingHate ⟨Nat.le_of_ble_eq_true rfl, Nat.le_of_ble_eq_true rfl⟩ hl.1 rfl (Nat.le_of_ble_eq_true rfl) dX8_whoHates_42) hG (fun r42 st42 H locs hw hG => ?_)
    exact r_iret hx hb hr hlk hK hG rfl hw dX8_whoHates_45
  · replace hw := hw.2 hc
    refine lv_aload_n hx hb dX8_whoHates_22 rfl (lv_at hl 1 rfl) ?_
    refine lv_iload hx hb dX8_whoHates_23 (lv_at hl 0 rfl) ?_
    refine r_ki (r_run_V (k := 0) (As := [.int r12]) (rest := []) hx hb hml hown hts hK hN hG (c_X8_refused l y r12 st12 _ hw) (by decide) rfl rfl rfl qM_X8_74 qI_X8_refused qS_X8_refused qN_X8 qC_X8_refused hd_X8_refused ⟨Nat.le_of_ble_eq_true rfl, Nat.le_of_ble_eq_true rfl⟩ hl.1 rfl (Nat.le_of_ble_eq_true rfl) dX8_whoHates_25) hG (fun r25 st25 H locs hw hG => ?_)
    refine lv_goto (tgt := 45) hx hb dX8_whoHates_28 (by decide) ?_
    exact r_iret hx hb hr hlk hK hG rfl hw dX8_whoHates_45
theorem hd_X8_whatKind : yX8_whatKind.cls ≠ "java/lang/invoke/MethodHandle" ∧ yX8_whatKind.cls ≠ "java/lang/invoke/VarHandle" ∧ (parseMethodDescriptor yX8_whatKind.desc).map (fun d => d.parameters.length) = some 3 := by decide +kernel
set_option maxRecDepth 100000 in
set_option maxHeartbeats 4000000 in
theorem c_X8_whatKind (l : Launch) (y : Sy) (x1 : Int32) (x2 : Int32) (x3 : Int32) (st : St) (K : Int32 → St → Prop) (hw : w_X8_whatKind x1 x2 x3 st K) : Ci 107 enX l yX8_whatKind cX8_whatKind 5 (some .int) 6 144 y [.ref (ad y 0), .int x1, .int x2, .int x3] st K := by
  refine ent (by decide) (Nat.le_of_ble_eq_true rfl) ?_
  intro p e s m below meth c C hG ls hl
  have hl : lv_has ls 5 [(0, .ref (ad y 0)), (1, .int x1), (2, .int x2), (3, .int x3)] := hl
  generalize ([.ref (ad y 0), .int x1, .int x2, .int x3] : List Value).toArray = args at C ⊢
  have C : Sd p s m args meth c cX8_whatKind 5 RX8 (some .int) y := C
  obtain ⟨hx, hb, hml, hown, hts, hr, hlk, hK, hN⟩ := id C
  generalize s.heap = H at hG ⊢
  generalize ([] : List Loc) = locs at hG ⊢
  unfold w_X8_whatKind at hw
  refine lv_aload_n hx hb dX8_whatKind_0 rfl (lv_at hl 0 rfl) ?_
  refine lv_iload_n hx hb dX8_whatKind_1 rfl (lv_at hl 1 rfl) ?_
  refine lv_iload_n hx hb dX8_whatKind_2 rfl (lv_at hl 2 rfl) ?_
  refine r_ki (r_run_V (k := 0) (As := [.int x1, .int x2]) (rest := []) hx hb hml hown hts hK hN hG (c_X8_twoRefusal l y x1 x2 st _ hw) (by decide) rfl rfl rfl qM_X8_135 qI_X8_twoRefusal qS_X8_twoRefusal qN_X8 qC_X8_twoRefusal hd_X8_twoRefusal ⟨Nat.le_of_ble_eq_true rfl, Nat.le_of_ble_eq_true rfl⟩ hl.1 rfl (Nat.le_of_ble_eq_true rfl) dX8_whatKind_3) hG (fun r3 st3 H locs hw hG => ?_)
  refine lv_iload_n hx hb dX8_whatKind_6 rfl (lv_at hl 3 rfl) ?_
  refine lv_iconst (v := 1) hx hb dX8_whatKind_7 (by decide) ?_
  refine r_ki (r_run_S (As := [.int x3, .int 1]) (rest := [.int r3]) hx hb hml hown hts hK hN hG (c_X8_choice l y x3 1 st3 _ hw) qM_X8_97 qT_X8_choice qN_X8 qC_X8_choice hd_X8_choice ⟨Nat.le_of_ble_eq_true rfl, Nat.le_of_ble_eq_true rfl⟩ hl.1 rfl (Nat.le_of_ble_eq_true rfl) dX8_whatKind_8) hG (fun r8 st8 H locs hw hG => ?_)
  refine lv_iconst (v := 0) hx hb dX8_whatKind_11 (by decide) ?_
  refine r_ki (r_run_S (As := [.int r3, .int r8, .int 0]) (rest := []) hx hb hml hown hts hK hN hG (c_X8_firstOf l y r3 r8 0 st8 _ hw) qM_X8_71 qT_X8_firstOf qN_X8 qC_X8_firstOf hd_X8_firstOf ⟨Nat.le_of_ble_eq_true rfl, Nat.le_of_ble_eq_true rfl⟩ hl.1 rfl (Nat.le_of_ble_eq_true rfl) dX8_whatKind_12) hG (fun r12 st12 H locs hw hG => ?_)
  refine lv_istore (lv' := [(4, .int r12), (0, .ref (ad y 0)), (1, .int x1), (2, .int x2), (3, .int x3)]) hx hb dX8_whatKind_15 hl (Nat.le_of_ble_eq_true rfl) rfl (fun ls hl => ?_)
  refine lv_iload hx hb dX8_whatKind_17 (lv_at hl 0 rfl) ?_
  refine lv_if_eq (tgt := 29) hx hb dX8_whatKind_19 (by decide) (fun hc => ?_) (fun hc => ?_)
  · replace hw := hw.1 hc
    refine lv_iload_n hx hb dX8_whatKind_29 rfl (lv_at hl 4 rfl) ?_
    refine lv_if_ne (tgt := 49) hx hb dX8_whatKind_30 (by decide) (fun hc => ?_) (fun hc => ?_)
    · replace hw := hw.1 hc
      refine lv_aload_n hx hb dX8_whatKind_49 rfl (lv_at hl 1 rfl) ?_
      refine r_get (C := RX8) (T := TX8) (Nf := 10) hx hb hts hown hK hG (by decide) rfl rfl inX8 8 (by decide) qF_X8_59 rfl dX8_whatKind_50 ?_
      refine lv_iload_n hx hb dX8_whatKind_53 rfl (lv_at hl 2 rfl) ?_
      refine lv_iload_n hx hb dX8_whatKind_54 rfl (lv_at hl 3 rfl) ?_
      refine lv_aload_n hx hb dX8_whatKind_55 rfl (lv_at hl 1 rfl) ?_
      refine r_get (C := RX8) (T := TX8) (Nf := 10) hx hb hts hown hK hG (by decide) rfl rfl inX8 6 (by decide) qF_X8_36 rfl dX8_whatKind_56 ?_
      refine r_ki (r_run_V (k := 10) (As := [.int x1, .int x2, .ref (ad y 6)]) (rest := []) hx hb hml hown hts hK hN hG (c_X4_fittingFigures l y x1 x2 st12 _ hw) (by decide) rfl rfl rfl qM_X8_278 qI_X4_fittingFigures qS_X4_fittingFigures qN_X4 qC_X4_fittingFigures hd_X4_fittingFigures ⟨Nat.le_of_ble_eq_true rfl, Nat.le_of_ble_eq_true rfl⟩ hl.1 rfl (Nat.le_of_ble_eq_true rfl) dX8_whatKind_59) hG (fun r59 st59 H locs hw hG => ?_)
      exact r_iret hx hb hr hlk hK hG rfl hw dX8_whatKind_62
    · replace hw := hw.2 hc
      refine lv_aload_n hx hb dX8_whatKind_33 rfl (lv_at hl 1 rfl) ?_
      refine r_get (C := RX8) (T := TX8) (Nf := 10) hx hb hts hown hK hG (by decide) rfl rfl inX8 8 (by decide) qF_X8_59 rfl dX8_whatKind_34 ?_
      refine lv_iload_n hx hb dX8_whatKind_37 rfl (lv_at hl 2 rfl) ?_
      refine lv_iload_n hx hb dX8_whatKind_38 rfl (lv_at hl 3 rfl) ?_
      refine lv_aload_n hx hb dX8_whatKind_39 rfl (lv_at hl 1 rfl) ?_
      refine r_get (C := RX8) (T := TX8) (Nf := 10) hx hb hts hown hK hG (by decide) rfl rfl inX8 6 (by decide) qF_X8_36 rfl dX8_whatKind_40 ?_
      refine r_ki (r_run_V (k := 10) (As := [.int x1, .int x2, .ref (ad y 6)]) (rest := []) hx hb hml hown hts hK hN hG (c_X4_fittingKinds l y x1 x2 st12 _ hw) (by decide) rfl rfl rfl qM_X8_274 qI_X4_fittingKinds qS_X4_fittingKinds qN_X4 qC_X4_fittingKinds hd_X4_fittingKinds ⟨Nat.le_of_ble_eq_true rfl, Nat.le_of_ble_eq_true rfl⟩ hl.1 rfl (Nat.le_of_ble_eq_true rfl) dX8_whatKind_43) hG (fun r43 st43 H locs hw hG => ?_)
      refine lv_goto (tgt := 62) hx hb dX8_whatKind_46 (by decide) ?_
      exact r_iret hx hb hr hlk hK hG rfl hw dX8_whatKind_62
  · replace hw := hw.2 hc
    refine lv_aload_n hx hb dX8_whatKind_22 rfl (lv_at hl 1 rfl) ?_
    refine lv_iload hx hb dX8_whatKind_23 (lv_at hl 0 rfl) ?_
    refine r_ki (r_run_V (k := 0) (As := [.int r12]) (rest := []) hx hb hml hown hts hK hN hG (c_X8_refused l y r12 st12 _ hw) (by decide) rfl rfl rfl qM_X8_74 qI_X8_refused qS_X8_refused qN_X8 qC_X8_refused hd_X8_refused ⟨Nat.le_of_ble_eq_true rfl, Nat.le_of_ble_eq_true rfl⟩ hl.1 rfl (Nat.le_of_ble_eq_true rfl) dX8_whatKind_25) hG (fun r25 st25 H locs hw hG => ?_)
    exact r_iret hx hb hr hlk hK hG rfl hw dX8_whatKind_28
set_option maxRecDepth 100000 in
set_option maxHeartbeats 4000000 in
theorem z_X8_jug_b45 {p : Program} {e : Env} {s : State} {m : MethodId} {args : Array Value} {below : List Frame} {meth : Method} {c : Code} (l : Launch) (y : Sy) (x1 : Int32) (x2 : Int32) (x3 : Int32) (x4 : Int32) (C : Sd p s m args meth c cX8_jug 8 RX8 (some .long) y)  (K : Int64 → St → Prop)  (v5 : Int32) (s0 : Int32) (st : St) {H : Heap} {locs : List Loc} {ls : Array Slot} (hG : gH 107 enX y st s H locs) (hl : lv_has ls 8 [(0, .ref (ad y 0)), (1, .int x1), (2, .int x2), (3, .int x3), (4, .int x4), (5, .int v5)]) (hw : w_X8_jug_b45 x1 x2 x3 x4  K v5 s0 st) : W p l e (rmm 2 58) s m args below meth c H locs 0 0 (MQ below (va_Ql K (gB 107 enX y) (gA 107 y)) args s 0 0 (gA 107 y)) (F0 m 45 ls [.int s0]) := by
  obtain ⟨hx, hb, hml, hown, hts, hr, hlk, hK, hN⟩ := id C
  unfold w_X8_jug_b45 at hw
  refine lv_istore (lv' := [(6, .int s0), (0, .ref (ad y 0)), (1, .int x1), (2, .int x2), (3, .int x3), (4, .int x4), (5, .int v5)]) hx hb dX8_jug_45 hl (Nat.le_of_ble_eq_true rfl) rfl (fun ls hl => ?_)
  refine lv_iload hx hb dX8_jug_47 (lv_at hl 6 rfl) ?_
  refine lv_iload hx hb dX8_jug_49 (lv_at hl 0 rfl) ?_
  refine lv_iload hx hb dX8_jug_51 (lv_at hl 5 rfl) ?_
  refine lv_iconst (v := 1) hx hb dX8_jug_53 (by decide) ?_
  refine r_ki (r_run_S (As := [.int x4, .int 1]) (rest := [.int s0, .int v5]) hx hb hml hown hts hK hN hG (c_X8_choice l y x4 1 st _ hw) qM_X8_97 qT_X8_choice qN_X8 qC_X8_choice hd_X8_choice ⟨Nat.le_of_ble_eq_true rfl, Nat.le_of_ble_eq_true rfl⟩ hl.1 rfl (Nat.le_of_ble_eq_true rfl) dX8_jug_54) hG (fun r54 st54 H locs hw hG => ?_)
  refine r_ki (r_run_S (As := [.int v5, .int s0, .int r54]) (rest := []) hx hb hml hown hts hK hN hG (c_X8_firstOf l y v5 s0 r54 st54 _ hw) qM_X8_71 qT_X8_firstOf qN_X8 qC_X8_firstOf hd_X8_firstOf ⟨Nat.le_of_ble_eq_true rfl, Nat.le_of_ble_eq_true rfl⟩ hl.1 rfl (Nat.le_of_ble_eq_true rfl) dX8_jug_57) hG (fun r57 st57 H locs hw hG => ?_)
  refine lv_istore (lv' := [(7, .int r57), (6, .int s0), (0, .ref (ad y 0)), (1, .int x1), (2, .int x2), (3, .int x3), (4, .int x4), (5, .int v5)]) hx hb dX8_jug_60 hl (Nat.le_of_ble_eq_true rfl) rfl (fun ls hl => ?_)
  refine lv_iload hx hb dX8_jug_62 (lv_at hl 0 rfl) ?_
  refine lv_if_eq (tgt := 79) hx hb dX8_jug_64 (by decide) (fun hc => ?_) (fun hc => ?_)
  · replace hw := hw.1 hc
    refine lv_iload_n hx hb dX8_jug_79 rfl (lv_at hl 3 rfl) ?_
    refine lv_iload_n hx hb dX8_jug_80 rfl (lv_at hl 4 rfl) ?_
    refine lv_iload_n hx hb dX8_jug_81 rfl (lv_at hl 5 rfl) ?_
    refine r_kl (r_run_S (As := [.int x1, .int x2, .int x3]) (rest := []) hx hb hml hown hts hK hN hG (c_X0_ways l y x1 x2 x3 st57 _ hw) qM_X8_283 qT_X0_ways qN_X0 qC_X0_ways hd_X0_ways ⟨Nat.le_of_ble_eq_true rfl, Nat.le_of_ble_eq_true rfl⟩ hl.1 rfl (Nat.le_of_ble_eq_true rfl) dX8_jug_82) hG (fun r82 st82 H locs hw hG => ?_)
    refine lv_iload_n hx hb dX8_jug_85 rfl (lv_at hl 5 rfl) ?_
    refine lv_iload_n hx hb dX8_jug_86 rfl (lv_at hl 3 rfl) ?_
    refine r_kl (r_run_S (As := [.int x3, .int x1]) (rest := [.long r82]) hx hb hml hown hts hK hN hG (c_X0_power l y x3 x1 st82 _ hw) qM_X8_289 qT_X0_power qN_X0 qC_X0_power hd_X0_power ⟨Nat.le_of_ble_eq_true rfl, Nat.le_of_ble_eq_true rfl⟩ hl.1 rfl (Nat.le_of_ble_eq_true rfl) dX8_jug_87) hG (fun r87 st87 H locs hw hG => ?_)
    refine lv_iload hx hb dX8_jug_90 (lv_at hl 6 rfl) ?_
    refine r_kl (r_run_S (As := [.long r82, .long r87, .int x4]) (rest := []) hx hb hml hown hts hK hN hG (c_X0_part l y r82 r87 x4 st87 _ hw) qM_X8_293 qT_X0_part qN_X0 qC_X0_part hd_X0_part ⟨Nat.le_of_ble_eq_true rfl, Nat.le_of_ble_eq_true rfl⟩ hl.1 rfl (Nat.le_of_ble_eq_true rfl) dX8_jug_92) hG (fun r92 st92 H locs hw hG => ?_)
    exact r_lret hx hb hr hlk hK hG hw dX8_jug_95
  · replace hw := hw.2 hc
    refine lv_ldc2 (v := 4000000000000000000) hx hb hown (hts _ qK_X8_281) dX8_jug_67 ?_
    refine lv_aload_n hx hb dX8_jug_70 rfl (lv_at hl 2 rfl) ?_
    refine lv_iload hx hb dX8_jug_71 (lv_at hl 0 rfl) ?_
    refine r_ki (r_run_V (k := 0) (As := [.int r57]) (rest := [.long 4000000000000000000]) hx hb hml hown hts hK hN hG (c_X8_refused l y r57 st57 _ hw) (by decide) rfl rfl rfl qM_X8_74 qI_X8_refused qS_X8_refused qN_X8 qC_X8_refused hd_X8_refused ⟨Nat.le_of_ble_eq_true rfl, Nat.le_of_ble_eq_true rfl⟩ hl.1 rfl (Nat.le_of_ble_eq_true rfl) dX8_jug_73) hG (fun r73 st73 H locs hw hG => ?_)
    refine lv_i2l (v := (r73).toInt64) hx hb dX8_jug_76 rfl ?_
    refine lv_lsub hx hb dX8_jug_77 ?_
    exact r_lret hx hb hr hlk hK hG hw dX8_jug_78
set_option maxRecDepth 100000 in
set_option maxHeartbeats 4000000 in
theorem z_X8_jug_b39 {p : Program} {e : Env} {s : State} {m : MethodId} {args : Array Value} {below : List Frame} {meth : Method} {c : Code} (l : Launch) (y : Sy) (x1 : Int32) (x2 : Int32) (x3 : Int32) (x4 : Int32) (C : Sd p s m args meth c cX8_jug 8 RX8 (some .long) y)  (K : Int64 → St → Prop)  (v5 : Int32) (st : St) {H : Heap} {locs : List Loc} {ls : Array Slot} (hG : gH 107 enX y st s H locs) (hl : lv_has ls 8 [(0, .ref (ad y 0)), (1, .int x1), (2, .int x2), (3, .int x3), (4, .int x4), (5, .int v5)]) (hw : w_X8_jug_b39 x1 x2 x3 x4  K v5 st) : W p l e (rmm 2 58) s m args below meth c H locs 0 0 (MQ below (va_Ql K (gB 107 enX y) (gA 107 y)) args s 0 0 (gA 107 y)) (F0 m 39 ls []) := by
  obtain ⟨hx, hb, hml, hown, hts, hr, hlk, hK, hN⟩ := id C
  unfold w_X8_jug_b39 at hw
  refine lv_bipush (v := (-6)) hx hb dX8_jug_39 (by decide) ?_
  refine lv_goto (tgt := 45) hx hb dX8_jug_41 (by decide) ?_
  exact z_X8_jug_b45 l y x1 x2 x3 x4 C  K  v5 (-6) st hG (lv_sub hl [0, 1, 2, 3, 4, 5] rfl) hw
set_option maxRecDepth 100000 in
set_option maxHeartbeats 4000000 in
theorem z_X8_jug_b19 {p : Program} {e : Env} {s : State} {m : MethodId} {args : Array Value} {below : List Frame} {meth : Method} {c : Code} (l : Launch) (y : Sy) (x1 : Int32) (x2 : Int32) (x3 : Int32) (x4 : Int32) (C : Sd p s m args meth c cX8_jug 8 RX8 (some .long) y)  (K : Int64 → St → Prop)  (s0 : Int32) (st : St) {H : Heap} {locs : List Loc} {ls : Array Slot} (hG : gH 107 enX y st s H locs) (hl : lv_has ls 8 [(0, .ref (ad y 0)), (1, .int x1), (2, .int x2), (3, .int x3), (4, .int x4)]) (hw : w_X8_jug_b19 x1 x2 x3 x4  K s0 st) : W p l e (rmm 2 58) s m args below meth c H locs 0 0 (MQ below (va_Ql K (gB 107 enX y) (gA 107 y)) args s 0 0 (gA 107 y)) (F0 m 19 ls [.int s0]) := by
  obtain ⟨hx, hb, hml, hown, hts, hr, hlk, hK, hN⟩ := id C
  unfold w_X8_jug_b19 at hw
  refine lv_istore (lv' := [(5, .int s0), (0, .ref (ad y 0)), (1, .int x1), (2, .int x2), (3, .int x3), (4, .int x4)]) hx hb dX8_jug_19 hl (Nat.le_of_ble_eq_true rfl) rfl (fun ls hl => ?_)
  refine lv_iload_n hx hb dX8_jug_21 rfl (lv_at hl 2 rfl) ?_
  refine lv_bipush (v := 8) hx hb dX8_jug_22 (by decide) ?_
  refine lv_icmp_gt (tgt := 39) hx hb dX8_jug_24 (by decide) (fun hc => ?_) (fun hc => ?_)
  · replace hw := hw.1 hc
    exact z_X8_jug_b39 l y x1 x2 x3 x4 C  K  s0 st hG (lv_sub hl [1, 2, 3, 4, 5, 0] rfl) hw
  · replace hw := hw.2 hc
    refine lv_iload_n hx hb dX8_jug_27 rfl (lv_at hl 3 rfl) ?_
    refine lv_bipush (v := 8) hx hb dX8_jug_28 (by decide) ?_
    refine lv_icmp_gt (tgt := 39) hx hb dX8_jug_30 (by decide) (fun hc => ?_) (fun hc => ?_)
    · replace hw := hw.1 hc
      exact z_X8_jug_b39 l y x1 x2 x3 x4 C  K  s0 st hG (lv_sub hl [1, 2, 3, 4, 5, 0] rfl) hw
    · replace hw := hw.2 hc
      refine lv_iload_n hx hb dX8_jug_33 rfl (lv_at hl 4 rfl) ?_
      refine lv_bipush (v := 20) hx hb dX8_jug_34 (by decide) ?_
      refine lv_icmp_le (tgt := 44) hx hb dX8_jug_36 (by decide) (fun hc => ?_) (fun hc => ?_)
      · replace hw := hw.1 hc
        refine lv_iconst (v := 0) hx hb dX8_jug_44 (by decide) ?_
        exact z_X8_jug_b45 l y x1 x2 x3 x4 C  K  s0 0 st hG (lv_sub hl [1, 2, 3, 4, 5, 0] rfl) hw
      · replace hw := hw.2 hc
        exact z_X8_jug_b39 l y x1 x2 x3 x4 C  K  s0 st hG (lv_sub hl [1, 2, 3, 4, 5, 0] rfl) hw
set_option maxRecDepth 100000 in
set_option maxHeartbeats 4000000 in
theorem z_X8_jug_b13 {p : Program} {e : Env} {s : State} {m : MethodId} {args : Array Value} {below : List Frame} {meth : Method} {c : Code} (l : Launch) (y : Sy) (x1 : Int32) (x2 : Int32) (x3 : Int32) (x4 : Int32) (C : Sd p s m args meth c cX8_jug 8 RX8 (some .long) y)  (K : Int64 → St → Prop)   (st : St) {H : Heap} {locs : List Loc} {ls : Array Slot} (hG : gH 107 enX y st s H locs) (hl : lv_has ls 8 [(0, .ref (ad y 0)), (1, .int x1), (2, .int x2), (3, .int x3), (4, .int x4)]) (hw : w_X8_jug_b13 x1 x2 x3 x4  K  st) : W p l e (rmm 2 58) s m args below meth c H locs 0 0 (MQ below (va_Ql K (gB 107 enX y) (gA 107 y)) args s 0 0 (gA 107 y)) (F0 m 13 ls []) := by
  obtain ⟨hx, hb, hml, hown, hts, hr, hlk, hK, hN⟩ := id C
  unfold w_X8_jug_b13 at hw
  refine lv_bipush (v := (-4)) hx hb dX8_jug_13 (by decide) ?_
  refine lv_goto (tgt := 19) hx hb dX8_jug_15 (by decide) ?_
  exact z_X8_jug_b19 l y x1 x2 x3 x4 C  K  (-4) st hG (lv_sub hl [0, 1, 2, 3, 4] rfl) hw
theorem hd_X8_jug : yX8_jug.cls ≠ "java/lang/invoke/MethodHandle" ∧ yX8_jug.cls ≠ "java/lang/invoke/VarHandle" ∧ (parseMethodDescriptor yX8_jug.desc).map (fun d => d.parameters.length) = some 4 := by decide +kernel
set_option maxRecDepth 100000 in
set_option maxHeartbeats 4000000 in
theorem c_X8_jug (l : Launch) (y : Sy) (x1 : Int32) (x2 : Int32) (x3 : Int32) (x4 : Int32) (st : St) (K : Int64 → St → Prop) (hw : w_X8_jug x1 x2 x3 x4 st K) : Cl 107 enX l yX8_jug cX8_jug 8 (some .long) 2 58 y [.ref (ad y 0), .int x1, .int x2, .int x3, .int x4] st K := by
  refine ent (by decide) (Nat.le_of_ble_eq_true rfl) ?_
  intro p e s m below meth c C hG ls hl
  have hl : lv_has ls 8 [(0, .ref (ad y 0)), (1, .int x1), (2, .int x2), (3, .int x3), (4, .int x4)] := hl
  generalize ([.ref (ad y 0), .int x1, .int x2, .int x3, .int x4] : List Value).toArray = args at C ⊢
  have C : Sd p s m args meth c cX8_jug 8 RX8 (some .long) y := C
  obtain ⟨hx, hb, hml, hown, hts, hr, hlk, hK, hN⟩ := id C
  generalize s.heap = H at hG ⊢
  generalize ([] : List Loc) = locs at hG ⊢
  unfold w_X8_jug at hw
  refine lv_iload_n hx hb dX8_jug_0 rfl (lv_at hl 1 rfl) ?_
  refine lv_if_lt (tgt := 13) hx hb dX8_jug_1 (by decide) (fun hc => ?_) (fun hc => ?_)
  · replace hw := hw.1 hc
    exact z_X8_jug_b13 l y x1 x2 x3 x4 C  K  st hG (lv_sub hl [0, 1, 2, 3, 4] rfl) hw
  · replace hw := hw.2 hc
    refine lv_iload_n hx hb dX8_jug_4 rfl (lv_at hl 2 rfl) ?_
    refine lv_if_lt (tgt := 13) hx hb dX8_jug_5 (by decide) (fun hc => ?_) (fun hc => ?_)
    · replace hw := hw.1 hc
      exact z_X8_jug_b13 l y x1 x2 x3 x4 C  K  st hG (lv_sub hl [0, 1, 2, 3, 4] rfl) hw
    · replace hw := hw.2 hc
      refine lv_iload_n hx hb dX8_jug_8 rfl (lv_at hl 3 rfl) ?_
      refine lv_iconst (v := 2) hx hb dX8_jug_9 (by decide) ?_
      refine lv_icmp_ge (tgt := 18) hx hb dX8_jug_10 (by decide) (fun hc => ?_) (fun hc => ?_)
      · replace hw := hw.1 hc
        refine lv_iconst (v := 0) hx hb dX8_jug_18 (by decide) ?_
        exact z_X8_jug_b19 l y x1 x2 x3 x4 C  K  0 st hG (lv_sub hl [0, 1, 2, 3, 4] rfl) hw
      · replace hw := hw.2 hc
        exact z_X8_jug_b13 l y x1 x2 x3 x4 C  K  st hG (lv_sub hl [0, 1, 2, 3, 4] rfl) hw
set_option maxRecDepth 100000 in
set_option maxHeartbeats 4000000 in
theorem z_X8_meetings_b56 {p : Program} {e : Env} {s : State} {m : MethodId} {args : Array Value} {below : List Frame} {meth : Method} {c : Code} (l : Launch) (y : Sy) (x1 : Int32) (x2 : Int32) (x3 : Int32) (x4 : Int32) (x5 : Int32) (x6 : Int32) (C : Sd p s m args meth c cX8_meetings 11 RX8 (some .long) y)  (K : Int64 → St → Prop)  (v7 : Int32) (v8 : Int32) (s0 : Int32) (st : St) {H : Heap} {locs : List Loc} {ls : Array Slot} (hG : gH 107 enX y st s H locs) (hl : lv_has ls 11 [(0, .ref (ad y 0)), (1, .int x1), (2, .int x2), (3, .int x3), (4, .int x4), (5, .int x5), (6, .int x6), (7, .int v7), (8, .int v8)]) (hw : w_X8_meetings_b56 x1 x2 x3 x4 x5 x6  K v7 v8 s0 st) : W p l e (rmm 5 124) s m args below meth c H locs 0 0 (MQ below (va_Ql K (gB 107 enX y) (gA 107 y)) args s 0 0 (gA 107 y)) (F0 m 56 ls [.int s0]) := by
  obtain ⟨hx, hb, hml, hown, hts, hr, hlk, hK, hN⟩ := id C
  unfold w_X8_meetings_b56 at hw
  refine lv_istore (lv' := [(9, .int s0), (0, .ref (ad y 0)), (1, .int x1), (2, .int x2), (3, .int x3), (4, .int x4), (5, .int x5), (6, .int x6), (7, .int v7), (8, .int v8)]) hx hb dX8_meetings_56 hl (Nat.le_of_ble_eq_true rfl) rfl (fun ls hl => ?_)
  refine lv_iload hx hb dX8_meetings_58 (lv_at hl 8 rfl) ?_
  refine lv_iload hx hb dX8_meetings_60 (lv_at hl 9 rfl) ?_
  refine lv_iload hx hb dX8_meetings_62 (lv_at hl 0 rfl) ?_
  refine r_ki (r_run_S (As := [.int v7, .int v8, .int s0]) (rest := []) hx hb hml hown hts hK hN hG (c_X8_firstOf l y v7 v8 s0 st _ hw) qM_X8_71 qT_X8_firstOf qN_X8 qC_X8_firstOf hd_X8_firstOf ⟨Nat.le_of_ble_eq_true rfl, Nat.le_of_ble_eq_true rfl⟩ hl.1 rfl (Nat.le_of_ble_eq_true rfl) dX8_meetings_64) hG (fun r64 st64 H locs hw hG => ?_)
  refine lv_iload hx hb dX8_meetings_67 (lv_at hl 7 rfl) ?_
  refine lv_iconst (v := 1) hx hb dX8_meetings_69 (by decide) ?_
  refine r_ki (r_run_S (As := [.int x6, .int 1]) (rest := [.int r64]) hx hb hml hown hts hK hN hG (c_X8_choice l y x6 1 st64 _ hw) qM_X8_97 qT_X8_choice qN_X8 qC_X8_choice hd_X8_choice ⟨Nat.le_of_ble_eq_true rfl, Nat.le_of_ble_eq_true rfl⟩ hl.1 rfl (Nat.le_of_ble_eq_true rfl) dX8_meetings_70) hG (fun r70 st70 H locs hw hG => ?_)
  refine lv_iconst (v := 0) hx hb dX8_meetings_73 (by decide) ?_
  refine r_ki (r_run_S (As := [.int r64, .int r70, .int 0]) (rest := []) hx hb hml hown hts hK hN hG (c_X8_firstOf l y r64 r70 0 st70 _ hw) qM_X8_71 qT_X8_firstOf qN_X8 qC_X8_firstOf hd_X8_firstOf ⟨Nat.le_of_ble_eq_true rfl, Nat.le_of_ble_eq_true rfl⟩ hl.1 rfl (Nat.le_of_ble_eq_true rfl) dX8_meetings_74) hG (fun r74 st74 H locs hw hG => ?_)
  refine lv_istore (lv' := [(10, .int r74), (9, .int s0), (0, .ref (ad y 0)), (1, .int x1), (2, .int x2), (3, .int x3), (4, .int x4), (5, .int x5), (6, .int x6), (7, .int v7), (8, .int v8)]) hx hb dX8_meetings_77 hl (Nat.le_of_ble_eq_true rfl) rfl (fun ls hl => ?_)
  refine lv_iload hx hb dX8_meetings_79 (lv_at hl 0 rfl) ?_
  refine lv_if_eq (tgt := 96) hx hb dX8_meetings_81 (by decide) (fun hc => ?_) (fun hc => ?_)
  · replace hw := hw.1 hc
    refine lv_aload_n hx hb dX8_meetings_96 rfl (lv_at hl 2 rfl) ?_
    refine r_get (C := RX8) (T := TX8) (Nf := 10) hx hb hts hown hK hG (by decide) rfl rfl inX8 8 (by decide) qF_X8_59 rfl dX8_meetings_97 ?_
    refine lv_iload_n hx hb dX8_meetings_100 rfl (lv_at hl 3 rfl) ?_
    refine lv_iload_n hx hb dX8_meetings_101 rfl (lv_at hl 4 rfl) ?_
    refine lv_iload_n hx hb dX8_meetings_102 rfl (lv_at hl 5 rfl) ?_
    refine lv_iload hx hb dX8_meetings_103 (lv_at hl 6 rfl) ?_
    refine lv_iload hx hb dX8_meetings_105 (lv_at hl 7 rfl) ?_
    refine r_kl (r_run_V (k := 10) (As := [.int x1, .int x2, .int x3, .int x4, .int x5]) (rest := []) hx hb hml hown hts hK hN hG (c_X4_meetingWays l y x1 x2 x3 x4 x5 st74 _ hw) (by decide) rfl rfl rfl qM_X8_297 qI_X4_meetingWays qS_X4_meetingWays qN_X4 qC_X4_meetingWays hd_X4_meetingWays ⟨Nat.le_of_ble_eq_true rfl, Nat.le_of_ble_eq_true rfl⟩ hl.1 rfl (Nat.le_of_ble_eq_true rfl) dX8_meetings_107) hG (fun r107 st107 H locs hw hG => ?_)
    refine lv_iload hx hb dX8_meetings_110 (lv_at hl 7 rfl) ?_
    refine lv_iload hx hb dX8_meetings_112 (lv_at hl 6 rfl) ?_
    refine r_kl (r_run_S (As := [.int x5, .int x4]) (rest := [.long r107]) hx hb hml hown hts hK hN hG (c_X0_power l y x5 x4 st107 _ hw) qM_X8_289 qT_X0_power qN_X0 qC_X0_power hd_X0_power ⟨Nat.le_of_ble_eq_true rfl, Nat.le_of_ble_eq_true rfl⟩ hl.1 rfl (Nat.le_of_ble_eq_true rfl) dX8_meetings_114) hG (fun r114 st114 H locs hw hG => ?_)
    refine lv_iload hx hb dX8_meetings_117 (lv_at hl 8 rfl) ?_
    refine r_kl (r_run_S (As := [.long r107, .long r114, .int x6]) (rest := []) hx hb hml hown hts hK hN hG (c_X0_part l y r107 r114 x6 st114 _ hw) qM_X8_293 qT_X0_part qN_X0 qC_X0_part hd_X0_part ⟨Nat.le_of_ble_eq_true rfl, Nat.le_of_ble_eq_true rfl⟩ hl.1 rfl (Nat.le_of_ble_eq_true rfl) dX8_meetings_119) hG (fun r119 st119 H locs hw hG => ?_)
    exact r_lret hx hb hr hlk hK hG hw dX8_meetings_122
  · replace hw := hw.2 hc
    refine lv_ldc2 (v := 4000000000000000000) hx hb hown (hts _ qK_X8_281) dX8_meetings_84 ?_
    refine lv_aload_n hx hb dX8_meetings_87 rfl (lv_at hl 2 rfl) ?_
    refine lv_iload hx hb dX8_meetings_88 (lv_at hl 0 rfl) ?_
    refine r_ki (r_run_V (k := 0) (As := [.int r74]) (rest := [.long 4000000000000000000]) hx hb hml hown hts hK hN hG (c_X8_refused l y r74 st74 _ hw) (by decide) rfl rfl rfl qM_X8_74 qI_X8_refused qS_X8_refused qN_X8 qC_X8_refused hd_X8_refused ⟨Nat.le_of_ble_eq_true rfl, Nat.le_of_ble_eq_true rfl⟩ hl.1 rfl (Nat.le_of_ble_eq_true rfl) dX8_meetings_90) hG (fun r90 st90 H locs hw hG => ?_)
    refine lv_i2l (v := (r90).toInt64) hx hb dX8_meetings_93 rfl ?_
    refine lv_lsub hx hb dX8_meetings_94 ?_
    exact r_lret hx hb hr hlk hK hG hw dX8_meetings_95
set_option maxRecDepth 100000 in
set_option maxHeartbeats 4000000 in
theorem z_X8_meetings_b50 {p : Program} {e : Env} {s : State} {m : MethodId} {args : Array Value} {below : List Frame} {meth : Method} {c : Code} (l : Launch) (y : Sy) (x1 : Int32) (x2 : Int32) (x3 : Int32) (x4 : Int32) (x5 : Int32) (x6 : Int32) (C : Sd p s m args meth c cX8_meetings 11 RX8 (some .long) y)  (K : Int64 → St → Prop)  (v7 : Int32) (v8 : Int32) (st : St) {H : Heap} {locs : List Loc} {ls : Array Slot} (hG : gH 107 enX y st s H locs) (hl : lv_has ls 11 [(0, .ref (ad y 0)), (1, .int x1), (2, .int x2), (3, .int x3), (4, .int x4), (5, .int x5), (6, .int x6), (7, .int v7), (8, .int v8)]) (hw : w_X8_meetings_b50 x1 x2 x3 x4 x5 x6  K v7 v8 st) : W p l e (rmm 5 124) s m args below meth c H locs 0 0 (MQ below (va_Ql K (gB 107 enX y) (gA 107 y)) args s 0 0 (gA 107 y)) (F0 m 50 ls []) := by
  obtain ⟨hx, hb, hml, hown, hts, hr, hlk, hK, hN⟩ := id C
  unfold w_X8_meetings_b50 at hw
  refine lv_bipush (v := (-6)) hx hb dX8_meetings_50 (by decide) ?_
  refine lv_goto (tgt := 56) hx hb dX8_meetings_52 (by decide) ?_
  exact z_X8_meetings_b56 l y x1 x2 x3 x4 x5 x6 C  K  v7 v8 (-6) st hG (lv_sub hl [0, 1, 2, 3, 4, 5, 6, 7, 8] rfl) hw
set_option maxRecDepth 100000 in
set_option maxHeartbeats 4000000 in
theorem z_X8_meetings_b34 {p : Program} {e : Env} {s : State} {m : MethodId} {args : Array Value} {below : List Frame} {meth : Method} {c : Code} (l : Launch) (y : Sy) (x1 : Int32) (x2 : Int32) (x3 : Int32) (x4 : Int32) (x5 : Int32) (x6 : Int32) (C : Sd p s m args meth c cX8_meetings 11 RX8 (some .long) y)  (K : Int64 → St → Prop)  (v7 : Int32) (s0 : Int32) (st : St) {H : Heap} {locs : List Loc} {ls : Array Slot} (hG : gH 107 enX y st s H locs) (hl : lv_has ls 11 [(0, .ref (ad y 0)), (1, .int x1), (2, .int x2), (3, .int x3), (4, .int x4), (5, .int x5), (6, .int x6), (7, .int v7)]) (hw : w_X8_meetings_b34 x1 x2 x3 x4 x5 x6  K v7 s0 st) : W p l e (rmm 5 124) s m args below meth c H locs 0 0 (MQ below (va_Ql K (gB 107 enX y) (gA 107 y)) args s 0 0 (gA 107 y)) (F0 m 34 ls [.int s0]) := by
  obtain ⟨hx, hb, hml, hown, hts, hr, hlk, hK, hN⟩ := id C
  unfold w_X8_meetings_b34 at hw
  refine lv_istore (lv' := [(8, .int s0), (0, .ref (ad y 0)), (1, .int x1), (2, .int x2), (3, .int x3), (4, .int x4), (5, .int x5), (6, .int x6), (7, .int v7)]) hx hb dX8_meetings_34 hl (Nat.le_of_ble_eq_true rfl) rfl (fun ls hl => ?_)
  refine lv_iload hx hb dX8_meetings_36 (lv_at hl 5 rfl) ?_
  refine lv_bipush (v := 7) hx hb dX8_meetings_38 (by decide) ?_
  refine lv_icmp_gt (tgt := 50) hx hb dX8_meetings_40 (by decide) (fun hc => ?_) (fun hc => ?_)
  · replace hw := hw.1 hc
    exact z_X8_meetings_b50 l y x1 x2 x3 x4 x5 x6 C  K  v7 s0 st hG (lv_sub hl [1, 2, 3, 4, 5, 6, 7, 8, 0] rfl) hw
  · replace hw := hw.2 hc
    refine lv_iload hx hb dX8_meetings_43 (lv_at hl 6 rfl) ?_
    refine lv_bipush (v := 20) hx hb dX8_meetings_45 (by decide) ?_
    refine lv_icmp_le (tgt := 55) hx hb dX8_meetings_47 (by decide) (fun hc => ?_) (fun hc => ?_)
    · replace hw := hw.1 hc
      refine lv_iconst (v := 0) hx hb dX8_meetings_55 (by decide) ?_
      exact z_X8_meetings_b56 l y x1 x2 x3 x4 x5 x6 C  K  v7 s0 0 st hG (lv_sub hl [1, 2, 3, 4, 5, 6, 7, 8, 0] rfl) hw
    · replace hw := hw.2 hc
      exact z_X8_meetings_b50 l y x1 x2 x3 x4 x5 x6 C  K  v7 s0 st hG (lv_sub hl [1, 2, 3, 4, 5, 6, 7, 8, 0] rfl) hw
set_option maxRecDepth 100000 in
set_option maxHeartbeats 4000000 in
theorem z_X8_meetings_b28 {p : Program} {e : Env} {s : State} {m : MethodId} {args : Array Value} {below : List Frame} {meth : Method} {c : Code} (l : Launch) (y : Sy) (x1 : Int32) (x2 : Int32) (x3 : Int32) (x4 : Int32) (x5 : Int32) (x6 : Int32) (C : Sd p s m args meth c cX8_meetings 11 RX8 (some .long) y)  (K : Int64 → St → Prop)  (v7 : Int32) (st : St) {H : Heap} {locs : List Loc} {ls : Array Slot} (hG : gH 107 enX y st s H locs) (hl : lv_has ls 11 [(0, .ref (ad y 0)), (1, .int x1), (2, .int x2), (3, .int x3), (4, .int x4), (5, .int x5), (6, .int x6), (7, .int v7)]) (hw : w_X8_meetings_b28 x1 x2 x3 x4 x5 x6  K v7 st) : W p l e (rmm 5 124) s m args below meth c H locs 0 0 (MQ below (va_Ql K (gB 107 enX y) (gA 107 y)) args s 0 0 (gA 107 y)) (F0 m 28 ls []) := by
  obtain ⟨hx, hb, hml, hown, hts, hr, hlk, hK, hN⟩ := id C
  unfold w_X8_meetings_b28 at hw
  refine lv_bipush (v := (-4)) hx hb dX8_meetings_28 (by decide) ?_
  refine lv_goto (tgt := 34) hx hb dX8_meetings_30 (by decide) ?_
  exact z_X8_meetings_b34 l y x1 x2 x3 x4 x5 x6 C  K  v7 (-4) st hG (lv_sub hl [0, 1, 2, 3, 4, 5, 6, 7] rfl) hw
theorem hd_X8_meetings : yX8_meetings.cls ≠ "java/lang/invoke/MethodHandle" ∧ yX8_meetings.cls ≠ "java/lang/invoke/VarHandle" ∧ (parseMethodDescriptor yX8_meetings.desc).map (fun d => d.parameters.length) = some 6 := by decide +kernel
set_option maxRecDepth 100000 in
set_option maxHeartbeats 4000000 in
theorem c_X8_meetings (l : Launch) (y : Sy) (x1 : Int32) (x2 : Int32) (x3 : Int32) (x4 : Int32) (x5 : Int32) (x6 : Int32) (st : St) (K : Int64 → St → Prop) (hw : w_X8_meetings x1 x2 x3 x4 x5 x6 st K) : Cl 107 enX l yX8_meetings cX8_meetings 11 (some .long) 5 124 y [.ref (ad y 0), .int x1, .int x2, .int x3, .int x4, .int x5, .int x6] st K := by
  refine ent (by decide) (Nat.le_of_ble_eq_true rfl) ?_
  intro p e s m below meth c C hG ls hl
  have hl : lv_has ls 11 [(0, .ref (ad y 0)), (1, .int x1), (2, .int x2), (3, .int x3), (4, .int x4), (5, .int x5), (6, .int x6)] := hl
  generalize ([.ref (ad y 0), .int x1, .int x2, .int x3, .int x4, .int x5, .int x6] : List Value).toArray = args at C ⊢
  have C : Sd p s m args meth c cX8_meetings 11 RX8 (some .long) y := C
  obtain ⟨hx, hb, hml, hown, hts, hr, hlk, hK, hN⟩ := id C
  generalize s.heap = H at hG ⊢
  generalize ([] : List Loc) = locs at hG ⊢
  unfold w_X8_meetings at hw
  refine lv_aload_n hx hb dX8_meetings_0 rfl (lv_at hl 0 rfl) ?_
  refine lv_iload_n hx hb dX8_meetings_1 rfl (lv_at hl 1 rfl) ?_
  refine lv_iload_n hx hb dX8_meetings_2 rfl (lv_at hl 2 rfl) ?_
  refine r_ki (r_run_V (k := 0) (As := [.int x1, .int x2]) (rest := []) hx hb hml hown hts hK hN hG (c_X8_twoRefusal l y x1 x2 st _ hw) (by decide) rfl rfl rfl qM_X8_135 qI_X8_twoRefusal qS_X8_twoRefusal qN_X8 qC_X8_twoRefusal hd_X8_twoRefusal ⟨Nat.le_of_ble_eq_true rfl, Nat.le_of_ble_eq_true rfl⟩ hl.1 rfl (Nat.le_of_ble_eq_true rfl) dX8_meetings_3) hG (fun r3 st3 H locs hw hG => ?_)
  refine lv_aload_n hx hb dX8_meetings_6 rfl (lv_at hl 0 rfl) ?_
  refine lv_iload_n hx hb dX8_meetings_7 rfl (lv_at hl 3 rfl) ?_
  refine r_ki (r_run_V (k := 0) (As := [.int x3]) (rest := [.int r3]) hx hb hml hown hts hK hN hG (c_X8_letterRefusal l y x3 st3 _ hw) (by decide) rfl rfl rfl qM_X8_119 qI_X8_letterRefusal qS_X8_letterRefusal qN_X8 qC_X8_letterRefusal hd_X8_letterRefusal ⟨Nat.le_of_ble_eq_true rfl, Nat.le_of_ble_eq_true rfl⟩ hl.1 rfl (Nat.le_of_ble_eq_true rfl) dX8_meetings_8) hG (fun r8 st8 H locs hw hG => ?_)
  refine lv_iconst (v := 0) hx hb dX8_meetings_11 (by decide) ?_
  refine r_ki (r_run_S (As := [.int r3, .int r8, .int 0]) (rest := []) hx hb hml hown hts hK hN hG (c_X8_firstOf l y r3 r8 0 st8 _ hw) qM_X8_71 qT_X8_firstOf qN_X8 qC_X8_firstOf hd_X8_firstOf ⟨Nat.le_of_ble_eq_true rfl, Nat.le_of_ble_eq_true rfl⟩ hl.1 rfl (Nat.le_of_ble_eq_true rfl) dX8_meetings_12) hG (fun r12 st12 H locs hw hG => ?_)
  refine lv_istore (lv' := [(7, .int r12), (0, .ref (ad y 0)), (1, .int x1), (2, .int x2), (3, .int x3), (4, .int x4), (5, .int x5), (6, .int x6)]) hx hb dX8_meetings_15 hl (Nat.le_of_ble_eq_true rfl) rfl (fun ls hl => ?_)
  refine lv_iload hx hb dX8_meetings_17 (lv_at hl 5 rfl) ?_
  refine lv_if_lt (tgt := 28) hx hb dX8_meetings_19 (by decide) (fun hc => ?_) (fun hc => ?_)
  · replace hw := hw.1 hc
    exact z_X8_meetings_b28 l y x1 x2 x3 x4 x5 x6 C  K  r12 st12 hG (lv_sub hl [1, 2, 3, 4, 5, 6, 7, 0] rfl) hw
  · replace hw := hw.2 hc
    refine lv_iload hx hb dX8_meetings_22 (lv_at hl 6 rfl) ?_
    refine lv_iconst (v := 2) hx hb dX8_meetings_24 (by decide) ?_
    refine lv_icmp_ge (tgt := 33) hx hb dX8_meetings_25 (by decide) (fun hc => ?_) (fun hc => ?_)
    · replace hw := hw.1 hc
      refine lv_iconst (v := 0) hx hb dX8_meetings_33 (by decide) ?_
      exact z_X8_meetings_b34 l y x1 x2 x3 x4 x5 x6 C  K  r12 0 st12 hG (lv_sub hl [1, 2, 3, 4, 5, 6, 7, 0] rfl) hw
    · replace hw := hw.2 hc
      exact z_X8_meetings_b28 l y x1 x2 x3 x4 x5 x6 C  K  r12 st12 hG (lv_sub hl [1, 2, 3, 4, 5, 6, 7, 0] rfl) hw
theorem hd_X8_lots : yX8_lots.cls ≠ "java/lang/invoke/MethodHandle" ∧ yX8_lots.cls ≠ "java/lang/invoke/VarHandle" ∧ (parseMethodDescriptor yX8_lots.desc).map (fun d => d.parameters.length) = some 3 := by decide +kernel
set_option maxRecDepth 100000 in
set_option maxHeartbeats 4000000 in
theorem c_X8_lots (l : Launch) (y : Sy) (x1 : Int32) (x2 : Int32) (x3 : Int32) (st : St) (K : Int32 → St → Prop) (hw : w_X8_lots x1 x2 x3 st K) : Ci 107 enX l yX8_lots cX8_lots 5 (some .int) 6 146 y [.ref (ad y 0), .int x1, .int x2, .int x3] st K := by
  refine ent (by decide) (Nat.le_of_ble_eq_true rfl) ?_
  intro p e s m below meth c C hG ls hl
  have hl : lv_has ls 5 [(0, .ref (ad y 0)), (1, .int x1), (2, .int x2), (3, .int x3)] := hl
  generalize ([.ref (ad y 0), .int x1, .int x2, .int x3] : List Value).toArray = args at C ⊢
  have C : Sd p s m args meth c cX8_lots 5 RX8 (some .int) y := C
  obtain ⟨hx, hb, hml, hown, hts, hr, hlk, hK, hN⟩ := id C
  generalize s.heap = H at hG ⊢
  generalize ([] : List Loc) = locs at hG ⊢
  unfold w_X8_lots at hw
  refine lv_iload_n hx hb dX8_lots_0 rfl (lv_at hl 1 rfl) ?_
  refine lv_iconst (v := 1) hx hb dX8_lots_1 (by decide) ?_
  refine lv_bipush (v := 20) hx hb dX8_lots_2 (by decide) ?_
  refine r_ki (r_run_S (As := [.int x1, .int 1, .int 20]) (rest := []) hx hb hml hown hts hK hN hG (c_X8_range l y x1 1 20 st _ hw) qM_X8_63 qT_X8_range qN_X8 qC_X8_range hd_X8_range ⟨Nat.le_of_ble_eq_true rfl, Nat.le_of_ble_eq_true rfl⟩ hl.1 rfl (Nat.le_of_ble_eq_true rfl) dX8_lots_4) hG (fun r4 st4 H locs hw hG => ?_)
  refine lv_iload_n hx hb dX8_lots_7 rfl (lv_at hl 3 rfl) ?_
  refine lv_iconst (v := 1) hx hb dX8_lots_8 (by decide) ?_
  refine r_ki (r_run_S (As := [.int x3, .int 1]) (rest := [.int r4]) hx hb hml hown hts hK hN hG (c_X8_choice l y x3 1 st4 _ hw) qM_X8_97 qT_X8_choice qN_X8 qC_X8_choice hd_X8_choice ⟨Nat.le_of_ble_eq_true rfl, Nat.le_of_ble_eq_true rfl⟩ hl.1 rfl (Nat.le_of_ble_eq_true rfl) dX8_lots_9) hG (fun r9 st9 H locs hw hG => ?_)
  refine lv_iconst (v := 0) hx hb dX8_lots_12 (by decide) ?_
  refine r_ki (r_run_S (As := [.int r4, .int r9, .int 0]) (rest := []) hx hb hml hown hts hK hN hG (c_X8_firstOf l y r4 r9 0 st9 _ hw) qM_X8_71 qT_X8_firstOf qN_X8 qC_X8_firstOf hd_X8_firstOf ⟨Nat.le_of_ble_eq_true rfl, Nat.le_of_ble_eq_true rfl⟩ hl.1 rfl (Nat.le_of_ble_eq_true rfl) dX8_lots_13) hG (fun r13 st13 H locs hw hG => ?_)
  refine lv_istore (lv' := [(4, .int r13), (0, .ref (ad y 0)), (1, .int x1), (2, .int x2), (3, .int x3)]) hx hb dX8_lots_16 hl (Nat.le_of_ble_eq_true rfl) rfl (fun ls hl => ?_)
  refine lv_iload hx hb dX8_lots_18 (lv_at hl 0 rfl) ?_
  refine lv_if_eq (tgt := 32) hx hb dX8_lots_20 (by decide) (fun hc => ?_) (fun hc => ?_)
  · replace hw := hw.1 hc
    refine lv_aload_n hx hb dX8_lots_32 rfl (lv_at hl 1 rfl) ?_
    refine r_get (C := RX8) (T := TX8) (Nf := 10) hx hb hts hown hK hG (by decide) rfl rfl inX8 8 (by decide) qF_X8_59 rfl dX8_lots_33 ?_
    refine lv_iload_n hx hb dX8_lots_36 rfl (lv_at hl 2 rfl) ?_
    refine lv_iload_n hx hb dX8_lots_37 rfl (lv_at hl 3 rfl) ?_
    refine lv_iload_n hx hb dX8_lots_38 rfl (lv_at hl 4 rfl) ?_
    refine r_ki (r_run_V (k := 10) (As := [.int x1, .int x2, .int x3]) (rest := []) hx hb hml hown hts hK hN hG (c_X4_byLot l y x1 x2 x3 st13 _ hw) (by decide) rfl rfl rfl qM_X8_301 qI_X4_byLot qS_X4_byLot qN_X4 qC_X4_byLot hd_X4_byLot ⟨Nat.le_of_ble_eq_true rfl, Nat.le_of_ble_eq_true rfl⟩ hl.1 rfl (Nat.le_of_ble_eq_true rfl) dX8_lots_39) hG (fun r39 st39 H locs hw hG => ?_)
    exact r_iret hx hb hr hlk hK hG rfl hw dX8_lots_42
  · replace hw := hw.2 hc
    refine lv_aload_n hx hb dX8_lots_23 rfl (lv_at hl 1 rfl) ?_
    refine lv_iload hx hb dX8_lots_24 (lv_at hl 0 rfl) ?_
    refine r_ki (r_run_V (k := 0) (As := [.int r13]) (rest := []) hx hb hml hown hts hK hN hG (c_X8_refused l y r13 st13 _ hw) (by decide) rfl rfl rfl qM_X8_74 qI_X8_refused qS_X8_refused qN_X8 qC_X8_refused hd_X8_refused ⟨Nat.le_of_ble_eq_true rfl, Nat.le_of_ble_eq_true rfl⟩ hl.1 rfl (Nat.le_of_ble_eq_true rfl) dX8_lots_26) hG (fun r26 st26 H locs hw hG => ?_)
    refine lv_goto (tgt := 42) hx hb dX8_lots_29 (by decide) ?_
    exact r_iret hx hb hr hlk hK hG rfl hw dX8_lots_42
theorem hd_X8_deepest : yX8_deepest.cls ≠ "java/lang/invoke/MethodHandle" ∧ yX8_deepest.cls ≠ "java/lang/invoke/VarHandle" ∧ (parseMethodDescriptor yX8_deepest.desc).map (fun d => d.parameters.length) = some 1 := by decide +kernel
set_option maxRecDepth 100000 in
set_option maxHeartbeats 4000000 in
theorem c_X8_deepest (l : Launch) (y : Sy) (x1 : Int32) (st : St) (K : Int32 → St → Prop) (hw : w_X8_deepest x1 st K) : Ci 107 enX l yX8_deepest cX8_deepest 3 (some .int) 3 68 y [.ref (ad y 0), .int x1] st K := by
  refine ent (by decide) (Nat.le_of_ble_eq_true rfl) ?_
  intro p e s m below meth c C hG ls hl
  have hl : lv_has ls 3 [(0, .ref (ad y 0)), (1, .int x1)] := hl
  generalize ([.ref (ad y 0), .int x1] : List Value).toArray = args at C ⊢
  have C : Sd p s m args meth c cX8_deepest 3 RX8 (some .int) y := C
  obtain ⟨hx, hb, hml, hown, hts, hr, hlk, hK, hN⟩ := id C
  generalize s.heap = H at hG ⊢
  generalize ([] : List Loc) = locs at hG ⊢
  unfold w_X8_deepest at hw
  refine lv_iload_n hx hb dX8_deepest_0 rfl (lv_at hl 1 rfl) ?_
  refine r_ki (r_run_S (As := [.int x1]) (rest := []) hx hb hml hown hts hK hN hG (c_X8_townRefusal l y x1 st _ hw) qM_X8_169 qT_X8_townRefusal qN_X8 qC_X8_townRefusal hd_X8_townRefusal ⟨Nat.le_of_ble_eq_true rfl, Nat.le_of_ble_eq_true rfl⟩ hl.1 rfl (Nat.le_of_ble_eq_true rfl) dX8_deepest_1) hG (fun r1 st1 H locs hw hG => ?_)
  refine lv_istore_n (lv' := [(2, .int r1), (0, .ref (ad y 0)), (1, .int x1)]) hx hb dX8_deepest_4 rfl hl (Nat.le_of_ble_eq_true rfl) rfl (fun ls hl => ?_)
  refine lv_iload_n hx hb dX8_deepest_5 rfl (lv_at hl 0 rfl) ?_
  refine lv_if_eq (tgt := 17) hx hb dX8_deepest_6 (by decide) (fun hc => ?_) (fun hc => ?_)
  · replace hw := hw.1 hc
    refine lv_aload_n hx hb dX8_deepest_17 rfl (lv_at hl 1 rfl) ?_
    refine r_get (C := RX8) (T := TX8) (Nf := 10) hx hb hts hown hK hG (by decide) rfl rfl inX8 7 (by decide) qF_X8_52 rfl dX8_deepest_18 ?_
    refine lv_iload_n hx hb dX8_deepest_21 rfl (lv_at hl 2 rfl) ?_
    refine r_ki (r_run_V (k := 8) (As := [.int x1]) (rest := []) hx hb hml hown hts hK hN hG (c_X3_mostHateIn l y x1 st1 _ hw) (by decide) rfl rfl rfl qM_X8_304 qI_X3_mostHateIn qS_X3_mostHateIn qN_X3 qC_X3_mostHateIn hd_X3_mostHateIn ⟨Nat.le_of_ble_eq_true rfl, Nat.le_of_ble_eq_true rfl⟩ hl.1 rfl (Nat.le_of_ble_eq_true rfl) dX8_deepest_22) hG (fun r22 st22 H locs hw hG => ?_)
    exact r_iret hx hb hr hlk hK hG rfl hw dX8_deepest_25
  · replace hw := hw.2 hc
    refine lv_aload_n hx hb dX8_deepest_9 rfl (lv_at hl 1 rfl) ?_
    refine lv_iload_n hx hb dX8_deepest_10 rfl (lv_at hl 0 rfl) ?_
    refine r_ki (r_run_V (k := 0) (As := [.int r1]) (rest := []) hx hb hml hown hts hK hN hG (c_X8_refused l y r1 st1 _ hw) (by decide) rfl rfl rfl qM_X8_74 qI_X8_refused qS_X8_refused qN_X8 qC_X8_refused hd_X8_refused ⟨Nat.le_of_ble_eq_true rfl, Nat.le_of_ble_eq_true rfl⟩ hl.1 rfl (Nat.le_of_ble_eq_true rfl) dX8_deepest_11) hG (fun r11 st11 H locs hw hG => ?_)
    refine lv_goto (tgt := 25) hx hb dX8_deepest_14 (by decide) ?_
    exact r_iret hx hb hr hlk hK hG rfl hw dX8_deepest_25
theorem hd_X8_can : yX8_can.cls ≠ "java/lang/invoke/MethodHandle" ∧ yX8_can.cls ≠ "java/lang/invoke/VarHandle" ∧ (parseMethodDescriptor yX8_can.desc).map (fun d => d.parameters.length) = some 1 := by decide +kernel
set_option maxRecDepth 100000 in
set_option maxHeartbeats 4000000 in
theorem c_X8_can (l : Launch) (y : Sy) (x1 : Int32) (st : St) (K : Int32 → St → Prop) (hw : w_X8_can x1 st K) : Ci 107 enX l yX8_can cX8_can 3 (some .int) 4 91 y [.ref (ad y 0), .int x1] st K := by
  refine ent (by decide) (Nat.le_of_ble_eq_true rfl) ?_
  intro p e s m below meth c C hG ls hl
  have hl : lv_has ls 3 [(0, .ref (ad y 0)), (1, .int x1)] := hl
  generalize ([.ref (ad y 0), .int x1] : List Value).toArray = args at C ⊢
  have C : Sd p s m args meth c cX8_can 3 RX8 (some .int) y := C
  obtain ⟨hx, hb, hml, hown, hts, hr, hlk, hK, hN⟩ := id C
  generalize s.heap = H at hG ⊢
  generalize ([] : List Loc) = locs at hG ⊢
  unfold w_X8_can at hw
  refine lv_iload_n hx hb dX8_can_0 rfl (lv_at hl 1 rfl) ?_
  refine lv_iconst (v := 0) hx hb dX8_can_1 (by decide) ?_
  refine lv_bipush (v := 99) hx hb dX8_can_2 (by decide) ?_
  refine r_ki (r_run_S (As := [.int x1, .int 0, .int 99]) (rest := []) hx hb hml hown hts hK hN hG (c_X8_range l y x1 0 99 st _ hw) qM_X8_63 qT_X8_range qN_X8 qC_X8_range hd_X8_range ⟨Nat.le_of_ble_eq_true rfl, Nat.le_of_ble_eq_true rfl⟩ hl.1 rfl (Nat.le_of_ble_eq_true rfl) dX8_can_4) hG (fun r4 st4 H locs hw hG => ?_)
  refine lv_istore_n (lv' := [(2, .int r4), (0, .ref (ad y 0)), (1, .int x1)]) hx hb dX8_can_7 rfl hl (Nat.le_of_ble_eq_true rfl) rfl (fun ls hl => ?_)
  refine lv_iload_n hx hb dX8_can_8 rfl (lv_at hl 0 rfl) ?_
  refine lv_if_eq (tgt := 20) hx hb dX8_can_9 (by decide) (fun hc => ?_) (fun hc => ?_)
  · replace hw := hw.1 hc
    refine lv_aload_n hx hb dX8_can_20 rfl (lv_at hl 1 rfl) ?_
    refine r_get (C := RX8) (T := TX8) (Nf := 10) hx hb hts hown hK hG (by decide) rfl rfl inX8 7 (by decide) qF_X8_52 rfl dX8_can_21 ?_
    refine lv_iload_n hx hb dX8_can_24 rfl (lv_at hl 2 rfl) ?_
    refine r_ki (r_run_V (k := 8) (As := [.int x1]) (rest := []) hx hb hml hown hts hK hN hG (c_X3_townsThatOpen l y x1 st4 _ hw) (by decide) rfl rfl rfl qM_X8_307 qI_X3_townsThatOpen qS_X3_townsThatOpen qN_X3 qC_X3_townsThatOpen hd_X3_townsThatOpen ⟨Nat.le_of_ble_eq_true rfl, Nat.le_of_ble_eq_true rfl⟩ hl.1 rfl (Nat.le_of_ble_eq_true rfl) dX8_can_25) hG (fun r25 st25 H locs hw hG => ?_)
    exact r_iret hx hb hr hlk hK hG rfl hw dX8_can_28
  · replace hw := hw.2 hc
    refine lv_aload_n hx hb dX8_can_12 rfl (lv_at hl 1 rfl) ?_
    refine lv_iload_n hx hb dX8_can_13 rfl (lv_at hl 0 rfl) ?_
    refine r_ki (r_run_V (k := 0) (As := [.int r4]) (rest := []) hx hb hml hown hts hK hN hG (c_X8_refused l y r4 st4 _ hw) (by decide) rfl rfl rfl qM_X8_74 qI_X8_refused qS_X8_refused qN_X8 qC_X8_refused hd_X8_refused ⟨Nat.le_of_ble_eq_true rfl, Nat.le_of_ble_eq_true rfl⟩ hl.1 rfl (Nat.le_of_ble_eq_true rfl) dX8_can_14) hG (fun r14 st14 H locs hw hG => ?_)
    refine lv_goto (tgt := 28) hx hb dX8_can_17 (by decide) ?_
    exact r_iret hx hb hr hlk hK hG rfl hw dX8_can_28
theorem hd_X8_pairs : yX8_pairs.cls ≠ "java/lang/invoke/MethodHandle" ∧ yX8_pairs.cls ≠ "java/lang/invoke/VarHandle" ∧ (parseMethodDescriptor yX8_pairs.desc).map (fun d => d.parameters.length) = some 1 := by decide +kernel
set_option maxRecDepth 100000 in
set_option maxHeartbeats 4000000 in
theorem c_X8_pairs (l : Launch) (y : Sy) (x1 : Int32) (st : St) (K : Int32 → St → Prop) (hw : w_X8_pairs x1 st K) : Ci 107 enX l yX8_pairs cX8_pairs 3 (some .int) 4 92 y [.ref (ad y 0), .int x1] st K := by
  refine ent (by decide) (Nat.le_of_ble_eq_true rfl) ?_
  intro p e s m below meth c C hG ls hl
  have hl : lv_has ls 3 [(0, .ref (ad y 0)), (1, .int x1)] := hl
  generalize ([.ref (ad y 0), .int x1] : List Value).toArray = args at C ⊢
  have C : Sd p s m args meth c cX8_pairs 3 RX8 (some .int) y := C
  obtain ⟨hx, hb, hml, hown, hts, hr, hlk, hK, hN⟩ := id C
  generalize s.heap = H at hG ⊢
  generalize ([] : List Loc) = locs at hG ⊢
  unfold w_X8_pairs at hw
  refine lv_iload_n hx hb dX8_pairs_0 rfl (lv_at hl 1 rfl) ?_
  refine lv_iconst (v := 0) hx hb dX8_pairs_1 (by decide) ?_
  refine lv_bipush (v := 99) hx hb dX8_pairs_2 (by decide) ?_
  refine r_ki (r_run_S (As := [.int x1, .int 0, .int 99]) (rest := []) hx hb hml hown hts hK hN hG (c_X8_range l y x1 0 99 st _ hw) qM_X8_63 qT_X8_range qN_X8 qC_X8_range hd_X8_range ⟨Nat.le_of_ble_eq_true rfl, Nat.le_of_ble_eq_true rfl⟩ hl.1 rfl (Nat.le_of_ble_eq_true rfl) dX8_pairs_4) hG (fun r4 st4 H locs hw hG => ?_)
  refine lv_istore_n (lv' := [(2, .int r4), (0, .ref (ad y 0)), (1, .int x1)]) hx hb dX8_pairs_7 rfl hl (Nat.le_of_ble_eq_true rfl) rfl (fun ls hl => ?_)
  refine lv_iload_n hx hb dX8_pairs_8 rfl (lv_at hl 0 rfl) ?_
  refine lv_if_eq (tgt := 20) hx hb dX8_pairs_9 (by decide) (fun hc => ?_) (fun hc => ?_)
  · replace hw := hw.1 hc
    refine lv_aload_n hx hb dX8_pairs_20 rfl (lv_at hl 1 rfl) ?_
    refine r_get (C := RX8) (T := TX8) (Nf := 10) hx hb hts hown hK hG (by decide) rfl rfl inX8 7 (by decide) qF_X8_52 rfl dX8_pairs_21 ?_
    refine lv_iload_n hx hb dX8_pairs_24 rfl (lv_at hl 2 rfl) ?_
    refine r_ki (r_run_V (k := 8) (As := [.int x1]) (rest := []) hx hb hml hown hts hK hN hG (c_X3_mostTwos l y x1 st4 _ hw) (by decide) rfl rfl rfl qM_X8_310 qI_X3_mostTwos qS_X3_mostTwos qN_X3 qC_X3_mostTwos hd_X3_mostTwos ⟨Nat.le_of_ble_eq_true rfl, Nat.le_of_ble_eq_true rfl⟩ hl.1 rfl (Nat.le_of_ble_eq_true rfl) dX8_pairs_25) hG (fun r25 st25 H locs hw hG => ?_)
    exact r_iret hx hb hr hlk hK hG rfl hw dX8_pairs_28
  · replace hw := hw.2 hc
    refine lv_aload_n hx hb dX8_pairs_12 rfl (lv_at hl 1 rfl) ?_
    refine lv_iload_n hx hb dX8_pairs_13 rfl (lv_at hl 0 rfl) ?_
    refine r_ki (r_run_V (k := 0) (As := [.int r4]) (rest := []) hx hb hml hown hts hK hN hG (c_X8_refused l y r4 st4 _ hw) (by decide) rfl rfl rfl qM_X8_74 qI_X8_refused qS_X8_refused qN_X8 qC_X8_refused hd_X8_refused ⟨Nat.le_of_ble_eq_true rfl, Nat.le_of_ble_eq_true rfl⟩ hl.1 rfl (Nat.le_of_ble_eq_true rfl) dX8_pairs_14) hG (fun r14 st14 H locs hw hG => ?_)
    refine lv_goto (tgt := 28) hx hb dX8_pairs_17 (by decide) ?_
    exact r_iret hx hb hr hlk hK hG rfl hw dX8_pairs_28
set_option maxRecDepth 100000 in
set_option maxHeartbeats 4000000 in
theorem z_X8_worst_b44 {p : Program} {e : Env} {s : State} {m : MethodId} {args : Array Value} {below : List Frame} {meth : Method} {c : Code} (l : Launch) (y : Sy) (x1 : Int32) (C : Sd p s m args meth c cX8_worst 3 RX8 (some .int) y)  (K : Int32 → St → Prop)  (s0 : Int32) (st : St) {H : Heap} {locs : List Loc} {ls : Array Slot} (hG : gH 107 enX y st s H locs) (hl : lv_has ls 3 []) (hw : w_X8_worst_b44 x1  K s0 st) : W p l e (rmm 3 68) s m args below meth c H locs 0 0 (MQ below (va_Qi K (gB 107 enX y) (gA 107 y)) args s 0 0 (gA 107 y)) (F0 m 44 ls [.int s0, .ref (ad y 8)]) := by
  obtain ⟨hx, hb, hml, hown, hts, hr, hlk, hK, hN⟩ := id C
  unfold w_X8_worst_b44 at hw
  refine r_ki (r_run_V (k := 8) (As := [.int s0]) (rest := []) hx hb hml hown hts hK hN hG (c_X3_worstTwo l y s0 st _ hw) (by decide) rfl rfl rfl qM_X8_316 qI_X3_worstTwo qS_X3_worstTwo qN_X3 qC_X3_worstTwo hd_X3_worstTwo ⟨Nat.le_of_ble_eq_true rfl, Nat.le_of_ble_eq_true rfl⟩ hl.1 rfl (Nat.le_of_ble_eq_true rfl) dX8_worst_44) hG (fun r44 st44 H locs hw hG => ?_)
  exact r_iret hx hb hr hlk hK hG rfl hw dX8_worst_47
theorem hd_X8_worst : yX8_worst.cls ≠ "java/lang/invoke/MethodHandle" ∧ yX8_worst.cls ≠ "java/lang/invoke/VarHandle" ∧ (parseMethodDescriptor yX8_worst.desc).map (fun d => d.parameters.length) = some 1 := by decide +kernel
set_option maxRecDepth 100000 in
set_option maxHeartbeats 4000000 in
theorem c_X8_worst (l : Launch) (y : Sy) (x1 : Int32) (st : St) (K : Int32 → St → Prop) (hw : w_X8_worst x1 st K) : Ci 107 enX l yX8_worst cX8_worst 3 (some .int) 3 68 y [.ref (ad y 0), .int x1] st K := by
  refine ent (by decide) (Nat.le_of_ble_eq_true rfl) ?_
  intro p e s m below meth c C hG ls hl
  have hl : lv_has ls 3 [(0, .ref (ad y 0)), (1, .int x1)] := hl
  generalize ([.ref (ad y 0), .int x1] : List Value).toArray = args at C ⊢
  have C : Sd p s m args meth c cX8_worst 3 RX8 (some .int) y := C
  obtain ⟨hx, hb, hml, hown, hts, hr, hlk, hK, hN⟩ := id C
  generalize s.heap = H at hG ⊢
  generalize ([] : List Loc) = locs at hG ⊢
  unfold w_X8_worst at hw
  refine lv_iload_n hx hb dX8_worst_0 rfl (lv_at hl 1 rfl) ?_
  refine lv_iconst (v := 2) hx hb dX8_worst_1 (by decide) ?_
  refine r_ki (r_run_S (As := [.int x1, .int 2]) (rest := []) hx hb hml hown hts hK hN hG (c_X8_choice l y x1 2 st _ hw) qM_X8_97 qT_X8_choice qN_X8 qC_X8_choice hd_X8_choice ⟨Nat.le_of_ble_eq_true rfl, Nat.le_of_ble_eq_true rfl⟩ hl.1 rfl (Nat.le_of_ble_eq_true rfl) dX8_worst_2) hG (fun r2 st2 H locs hw hG => ?_)
  refine lv_istore_n (lv' := [(2, .int r2), (0, .ref (ad y 0)), (1, .int x1)]) hx hb dX8_worst_5 rfl hl (Nat.le_of_ble_eq_true rfl) rfl (fun ls hl => ?_)
  refine lv_iload_n hx hb dX8_worst_6 rfl (lv_at hl 0 rfl) ?_
  refine lv_if_eq (tgt := 16) hx hb dX8_worst_7 (by decide) (fun hc => ?_) (fun hc => ?_)
  · replace hw := hw.1 hc
    refine lv_iload_n hx hb dX8_worst_16 rfl (lv_at hl 2 rfl) ?_
    refine lv_iconst (v := 2) hx hb dX8_worst_17 (by decide) ?_
    refine lv_icmp_ne (tgt := 31) hx hb dX8_worst_18 (by decide) (fun hc => ?_) (fun hc => ?_)
    · replace hw := hw.1 hc
      refine lv_aload_n hx hb dX8_worst_31 rfl (lv_at hl 1 rfl) ?_
      refine r_get (C := RX8) (T := TX8) (Nf := 10) hx hb hts hown hK hG (by decide) rfl rfl inX8 7 (by decide) qF_X8_52 rfl dX8_worst_32 ?_
      refine lv_iload_n hx hb dX8_worst_35 rfl (lv_at hl 2 rfl) ?_
      refine lv_if_ne (tgt := 43) hx hb dX8_worst_36 (by decide) (fun hc => ?_) (fun hc => ?_)
      · replace hw := hw.1 hc
        refine lv_iconst (v := 0) hx hb dX8_worst_43 (by decide) ?_
        exact z_X8_worst_b44 l y x1 C  K  0 st2 hG (lv_sub hl [] rfl) hw
      · replace hw := hw.2 hc
        refine lv_iconst (v := 1) hx hb dX8_worst_39 (by decide) ?_
        refine lv_goto (tgt := 44) hx hb dX8_worst_40 (by decide) ?_
        exact z_X8_worst_b44 l y x1 C  K  1 st2 hG (lv_sub hl [] rfl) hw
    · replace hw := hw.2 hc
      refine lv_aload_n hx hb dX8_worst_21 rfl (lv_at hl 1 rfl) ?_
      refine r_get (C := RX8) (T := TX8) (Nf := 10) hx hb hts hown hK hG (by decide) rfl rfl inX8 7 (by decide) qF_X8_52 rfl dX8_worst_22 ?_
      refine r_ki (r_run_V (k := 8) (As := []) (rest := []) hx hb hml hown hts hK hN hG (c_X3_friends l y  st2 _ hw) (by decide) rfl rfl rfl qM_X8_313 qI_X3_friends qS_X3_friends qN_X3 qC_X3_friends hd_X3_friends ⟨Nat.le_of_ble_eq_true rfl, Nat.le_of_ble_eq_true rfl⟩ hl.1 rfl (Nat.le_of_ble_eq_true rfl) dX8_worst_25) hG (fun r25 st25 H locs hw hG => ?_)
      refine lv_goto (tgt := 47) hx hb dX8_worst_28 (by decide) ?_
      exact r_iret hx hb hr hlk hK hG rfl hw dX8_worst_47
  · replace hw := hw.2 hc
    refine lv_aload_n hx hb dX8_worst_10 rfl (lv_at hl 1 rfl) ?_
    refine lv_iload_n hx hb dX8_worst_11 rfl (lv_at hl 0 rfl) ?_
    refine r_ki (r_run_V (k := 0) (As := [.int r2]) (rest := []) hx hb hml hown hts hK hN hG (c_X8_refused l y r2 st2 _ hw) (by decide) rfl rfl rfl qM_X8_74 qI_X8_refused qS_X8_refused qN_X8 qC_X8_refused hd_X8_refused ⟨Nat.le_of_ble_eq_true rfl, Nat.le_of_ble_eq_true rfl⟩ hl.1 rfl (Nat.le_of_ble_eq_true rfl) dX8_worst_12) hG (fun r12 st12 H locs hw hG => ?_)
    exact r_iret hx hb hr hlk hK hG rfl hw dX8_worst_15
theorem hd_X8_fullest : yX8_fullest.cls ≠ "java/lang/invoke/MethodHandle" ∧ yX8_fullest.cls ≠ "java/lang/invoke/VarHandle" ∧ (parseMethodDescriptor yX8_fullest.desc).map (fun d => d.parameters.length) = some 1 := by decide +kernel
set_option maxRecDepth 100000 in
set_option maxHeartbeats 4000000 in
theorem c_X8_fullest (l : Launch) (y : Sy) (x1 : Int32) (st : St) (K : Int32 → St → Prop) (hw : w_X8_fullest x1 st K) : Ci 107 enX l yX8_fullest cX8_fullest 4 (some .int) 5 108 y [.ref (ad y 0), .int x1] st K := by
  refine ent (by decide) (Nat.le_of_ble_eq_true rfl) ?_
  intro p e s m below meth c C hG ls hl
  have hl : lv_has ls 4 [(0, .ref (ad y 0)), (1, .int x1)] := hl
  generalize ([.ref (ad y 0), .int x1] : List Value).toArray = args at C ⊢
  have C : Sd p s m args meth c cX8_fullest 4 RX8 (some .int) y := C
  obtain ⟨hx, hb, hml, hown, hts, hr, hlk, hK, hN⟩ := id C
  generalize s.heap = H at hG ⊢
  generalize ([] : List Loc) = locs at hG ⊢
  unfold w_X8_fullest at hw
  refine lv_iload_n hx hb dX8_fullest_0 rfl (lv_at hl 1 rfl) ?_
  refine lv_iconst (v := 1) hx hb dX8_fullest_1 (by decide) ?_
  refine r_ki (r_run_S (As := [.int x1, .int 1]) (rest := []) hx hb hml hown hts hK hN hG (c_X8_choice l y x1 1 st _ hw) qM_X8_97 qT_X8_choice qN_X8 qC_X8_choice hd_X8_choice ⟨Nat.le_of_ble_eq_true rfl, Nat.le_of_ble_eq_true rfl⟩ hl.1 rfl (Nat.le_of_ble_eq_true rfl) dX8_fullest_2) hG (fun r2 st2 H locs hw hG => ?_)
  refine lv_istore_n (lv' := [(2, .int r2), (0, .ref (ad y 0)), (1, .int x1)]) hx hb dX8_fullest_5 rfl hl (Nat.le_of_ble_eq_true rfl) rfl (fun ls hl => ?_)
  refine lv_iload_n hx hb dX8_fullest_6 rfl (lv_at hl 0 rfl) ?_
  refine lv_if_eq (tgt := 16) hx hb dX8_fullest_7 (by decide) (fun hc => ?_) (fun hc => ?_)
  · replace hw := hw.1 hc
    refine lv_aload_n hx hb dX8_fullest_16 rfl (lv_at hl 1 rfl) ?_
    refine r_get (C := RX8) (T := TX8) (Nf := 10) hx hb hts hown hK hG (by decide) rfl rfl inX8 7 (by decide) qF_X8_52 rfl dX8_fullest_17 ?_
    refine r_ki (r_run_V (k := 8) (As := []) (rest := []) hx hb hml hown hts hK hN hG (c_X3_townOfMost l y  st2 _ hw) (by decide) rfl rfl rfl qM_X8_320 qI_X3_townOfMost qS_X3_townOfMost qN_X3 qC_X3_townOfMost hd_X3_townOfMost ⟨Nat.le_of_ble_eq_true rfl, Nat.le_of_ble_eq_true rfl⟩ hl.1 rfl (Nat.le_of_ble_eq_true rfl) dX8_fullest_20) hG (fun r20 st20 H locs hw hG => ?_)
    refine lv_istore_n (lv' := [(3, .int r20), (2, .int r2), (0, .ref (ad y 0)), (1, .int x1)]) hx hb dX8_fullest_23 rfl hl (Nat.le_of_ble_eq_true rfl) rfl (fun ls hl => ?_)
    refine lv_iload_n hx hb dX8_fullest_24 rfl (lv_at hl 3 rfl) ?_
    refine lv_if_ne (tgt := 32) hx hb dX8_fullest_25 (by decide) (fun hc => ?_) (fun hc => ?_)
    · replace hw := hw.1 hc
      refine lv_aload_n hx hb dX8_fullest_32 rfl (lv_at hl 2 rfl) ?_
      refine r_get (C := RX8) (T := TX8) (Nf := 10) hx hb hts hown hK hG (by decide) rfl rfl inX8 7 (by decide) qF_X8_52 rfl dX8_fullest_33 ?_
      refine lv_iload_n hx hb dX8_fullest_36 rfl (lv_at hl 0 rfl) ?_
      refine r_ki (r_run_V (k := 8) (As := [.int r20]) (rest := []) hx hb hml hown hts hK hN hG (c_X3_crowd l y r20 st20 _ hw) (by decide) rfl rfl rfl qM_X8_323 qI_X3_crowd qS_X3_crowd qN_X3 qC_X3_crowd hd_X3_crowd ⟨Nat.le_of_ble_eq_true rfl, Nat.le_of_ble_eq_true rfl⟩ hl.1 rfl (Nat.le_of_ble_eq_true rfl) dX8_fullest_37) hG (fun r37 st37 H locs hw hG => ?_)
      exact r_iret hx hb hr hlk hK hG rfl hw dX8_fullest_40
    · replace hw := hw.2 hc
      refine lv_iload_n hx hb dX8_fullest_28 rfl (lv_at hl 0 rfl) ?_
      refine lv_goto (tgt := 40) hx hb dX8_fullest_29 (by decide) ?_
      exact r_iret hx hb hr hlk hK hG rfl hw dX8_fullest_40
  · replace hw := hw.2 hc
    refine lv_aload_n hx hb dX8_fullest_10 rfl (lv_at hl 1 rfl) ?_
    refine lv_iload_n hx hb dX8_fullest_11 rfl (lv_at hl 0 rfl) ?_
    refine r_ki (r_run_V (k := 0) (As := [.int r2]) (rest := []) hx hb hml hown hts hK hN hG (c_X8_refused l y r2 st2 _ hw) (by decide) rfl rfl rfl qM_X8_74 qI_X8_refused qS_X8_refused qN_X8 qC_X8_refused hd_X8_refused ⟨Nat.le_of_ble_eq_true rfl, Nat.le_of_ble_eq_true rfl⟩ hl.1 rfl (Nat.le_of_ble_eq_true rfl) dX8_fullest_12) hG (fun r12 st12 H locs hw hG => ?_)
    exact r_iret hx hb hr hlk hK hG rfl hw dX8_fullest_15
theorem hd_X8_thickest : yX8_thickest.cls ≠ "java/lang/invoke/MethodHandle" ∧ yX8_thickest.cls ≠ "java/lang/invoke/VarHandle" ∧ (parseMethodDescriptor yX8_thickest.desc).map (fun d => d.parameters.length) = some 0 := by decide +kernel
set_option maxRecDepth 100000 in
set_option maxHeartbeats 4000000 in
theorem c_X8_thickest (l : Launch) (y : Sy)  (st : St) (K : Int32 → St → Prop) (hw : w_X8_thickest  st K) : Ci 107 enX l yX8_thickest cX8_thickest 1 (some .int) 3 65 y [.ref (ad y 0)] st K := by
  refine ent (by decide) (Nat.le_of_ble_eq_true rfl) ?_
  intro p e s m below meth c C hG ls hl
  have hl : lv_has ls 1 [(0, .ref (ad y 0))] := hl
  generalize ([.ref (ad y 0)] : List Value).toArray = args at C ⊢
  have C : Sd p s m args meth c cX8_thickest 1 RX8 (some .int) y := C
  obtain ⟨hx, hb, hml, hown, hts, hr, hlk, hK, hN⟩ := id C
  generalize s.heap = H at hG ⊢
  generalize ([] : List Loc) = locs at hG ⊢
  unfold w_X8_thickest at hw
  refine lv_aload_n hx hb dX8_thickest_0 rfl (lv_at hl 0 rfl) ?_
  refine r_get (C := RX8) (T := TX8) (Nf := 10) hx hb hts hown hK hG (by decide) rfl rfl inX8 7 (by decide) qF_X8_52 rfl dX8_thickest_1 ?_
  refine r_ki (r_run_V (k := 8) (As := []) (rest := []) hx hb hml hown hts hK hN hG (c_X3_deepestSealed l y  st _ hw) (by decide) rfl rfl rfl qM_X8_326 qI_X3_deepestSealed qS_X3_deepestSealed qN_X3 qC_X3_deepestSealed hd_X3_deepestSealed ⟨Nat.le_of_ble_eq_true rfl, Nat.le_of_ble_eq_true rfl⟩ hl.1 rfl (Nat.le_of_ble_eq_true rfl) dX8_thickest_4) hG (fun r4 st4 H locs hw hG => ?_)
  exact r_iret hx hb hr hlk hK hG rfl hw dX8_thickest_7
theorem hd_X8_mildest : yX8_mildest.cls ≠ "java/lang/invoke/MethodHandle" ∧ yX8_mildest.cls ≠ "java/lang/invoke/VarHandle" ∧ (parseMethodDescriptor yX8_mildest.desc).map (fun d => d.parameters.length) = some 0 := by decide +kernel
set_option maxRecDepth 100000 in
set_option maxHeartbeats 4000000 in
theorem c_X8_mildest (l : Launch) (y : Sy)  (st : St) (K : Int32 → St → Prop) (hw : w_X8_mildest  st K) : Ci 107 enX l yX8_mildest cX8_mildest 1 (some .int) 5 110 y [.ref (ad y 0)] st K := by
  refine ent (by decide) (Nat.le_of_ble_eq_true rfl) ?_
  intro p e s m below meth c C hG ls hl
  have hl : lv_has ls 1 [(0, .ref (ad y 0))] := hl
  generalize ([.ref (ad y 0)] : List Value).toArray = args at C ⊢
  have C : Sd p s m args meth c cX8_mildest 1 RX8 (some .int) y := C
  obtain ⟨hx, hb, hml, hown, hts, hr, hlk, hK, hN⟩ := id C
  generalize s.heap = H at hG ⊢
  generalize ([] : List Loc) = locs at hG ⊢
  unfold w_X8_mildest at hw
  refine lv_aload_n hx hb dX8_mildest_0 rfl (lv_at hl 0 rfl) ?_
  refine r_get (C := RX8) (T := TX8) (Nf := 10) hx hb hts hown hK hG (by decide) rfl rfl inX8 7 (by decide) qF_X8_52 rfl dX8_mildest_1 ?_
  refine r_ki (r_run_V (k := 8) (As := []) (rest := []) hx hb hml hown hts hK hN hG (c_X3_leastHating l y  st _ hw) (by decide) rfl rfl rfl qM_X8_329 qI_X3_leastHating qS_X3_leastHating qN_X3 qC_X3_leastHating hd_X3_leastHating ⟨Nat.le_of_ble_eq_true rfl, Nat.le_of_ble_eq_true rfl⟩ hl.1 rfl (Nat.le_of_ble_eq_true rfl) dX8_mildest_4) hG (fun r4 st4 H locs hw hG => ?_)
  exact r_iret hx hb hr hlk hK hG rfl hw dX8_mildest_7
theorem hd_X8_bare : yX8_bare.cls ≠ "java/lang/invoke/MethodHandle" ∧ yX8_bare.cls ≠ "java/lang/invoke/VarHandle" ∧ (parseMethodDescriptor yX8_bare.desc).map (fun d => d.parameters.length) = some 0 := by decide +kernel
set_option maxRecDepth 100000 in
set_option maxHeartbeats 4000000 in
theorem c_X8_bare (l : Launch) (y : Sy)  (st : St) (K : Int32 → St → Prop) (hw : w_X8_bare  st K) : Ci 107 enX l yX8_bare cX8_bare 1 (some .int) 5 108 y [.ref (ad y 0)] st K := by
  refine ent (by decide) (Nat.le_of_ble_eq_true rfl) ?_
  intro p e s m below meth c C hG ls hl
  have hl : lv_has ls 1 [(0, .ref (ad y 0))] := hl
  generalize ([.ref (ad y 0)] : List Value).toArray = args at C ⊢
  have C : Sd p s m args meth c cX8_bare 1 RX8 (some .int) y := C
  obtain ⟨hx, hb, hml, hown, hts, hr, hlk, hK, hN⟩ := id C
  generalize s.heap = H at hG ⊢
  generalize ([] : List Loc) = locs at hG ⊢
  unfold w_X8_bare at hw
  refine lv_aload_n hx hb dX8_bare_0 rfl (lv_at hl 0 rfl) ?_
  refine r_get (C := RX8) (T := TX8) (Nf := 10) hx hb hts hown hK hG (by decide) rfl rfl inX8 7 (by decide) qF_X8_52 rfl dX8_bare_1 ?_
  refine r_ki (r_run_V (k := 8) (As := []) (rest := []) hx hb hml hown hts hK hN hG (c_X3_bareTowns l y  st _ hw) (by decide) rfl rfl rfl qM_X8_332 qI_X3_bareTowns qS_X3_bareTowns qN_X3 qC_X3_bareTowns hd_X3_bareTowns ⟨Nat.le_of_ble_eq_true rfl, Nat.le_of_ble_eq_true rfl⟩ hl.1 rfl (Nat.le_of_ble_eq_true rfl) dX8_bare_4) hG (fun r4 st4 H locs hw hG => ?_)
  exact r_iret hx hb hr hlk hK hG rfl hw dX8_bare_7
theorem hd_X8_enemy : yX8_enemy.cls ≠ "java/lang/invoke/MethodHandle" ∧ yX8_enemy.cls ≠ "java/lang/invoke/VarHandle" ∧ (parseMethodDescriptor yX8_enemy.desc).map (fun d => d.parameters.length) = some 1 := by decide +kernel
set_option maxRecDepth 100000 in
set_option maxHeartbeats 4000000 in
theorem c_X8_enemy (l : Launch) (y : Sy) (x1 : Int32) (st : St) (K : Int32 → St → Prop) (hw : w_X8_enemy x1 st K) : Ci 107 enX l yX8_enemy cX8_enemy 3 (some .int) 3 67 y [.ref (ad y 0), .int x1] st K := by
  refine ent (by decide) (Nat.le_of_ble_eq_true rfl) ?_
  intro p e s m below meth c C hG ls hl
  have hl : lv_has ls 3 [(0, .ref (ad y 0)), (1, .int x1)] := hl
  generalize ([.ref (ad y 0), .int x1] : List Value).toArray = args at C ⊢
  have C : Sd p s m args meth c cX8_enemy 3 RX8 (some .int) y := C
  obtain ⟨hx, hb, hml, hown, hts, hr, hlk, hK, hN⟩ := id C
  generalize s.heap = H at hG ⊢
  generalize ([] : List Loc) = locs at hG ⊢
  unfold w_X8_enemy at hw
  refine lv_aload_n hx hb dX8_enemy_0 rfl (lv_at hl 0 rfl) ?_
  refine lv_iload_n hx hb dX8_enemy_1 rfl (lv_at hl 1 rfl) ?_
  refine r_ki (r_run_V (k := 0) (As := [.int x1]) (rest := []) hx hb hml hown hts hK hN hG (c_X8_keeperRefusal l y x1 st _ hw) (by decide) rfl rfl rfl qM_X8_94 qI_X8_keeperRefusal qS_X8_keeperRefusal qN_X8 qC_X8_keeperRefusal hd_X8_keeperRefusal ⟨Nat.le_of_ble_eq_true rfl, Nat.le_of_ble_eq_true rfl⟩ hl.1 rfl (Nat.le_of_ble_eq_true rfl) dX8_enemy_2) hG (fun r2 st2 H locs hw hG => ?_)
  refine lv_istore_n (lv' := [(2, .int r2), (0, .ref (ad y 0)), (1, .int x1)]) hx hb dX8_enemy_5 rfl hl (Nat.le_of_ble_eq_true rfl) rfl (fun ls hl => ?_)
  refine lv_iload_n hx hb dX8_enemy_6 rfl (lv_at hl 0 rfl) ?_
  refine lv_if_eq (tgt := 18) hx hb dX8_enemy_7 (by decide) (fun hc => ?_) (fun hc => ?_)
  · replace hw := hw.1 hc
    refine lv_aload_n hx hb dX8_enemy_18 rfl (lv_at hl 1 rfl) ?_
    refine r_get (C := RX8) (T := TX8) (Nf := 10) hx hb hts hown hK hG (by decide) rfl rfl inX8 7 (by decide) qF_X8_52 rfl dX8_enemy_19 ?_
    refine lv_iload_n hx hb dX8_enemy_22 rfl (lv_at hl 2 rfl) ?_
    refine r_ki (r_run_V (k := 8) (As := [.int x1]) (rest := []) hx hb hml hown hts hK hN hG (c_X3_mostHated l y x1 st2 _ hw) (by decide) rfl rfl rfl qM_X8_335 qI_X3_mostHated qS_X3_mostHated qN_X3 qC_X3_mostHated hd_X3_mostHated ⟨Nat.le_of_ble_eq_true rfl, Nat.le_of_ble_eq_true rfl⟩ hl.1 rfl (Nat.le_of_ble_eq_true rfl) dX8_enemy_23) hG (fun r23 st23 H locs hw hG => ?_)
    exact r_iret hx hb hr hlk hK hG rfl hw dX8_enemy_26
  · replace hw := hw.2 hc
    refine lv_aload_n hx hb dX8_enemy_10 rfl (lv_at hl 1 rfl) ?_
    refine lv_iload_n hx hb dX8_enemy_11 rfl (lv_at hl 0 rfl) ?_
    refine r_ki (r_run_V (k := 0) (As := [.int r2]) (rest := []) hx hb hml hown hts hK hN hG (c_X8_refused l y r2 st2 _ hw) (by decide) rfl rfl rfl qM_X8_74 qI_X8_refused qS_X8_refused qN_X8 qC_X8_refused hd_X8_refused ⟨Nat.le_of_ble_eq_true rfl, Nat.le_of_ble_eq_true rfl⟩ hl.1 rfl (Nat.le_of_ble_eq_true rfl) dX8_enemy_12) hG (fun r12 st12 H locs hw hG => ?_)
    refine lv_goto (tgt := 26) hx hb dX8_enemy_15 (by decide) ?_
    exact r_iret hx hb hr hlk hK hG rfl hw dX8_enemy_26
theorem hd_X8_mean : yX8_mean.cls ≠ "java/lang/invoke/MethodHandle" ∧ yX8_mean.cls ≠ "java/lang/invoke/VarHandle" ∧ (parseMethodDescriptor yX8_mean.desc).map (fun d => d.parameters.length) = some 1 := by decide +kernel
set_option maxRecDepth 100000 in
set_option maxHeartbeats 4000000 in
theorem c_X8_mean (l : Launch) (y : Sy) (x1 : Int32) (st : St) (K : Int64 → St → Prop) (hw : w_X8_mean x1 st K) : Cl 107 enX l yX8_mean cX8_mean 4 (some .long) 3 66 y [.ref (ad y 0), .int x1] st K := by
  refine ent (by decide) (Nat.le_of_ble_eq_true rfl) ?_
  intro p e s m below meth c C hG ls hl
  have hl : lv_has ls 4 [(0, .ref (ad y 0)), (1, .int x1)] := hl
  generalize ([.ref (ad y 0), .int x1] : List Value).toArray = args at C ⊢
  have C : Sd p s m args meth c cX8_mean 4 RX8 (some .long) y := C
  obtain ⟨hx, hb, hml, hown, hts, hr, hlk, hK, hN⟩ := id C
  generalize s.heap = H at hG ⊢
  generalize ([] : List Loc) = locs at hG ⊢
  unfold w_X8_mean at hw
  refine lv_iload_n hx hb dX8_mean_0 rfl (lv_at hl 1 rfl) ?_
  refine lv_iconst (v := 1) hx hb dX8_mean_1 (by decide) ?_
  refine r_ki (r_run_S (As := [.int x1, .int 1]) (rest := []) hx hb hml hown hts hK hN hG (c_X8_choice l y x1 1 st _ hw) qM_X8_97 qT_X8_choice qN_X8 qC_X8_choice hd_X8_choice ⟨Nat.le_of_ble_eq_true rfl, Nat.le_of_ble_eq_true rfl⟩ hl.1 rfl (Nat.le_of_ble_eq_true rfl) dX8_mean_2) hG (fun r2 st2 H locs hw hG => ?_)
  refine lv_istore_n (lv' := [(2, .int r2), (0, .ref (ad y 0)), (1, .int x1)]) hx hb dX8_mean_5 rfl hl (Nat.le_of_ble_eq_true rfl) rfl (fun ls hl => ?_)
  refine lv_iload_n hx hb dX8_mean_6 rfl (lv_at hl 0 rfl) ?_
  refine lv_if_eq (tgt := 21) hx hb dX8_mean_7 (by decide) (fun hc => ?_) (fun hc => ?_)
  · replace hw := hw.1 hc
    refine lv_aload_n hx hb dX8_mean_21 rfl (lv_at hl 1 rfl) ?_
    refine r_get (C := RX8) (T := TX8) (Nf := 10) hx hb hts hown hK hG (by decide) rfl rfl inX8 0 (by decide) qF_X8_44 rfl dX8_mean_22 ?_
    refine r_ki (r_run_V (k := 11) (As := []) (rest := []) hx hb hml hown hts hK hN hG (c_X1_keeperCount l y 11 isC_11 st2 _ hw) (isC.lt isC_11) (isC.e isC_11 y _) rfl rfl qM_X8_141 qI_X1_keeperCount qS_X1_keeperCount qN_X1 qC_X1_keeperCount hd_X1_keeperCount ⟨Nat.le_of_ble_eq_true rfl, Nat.le_of_ble_eq_true rfl⟩ hl.1 rfl (Nat.le_of_ble_eq_true rfl) dX8_mean_25) hG (fun r25 st25 H locs hw hG => ?_)
    refine lv_istore_n (lv' := [(3, .int r25), (2, .int r2), (0, .ref (ad y 0)), (1, .int x1)]) hx hb dX8_mean_28 rfl hl (Nat.le_of_ble_eq_true rfl) rfl (fun ls hl => ?_)
    refine lv_aload_n hx hb dX8_mean_29 rfl (lv_at hl 2 rfl) ?_
    refine r_get (C := RX8) (T := TX8) (Nf := 10) hx hb hts hown hK hG (by decide) rfl rfl inX8 0 (by decide) qF_X8_44 rfl dX8_mean_30 ?_
    refine r_ki (r_run_V (k := 11) (As := []) (rest := []) hx hb hml hown hts hK hN hG (c_X1_allHate l y 11 isC_11 st25 _ hw) (isC.lt isC_11) (isC.e isC_11 y _) rfl rfl qM_X8_154 qI_X1_allHate qS_X1_allHate qN_X1 qC_X1_allHate hd_X1_allHate ⟨Nat.le_of_ble_eq_true rfl, Nat.le_of_ble_eq_true rfl⟩ hl.1 rfl (Nat.le_of_ble_eq_true rfl) dX8_mean_33) hG (fun r33 st33 H locs hw hG => ?_)
    refine lv_i2l (v := (r33).toInt64) hx hb dX8_mean_36 rfl ?_
    refine lv_iconst (v := 1) hx hb dX8_mean_37 (by decide) ?_
    refine lv_iload_n hx hb dX8_mean_38 rfl (lv_at hl 0 rfl) ?_
    refine lv_iload_n hx hb dX8_mean_39 rfl (lv_at hl 0 rfl) ?_
    refine lv_iconst (v := 1) hx hb dX8_mean_40 (by decide) ?_
    refine lv_isub hx hb dX8_mean_41 ?_
    refine lv_imul hx hb dX8_mean_42 ?_
    refine lv_iconst (v := 2) hx hb dX8_mean_43 (by decide) ?_
    refine lv_idiv hx hb dX8_mean_44 (by decide) ?_
    refine va_mmax hx hb (hml.trans hl.1.symm) hown (hts _ qM_X8_338) (hts _ qT_Lib_Math_max_name) (hts _ qN_J9) (hts _ qC_Lib_Math_max_name) (Nat.le_of_ble_eq_true rfl) (Nat.le_of_ble_eq_true rfl) (Nat.zero_le _) (Nat.zero_le _) dX8_mean_45 ?_
    refine lv_i2l (v := ((if 1 < ((r25 * (r25 - 1)) / 2) then ((r25 * (r25 - 1)) / 2) else 1)).toInt64) hx hb dX8_mean_48 rfl ?_
    refine lv_iload_n hx hb dX8_mean_49 rfl (lv_at hl 3 rfl) ?_
    refine r_kl (r_run_S (As := [.long ((r33).toInt64), .long (((if 1 < ((r25 * (r25 - 1)) / 2) then ((r25 * (r25 - 1)) / 2) else 1)).toInt64), .int x1]) (rest := []) hx hb hml hown hts hK hN hG (c_X0_part l y ((r33).toInt64) (((if 1 < ((r25 * (r25 - 1)) / 2) then ((r25 * (r25 - 1)) / 2) else 1)).toInt64) x1 st33 _ hw) qM_X8_293 qT_X0_part qN_X0 qC_X0_part hd_X0_part ⟨Nat.le_of_ble_eq_true rfl, Nat.le_of_ble_eq_true rfl⟩ hl.1 rfl (Nat.le_of_ble_eq_true rfl) dX8_mean_50) hG (fun r50 st50 H locs hw hG => ?_)
    exact r_lret hx hb hr hlk hK hG hw dX8_mean_53
  · replace hw := hw.2 hc
    refine lv_ldc2 (v := 4000000000000000000) hx hb hown (hts _ qK_X8_281) dX8_mean_10 ?_
    refine lv_aload_n hx hb dX8_mean_13 rfl (lv_at hl 1 rfl) ?_
    refine lv_iload_n hx hb dX8_mean_14 rfl (lv_at hl 0 rfl) ?_
    refine r_ki (r_run_V (k := 0) (As := [.int r2]) (rest := [.long 4000000000000000000]) hx hb hml hown hts hK hN hG (c_X8_refused l y r2 st2 _ hw) (by decide) rfl rfl rfl qM_X8_74 qI_X8_refused qS_X8_refused qN_X8 qC_X8_refused hd_X8_refused ⟨Nat.le_of_ble_eq_true rfl, Nat.le_of_ble_eq_true rfl⟩ hl.1 rfl (Nat.le_of_ble_eq_true rfl) dX8_mean_15) hG (fun r15 st15 H locs hw hG => ?_)
    refine lv_i2l (v := (r15).toInt64) hx hb dX8_mean_18 rfl ?_
    refine lv_lsub hx hb dX8_mean_19 ?_
    exact r_lret hx hb hr hlk hK hG hw dX8_mean_20
