set_option maxRecDepth 100000 in
set_option maxHeartbeats 4000000 in
theorem z_X9_letter_b35 {p : Program} {e : Env} {s : State} {m : MethodId} {args : Array Value} {below : List Frame} {meth : Method} {c : Code} (l : Launch) (y : Sy) (x1 : Int32) (x2 : Int32) (C : Sd p s m args meth c cX9_letter 4 RX9 (some .int) y)  (K : Int32 → St → Prop)  (v3 : Int32) (st : St) {H : Heap} {locs : List Loc} {ls : Array Slot} (hG : gH 17 enM y st s H locs) (hl : lv_has ls 4 [(0, .ref (ad y 0)), (1, .int x1), (2, .int x2), (3, .int v3)]) (hw : w_X9_letter_b35 x1 x2  K v3 st) : W p l e (rmm 1 22) s m args below meth c H locs 0 0 (MQ below (va_Qi K (gB 17 enM y) (gA 17 y)) args s 0 0 (gA 17 y)) (F0 m 35 ls []) := by
  obtain ⟨hx, hb, hml, hown, hts, hr, hlk, hK, hN⟩ := id C
  unfold w_X9_letter_b35 at hw
  refine lv_iload_n hx hb dX9_letter_35 rfl (lv_at hl 3 rfl) ?_
  refine lv_if_eq (tgt := 45) hx hb dX9_letter_36 (by decide) (fun hc => ?_) (fun hc => ?_)
  · replace hw := hw.1 hc
    refine lv_aload_n hx hb dX9_letter_45 rfl (lv_at hl 0 rfl) ?_
    refine lv_iconst (v := 0) hx hb dX9_letter_46 (by decide) ?_
    refine r_put (C := RX9) (T := TX9) (Nf := 31) hx hb hts hown hK hG (by decide) rfl rfl inX9 tyX9_ok nmX9 23 (by decide) qF_X9_151 rfl 0 rfl rfl rfl (Nat.le_of_ble_eq_true rfl) dX9_letter_47 (fun H locs hG => ?_)
    refine lv_aload_n hx hb dX9_letter_50 rfl (lv_at hl 0 rfl) ?_
    refine lv_iload_n hx hb dX9_letter_51 rfl (lv_at hl 1 rfl) ?_
    refine lv_iload_n hx hb dX9_letter_52 rfl (lv_at hl 2 rfl) ?_
    refine r_kv (r_run_V (k := 0) (As := [.int x1, .int x2]) (rest := []) hx hb hml hown hts hK hN hG (c_X9_addsLetter l y x1 x2 (u2 st 0 23 0) _ hw) (by decide) rfl rfl rfl qM_X9_111 qI_X9_addsLetter qS_X9_addsLetter qN_X9 qC_X9_addsLetter hd_X9_addsLetter ⟨Nat.le_of_ble_eq_true rfl, Nat.le_of_ble_eq_true rfl⟩ hl.1 rfl (Nat.le_of_ble_eq_true rfl) dX9_letter_53) hG (fun st53 H locs hw hG => ?_)
    refine lv_aload_n hx hb dX9_letter_56 rfl (lv_at hl 0 rfl) ?_
    refine r_get (C := RX9) (T := TX9) (Nf := 31) hx hb hts hown hK hG (by decide) rfl rfl inX9 9 (by decide) qF_X9_58 rfl dX9_letter_57 ?_
    refine lv_iconst (v := 1) hx hb dX9_letter_60 (by decide) ?_
    refine lv_isub hx hb dX9_letter_61 ?_
    exact r_iret hx hb hr hlk hK hG rfl hw dX9_letter_62
  · replace hw := hw.2 hc
    refine lv_aload_n hx hb dX9_letter_39 rfl (lv_at hl 0 rfl) ?_
    refine lv_iload_n hx hb dX9_letter_40 rfl (lv_at hl 3 rfl) ?_
    refine r_ki (r_run_V (k := 0) (As := [.int v3]) (rest := []) hx hb hml hown hts hK hN hG (c_X9_no l y v3 st _ hw) (by decide) rfl rfl rfl qM_X9_79 qI_X9_no qS_X9_no qN_X9 qC_X9_no hd_X9_no ⟨Nat.le_of_ble_eq_true rfl, Nat.le_of_ble_eq_true rfl⟩ hl.1 rfl (Nat.le_of_ble_eq_true rfl) dX9_letter_41) hG (fun r41 st41 H locs hw hG => ?_)
    exact r_iret hx hb hr hlk hK hG rfl hw dX9_letter_44
set_option maxRecDepth 100000 in
set_option maxHeartbeats 4000000 in
theorem z_X9_letter_b18 {p : Program} {e : Env} {s : State} {m : MethodId} {args : Array Value} {below : List Frame} {meth : Method} {c : Code} (l : Launch) (y : Sy) (x1 : Int32) (x2 : Int32) (C : Sd p s m args meth c cX9_letter 4 RX9 (some .int) y)  (K : Int32 → St → Prop)  (s0 : Int32) (st : St) {H : Heap} {locs : List Loc} {ls : Array Slot} (hG : gH 17 enM y st s H locs) (hl : lv_has ls 4 [(0, .ref (ad y 0)), (1, .int x1), (2, .int x2)]) (hw : w_X9_letter_b18 x1 x2  K s0 st) : W p l e (rmm 1 22) s m args below meth c H locs 0 0 (MQ below (va_Qi K (gB 17 enM y) (gA 17 y)) args s 0 0 (gA 17 y)) (F0 m 18 ls [.int s0]) := by
  obtain ⟨hx, hb, hml, hown, hts, hr, hlk, hK, hN⟩ := id C
  unfold w_X9_letter_b18 at hw
  refine lv_istore_n (lv' := [(3, .int s0), (0, .ref (ad y 0)), (1, .int x1), (2, .int x2)]) hx hb dX9_letter_18 rfl hl (Nat.le_of_ble_eq_true rfl) rfl (fun ls hl => ?_)
  refine lv_iload_n hx hb dX9_letter_19 rfl (lv_at hl 0 rfl) ?_
  refine lv_if_ne (tgt := 35) hx hb dX9_letter_20 (by decide) (fun hc => ?_) (fun hc => ?_)
  · replace hw := hw.1 hc
    exact z_X9_letter_b35 l y x1 x2 C  K  s0 st hG (lv_sub hl [1, 2, 3, 0] rfl) hw
  · replace hw := hw.2 hc
    refine lv_aload_n hx hb dX9_letter_23 rfl (lv_at hl 1 rfl) ?_
    refine r_get (C := RX9) (T := TX9) (Nf := 31) hx hb hts hown hK hG (by decide) rfl rfl inX9 9 (by decide) qF_X9_58 rfl dX9_letter_24 ?_
    refine lv_bipush (v := 6) hx hb dX9_letter_27 (by decide) ?_
    refine lv_icmp_ne (tgt := 35) hx hb dX9_letter_29 (by decide) (fun hc => ?_) (fun hc => ?_)
    · replace hw := hw.1 hc
      exact z_X9_letter_b35 l y x1 x2 C  K  s0 st hG (lv_sub hl [1, 2, 3, 0] rfl) hw
    · replace hw := hw.2 hc
      refine lv_bipush (v := (-6)) hx hb dX9_letter_32 (by decide) ?_
      refine lv_istore_n (lv' := [(3, .int (-6)), (0, .ref (ad y 0)), (1, .int x1), (2, .int x2)]) hx hb dX9_letter_34 rfl hl (Nat.le_of_ble_eq_true rfl) rfl (fun ls hl => ?_)
      exact z_X9_letter_b35 l y x1 x2 C  K  (-6) st hG (lv_sub hl [1, 2, 3, 0] rfl) hw
theorem hd_X9_letter : yX9_letter.cls ≠ "java/lang/invoke/MethodHandle" ∧ yX9_letter.cls ≠ "java/lang/invoke/VarHandle" ∧ (parseMethodDescriptor yX9_letter.desc).map (fun d => d.parameters.length) = some 2 := by decide +kernel
set_option maxRecDepth 100000 in
set_option maxHeartbeats 4000000 in
theorem c_X9_letter (l : Launch) (y : Sy) (x1 : Int32) (x2 : Int32) (st : St) (K : Int32 → St → Prop) (hw : w_X9_letter x1 x2 st K) : Ci 17 enM l yX9_letter cX9_letter 4 (some .int) 1 22 y [.ref (ad y 0), .int x1, .int x2] st K := by
  refine ent (by decide) (Nat.le_of_ble_eq_true rfl) ?_
  intro p e s m below meth c C hG ls hl
  have hl : lv_has ls 4 [(0, .ref (ad y 0)), (1, .int x1), (2, .int x2)] := hl
  generalize ([.ref (ad y 0), .int x1, .int x2] : List Value).toArray = args at C ⊢
  have C : Sd p s m args meth c cX9_letter 4 RX9 (some .int) y := C
  obtain ⟨hx, hb, hml, hown, hts, hr, hlk, hK, hN⟩ := id C
  generalize s.heap = H at hG ⊢
  generalize ([] : List Loc) = locs at hG ⊢
  unfold w_X9_letter at hw
  refine lv_iload_n hx hb dX9_letter_0 rfl (lv_at hl 1 rfl) ?_
  refine r_ki (r_run_S (As := [.int x1]) (rest := []) hx hb hml hown hts hK hN hG (c_X9_isTown l y x1 st _ hw) qM_X9_104 qT_X9_isTown qN_X9 qC_X9_isTown hd_X9_isTown ⟨Nat.le_of_ble_eq_true rfl, Nat.le_of_ble_eq_true rfl⟩ hl.1 rfl (Nat.le_of_ble_eq_true rfl) dX9_letter_1) hG (fun r1 st1 H locs hw hG => ?_)
  refine lv_if_ne (tgt := 11) hx hb dX9_letter_4 (by decide) (fun hc => ?_) (fun hc => ?_)
  · replace hw := hw.1 hc
    refine lv_iload_n hx hb dX9_letter_11 rfl (lv_at hl 2 rfl) ?_
    refine lv_iconst (v := 0) hx hb dX9_letter_12 (by decide) ?_
    refine lv_bipush (v := 99) hx hb dX9_letter_13 (by decide) ?_
    refine r_ki (r_run_S (As := [.int x2, .int 0, .int 99]) (rest := []) hx hb hml hown hts hK hN hG (c_X9_bound l y x2 0 99 st1 _ hw) qM_X9_72 qT_X9_bound qN_X9 qC_X9_bound hd_X9_bound ⟨Nat.le_of_ble_eq_true rfl, Nat.le_of_ble_eq_true rfl⟩ hl.1 rfl (Nat.le_of_ble_eq_true rfl) dX9_letter_15) hG (fun r15 st15 H locs hw hG => ?_)
    exact z_X9_letter_b18 l y x1 x2 C  K  r15 st15 hG (lv_sub hl [0, 1, 2] rfl) hw
  · replace hw := hw.2 hc
    refine lv_iconst (v := (-1)) hx hb dX9_letter_7 (by decide) ?_
    refine lv_goto (tgt := 18) hx hb dX9_letter_8 (by decide) ?_
    exact z_X9_letter_b18 l y x1 x2 C  K  (-1) st1 hG (lv_sub hl [0, 1, 2] rfl) hw
set_option maxRecDepth 100000 in
set_option maxHeartbeats 4000000 in
theorem z_X9_hates_b20 {p : Program} {e : Env} {s : State} {m : MethodId} {args : Array Value} {below : List Frame} {meth : Method} {c : Code} (l : Launch) (y : Sy) (x1 : Int32) (x2 : Int32) (x3 : Int32) (C : Sd p s m args meth c cX9_hates 6 RX9 (some .int) y)  (K : Int32 → St → Prop)  (s0 : Int32) (st : St) {H : Heap} {locs : List Loc} {ls : Array Slot} (hG : gH 17 enM y st s H locs) (hl : lv_has ls 6 [(0, .ref (ad y 0)), (1, .int x1), (2, .int x2), (3, .int x3)]) (hw : w_X9_hates_b20 x1 x2 x3  K s0 st) : W p l e (rmm 3 65) s m args below meth c H locs 0 0 (MQ below (va_Qi K (gB 17 enM y) (gA 17 y)) args s 0 0 (gA 17 y)) (F0 m 20 ls [.int s0]) := by
  obtain ⟨hx, hb, hml, hown, hts, hr, hlk, hK, hN⟩ := id C
  unfold w_X9_hates_b20 at hw
  refine lv_istore (lv' := [(4, .int s0), (0, .ref (ad y 0)), (1, .int x1), (2, .int x2), (3, .int x3)]) hx hb dX9_hates_20 hl (Nat.le_of_ble_eq_true rfl) rfl (fun ls hl => ?_)
  refine lv_iload hx hb dX9_hates_22 (lv_at hl 0 rfl) ?_
  refine lv_if_eq (tgt := 34) hx hb dX9_hates_24 (by decide) (fun hc => ?_) (fun hc => ?_)
  · replace hw := hw.1 hc
    refine lv_aload_n hx hb dX9_hates_34 rfl (lv_at hl 1 rfl) ?_
    refine r_kv (r_run_V (k := 0) (As := []) (rest := []) hx hb hml hown hts hK hN hG (c_X9_keepsBack l y  st _ hw) (by decide) rfl rfl rfl qM_X9_208 qI_X9_keepsBack qS_X9_keepsBack qN_X9 qC_X9_keepsBack hd_X9_keepsBack ⟨Nat.le_of_ble_eq_true rfl, Nat.le_of_ble_eq_true rfl⟩ hl.1 rfl (Nat.le_of_ble_eq_true rfl) dX9_hates_35) hG (fun st35 H locs hw hG => ?_)
    refine lv_aload_n hx hb dX9_hates_38 rfl (lv_at hl 1 rfl) ?_
    refine lv_iload_n hx hb dX9_hates_39 rfl (lv_at hl 2 rfl) ?_
    refine lv_iload_n hx hb dX9_hates_40 rfl (lv_at hl 3 rfl) ?_
    refine r_ki (r_run_V (k := 0) (As := [.int x1, .int x2]) (rest := []) hx hb hml hown hts hK hN hG (c_X9_hateOf l y x1 x2 st35 _ hw) (by decide) rfl rfl rfl qM_X9_180 qI_X9_hateOf qS_X9_hateOf qN_X9 qC_X9_hateOf hd_X9_hateOf ⟨Nat.le_of_ble_eq_true rfl, Nat.le_of_ble_eq_true rfl⟩ hl.1 rfl (Nat.le_of_ble_eq_true rfl) dX9_hates_41) hG (fun r41 st41 H locs hw hG => ?_)
    refine lv_istore (lv' := [(5, .int r41), (4, .int s0), (0, .ref (ad y 0)), (1, .int x1), (2, .int x2), (3, .int x3)]) hx hb dX9_hates_44 hl (Nat.le_of_ble_eq_true rfl) rfl (fun ls hl => ?_)
    refine lv_aload_n hx hb dX9_hates_46 rfl (lv_at hl 2 rfl) ?_
    refine lv_iload_n hx hb dX9_hates_47 rfl (lv_at hl 3 rfl) ?_
    refine lv_iload_n hx hb dX9_hates_48 rfl (lv_at hl 4 rfl) ?_
    refine lv_iload_n hx hb dX9_hates_49 rfl (lv_at hl 5 rfl) ?_
    refine r_kv (r_run_V (k := 0) (As := [.int x1, .int x2, .int x3]) (rest := []) hx hb hml hown hts hK hN hG (c_X9_sets l y x1 x2 x3 st41 _ hw) (by decide) rfl rfl rfl qM_X9_128 qI_X9_sets qS_X9_sets qN_X9 qC_X9_sets hd_X9_sets ⟨Nat.le_of_ble_eq_true rfl, Nat.le_of_ble_eq_true rfl⟩ hl.1 rfl (Nat.le_of_ble_eq_true rfl) dX9_hates_50) hG (fun st50 H locs hw hG => ?_)
    refine lv_iload hx hb dX9_hates_53 (lv_at hl 0 rfl) ?_
    exact r_iret hx hb hr hlk hK hG rfl hw dX9_hates_55
  · replace hw := hw.2 hc
    refine lv_aload_n hx hb dX9_hates_27 rfl (lv_at hl 1 rfl) ?_
    refine lv_iload hx hb dX9_hates_28 (lv_at hl 0 rfl) ?_
    refine r_ki (r_run_V (k := 0) (As := [.int s0]) (rest := []) hx hb hml hown hts hK hN hG (c_X9_no l y s0 st _ hw) (by decide) rfl rfl rfl qM_X9_79 qI_X9_no qS_X9_no qN_X9 qC_X9_no hd_X9_no ⟨Nat.le_of_ble_eq_true rfl, Nat.le_of_ble_eq_true rfl⟩ hl.1 rfl (Nat.le_of_ble_eq_true rfl) dX9_hates_30) hG (fun r30 st30 H locs hw hG => ?_)
    exact r_iret hx hb hr hlk hK hG rfl hw dX9_hates_33
theorem hd_X9_hates : yX9_hates.cls ≠ "java/lang/invoke/MethodHandle" ∧ yX9_hates.cls ≠ "java/lang/invoke/VarHandle" ∧ (parseMethodDescriptor yX9_hates.desc).map (fun d => d.parameters.length) = some 3 := by decide +kernel
set_option maxRecDepth 100000 in
set_option maxHeartbeats 4000000 in
theorem c_X9_hates (l : Launch) (y : Sy) (x1 : Int32) (x2 : Int32) (x3 : Int32) (st : St) (K : Int32 → St → Prop) (hw : w_X9_hates x1 x2 x3 st K) : Ci 17 enM l yX9_hates cX9_hates 6 (some .int) 3 65 y [.ref (ad y 0), .int x1, .int x2, .int x3] st K := by
  refine ent (by decide) (Nat.le_of_ble_eq_true rfl) ?_
  intro p e s m below meth c C hG ls hl
  have hl : lv_has ls 6 [(0, .ref (ad y 0)), (1, .int x1), (2, .int x2), (3, .int x3)] := hl
  generalize ([.ref (ad y 0), .int x1, .int x2, .int x3] : List Value).toArray = args at C ⊢
  have C : Sd p s m args meth c cX9_hates 6 RX9 (some .int) y := C
  obtain ⟨hx, hb, hml, hown, hts, hr, hlk, hK, hN⟩ := id C
  generalize s.heap = H at hG ⊢
  generalize ([] : List Loc) = locs at hG ⊢
  unfold w_X9_hates at hw
  refine lv_aload_n hx hb dX9_hates_0 rfl (lv_at hl 0 rfl) ?_
  refine lv_iload_n hx hb dX9_hates_1 rfl (lv_at hl 1 rfl) ?_
  refine lv_iload_n hx hb dX9_hates_2 rfl (lv_at hl 2 rfl) ?_
  refine r_ki (r_run_V (k := 0) (As := [.int x1, .int x2]) (rest := []) hx hb hml hown hts hK hN hG (c_X9_areTwo l y x1 x2 st _ hw) (by decide) rfl rfl rfl qM_X9_125 qI_X9_areTwo qS_X9_areTwo qN_X9 qC_X9_areTwo hd_X9_areTwo ⟨Nat.le_of_ble_eq_true rfl, Nat.le_of_ble_eq_true rfl⟩ hl.1 rfl (Nat.le_of_ble_eq_true rfl) dX9_hates_3) hG (fun r3 st3 H locs hw hG => ?_)
  refine lv_if_ne (tgt := 13) hx hb dX9_hates_6 (by decide) (fun hc => ?_) (fun hc => ?_)
  · replace hw := hw.1 hc
    refine lv_iload_n hx hb dX9_hates_13 rfl (lv_at hl 3 rfl) ?_
    refine lv_iconst (v := 0) hx hb dX9_hates_14 (by decide) ?_
    refine lv_bipush (v := 99) hx hb dX9_hates_15 (by decide) ?_
    refine r_ki (r_run_S (As := [.int x3, .int 0, .int 99]) (rest := []) hx hb hml hown hts hK hN hG (c_X9_bound l y x3 0 99 st3 _ hw) qM_X9_72 qT_X9_bound qN_X9 qC_X9_bound hd_X9_bound ⟨Nat.le_of_ble_eq_true rfl, Nat.le_of_ble_eq_true rfl⟩ hl.1 rfl (Nat.le_of_ble_eq_true rfl) dX9_hates_17) hG (fun r17 st17 H locs hw hG => ?_)
    exact z_X9_hates_b20 l y x1 x2 x3 C  K  r17 st17 hG (lv_sub hl [0, 1, 2, 3] rfl) hw
  · replace hw := hw.2 hc
    refine lv_iconst (v := (-1)) hx hb dX9_hates_9 (by decide) ?_
    refine lv_goto (tgt := 20) hx hb dX9_hates_10 (by decide) ?_
    exact z_X9_hates_b20 l y x1 x2 x3 C  K  (-1) st3 hG (lv_sub hl [0, 1, 2, 3] rfl) hw
set_option maxRecDepth 100000 in
set_option maxHeartbeats 4000000 in
theorem z_X9_goes_b15 {p : Program} {e : Env} {s : State} {m : MethodId} {args : Array Value} {below : List Frame} {meth : Method} {c : Code} (l : Launch) (y : Sy) (x1 : Int32) (x2 : Int32) (C : Sd p s m args meth c cX9_goes 4 RX9 (some .int) y)  (K : Int32 → St → Prop)   (st : St) {H : Heap} {locs : List Loc} {ls : Array Slot} (hG : gH 17 enM y st s H locs) (hl : lv_has ls 4 [(0, .ref (ad y 0))]) (hw : w_X9_goes_b15 x1 x2  K  st) : W p l e (rmm 3 65) s m args below meth c H locs 0 0 (MQ below (va_Qi K (gB 17 enM y) (gA 17 y)) args s 0 0 (gA 17 y)) (F0 m 15 ls []) := by
  obtain ⟨hx, hb, hml, hown, hts, hr, hlk, hK, hN⟩ := id C
  unfold w_X9_goes_b15 at hw
  refine lv_aload_n hx hb dX9_goes_15 rfl (lv_at hl 0 rfl) ?_
  refine lv_iconst (v := (-1)) hx hb dX9_goes_16 (by decide) ?_
  refine r_ki (r_run_V (k := 0) (As := [.int (-1)]) (rest := []) hx hb hml hown hts hK hN hG (c_X9_no l y (-1) st _ hw) (by decide) rfl rfl rfl qM_X9_79 qI_X9_no qS_X9_no qN_X9 qC_X9_no hd_X9_no ⟨Nat.le_of_ble_eq_true rfl, Nat.le_of_ble_eq_true rfl⟩ hl.1 rfl (Nat.le_of_ble_eq_true rfl) dX9_goes_17) hG (fun r17 st17 H locs hw hG => ?_)
  exact r_iret hx hb hr hlk hK hG rfl hw dX9_goes_20
theorem hd_X9_goes : yX9_goes.cls ≠ "java/lang/invoke/MethodHandle" ∧ yX9_goes.cls ≠ "java/lang/invoke/VarHandle" ∧ (parseMethodDescriptor yX9_goes.desc).map (fun d => d.parameters.length) = some 2 := by decide +kernel
set_option maxRecDepth 100000 in
set_option maxHeartbeats 4000000 in
theorem c_X9_goes (l : Launch) (y : Sy) (x1 : Int32) (x2 : Int32) (st : St) (K : Int32 → St → Prop) (hw : w_X9_goes x1 x2 st K) : Ci 17 enM l yX9_goes cX9_goes 4 (some .int) 3 65 y [.ref (ad y 0), .int x1, .int x2] st K := by
  refine ent (by decide) (Nat.le_of_ble_eq_true rfl) ?_
  intro p e s m below meth c C hG ls hl
  have hl : lv_has ls 4 [(0, .ref (ad y 0)), (1, .int x1), (2, .int x2)] := hl
  generalize ([.ref (ad y 0), .int x1, .int x2] : List Value).toArray = args at C ⊢
  have C : Sd p s m args meth c cX9_goes 4 RX9 (some .int) y := C
  obtain ⟨hx, hb, hml, hown, hts, hr, hlk, hK, hN⟩ := id C
  generalize s.heap = H at hG ⊢
  generalize ([] : List Loc) = locs at hG ⊢
  unfold w_X9_goes at hw
  refine lv_aload_n hx hb dX9_goes_0 rfl (lv_at hl 0 rfl) ?_
  refine lv_iload_n hx hb dX9_goes_1 rfl (lv_at hl 1 rfl) ?_
  refine r_ki (r_run_V (k := 0) (As := [.int x1]) (rest := []) hx hb hml hown hts hK hN hG (c_X9_isKeeper l y x1 st _ hw) (by decide) rfl rfl rfl qM_X9_68 qI_X9_isKeeper qS_X9_isKeeper qN_X9 qC_X9_isKeeper hd_X9_isKeeper ⟨Nat.le_of_ble_eq_true rfl, Nat.le_of_ble_eq_true rfl⟩ hl.1 rfl (Nat.le_of_ble_eq_true rfl) dX9_goes_2) hG (fun r2 st2 H locs hw hG => ?_)
  refine lv_if_eq (tgt := 15) hx hb dX9_goes_5 (by decide) (fun hc => ?_) (fun hc => ?_)
  · replace hw := hw.1 hc
    exact z_X9_goes_b15 l y x1 x2 C  K  st2 hG (lv_sub hl [0] rfl) hw
  · replace hw := hw.2 hc
    refine lv_iload_n hx hb dX9_goes_8 rfl (lv_at hl 2 rfl) ?_
    refine r_ki (r_run_S (As := [.int x2]) (rest := []) hx hb hml hown hts hK hN hG (c_X9_isTown l y x2 st2 _ hw) qM_X9_104 qT_X9_isTown qN_X9 qC_X9_isTown hd_X9_isTown ⟨Nat.le_of_ble_eq_true rfl, Nat.le_of_ble_eq_true rfl⟩ hl.1 rfl (Nat.le_of_ble_eq_true rfl) dX9_goes_9) hG (fun r9 st9 H locs hw hG => ?_)
    refine lv_if_ne (tgt := 21) hx hb dX9_goes_12 (by decide) (fun hc => ?_) (fun hc => ?_)
    · replace hw := hw.1 hc
      refine lv_aload_n hx hb dX9_goes_21 rfl (lv_at hl 0 rfl) ?_
      refine r_kv (r_run_V (k := 0) (As := []) (rest := []) hx hb hml hown hts hK hN hG (c_X9_keepsBack l y  st9 _ hw) (by decide) rfl rfl rfl qM_X9_208 qI_X9_keepsBack qS_X9_keepsBack qN_X9 qC_X9_keepsBack hd_X9_keepsBack ⟨Nat.le_of_ble_eq_true rfl, Nat.le_of_ble_eq_true rfl⟩ hl.1 rfl (Nat.le_of_ble_eq_true rfl) dX9_goes_22) hG (fun st22 H locs hw hG => ?_)
      refine lv_aload_n hx hb dX9_goes_25 rfl (lv_at hl 0 rfl) ?_
      refine r_get (C := RX9) (T := TX9) (Nf := 31) hx hb hts hown hK hG (by decide) rfl rfl inX9 3 (by decide) qF_X9_19 rfl dX9_goes_26 ?_
      refine lv_iload_n hx hb dX9_goes_29 rfl (lv_at hl 1 rfl) ?_
      obtain ⟨hi, hw⟩ := hw
      refine r_iald hx hb hK hG (isB_4).1 ((isB_4).2 y _) hi dX9_goes_30 ?_
      refine lv_istore_n (lv' := [(3, .int (st22 4 (x1).toNatClampNeg)), (0, .ref (ad y 0)), (1, .int x1), (2, .int x2)]) hx hb dX9_goes_31 rfl hl (Nat.le_of_ble_eq_true rfl) rfl (fun ls hl => ?_)
      refine lv_aload_n hx hb dX9_goes_32 rfl (lv_at hl 1 rfl) ?_
      refine r_get (C := RX9) (T := TX9) (Nf := 31) hx hb hts hown hK hG (by decide) rfl rfl inX9 3 (by decide) qF_X9_19 rfl dX9_goes_33 ?_
      refine lv_iload_n hx hb dX9_goes_36 rfl (lv_at hl 2 rfl) ?_
      refine lv_iload_n hx hb dX9_goes_37 rfl (lv_at hl 3 rfl) ?_
      obtain ⟨hi, hw⟩ := hw
      refine r_iast hx hb hK hG (isB_4).1 (fun f => (isB_4).2 y f) hi dX9_goes_38 (fun H locs hG => ?_)
      refine lv_iload_n hx hb dX9_goes_39 rfl (lv_at hl 0 rfl) ?_
      exact r_iret hx hb hr hlk hK hG rfl hw dX9_goes_40
    · replace hw := hw.2 hc
      exact z_X9_goes_b15 l y x1 x2 C  K  st9 hG (lv_sub hl [0] rfl) hw
theorem hd_X9_seals : yX9_seals.cls ≠ "java/lang/invoke/MethodHandle" ∧ yX9_seals.cls ≠ "java/lang/invoke/VarHandle" ∧ (parseMethodDescriptor yX9_seals.desc).map (fun d => d.parameters.length) = some 1 := by decide +kernel
set_option maxRecDepth 100000 in
set_option maxHeartbeats 4000000 in
theorem c_X9_seals (l : Launch) (y : Sy) (x1 : Int32) (st : St) (K : Int32 → St → Prop) (hw : w_X9_seals x1 st K) : Ci 17 enM l yX9_seals cX9_seals 2 (some .int) 3 65 y [.ref (ad y 0), .int x1] st K := by
  refine ent (by decide) (Nat.le_of_ble_eq_true rfl) ?_
  intro p e s m below meth c C hG ls hl
  have hl : lv_has ls 2 [(0, .ref (ad y 0)), (1, .int x1)] := hl
  generalize ([.ref (ad y 0), .int x1] : List Value).toArray = args at C ⊢
  have C : Sd p s m args meth c cX9_seals 2 RX9 (some .int) y := C
  obtain ⟨hx, hb, hml, hown, hts, hr, hlk, hK, hN⟩ := id C
  generalize s.heap = H at hG ⊢
  generalize ([] : List Loc) = locs at hG ⊢
  unfold w_X9_seals at hw
  refine lv_aload_n hx hb dX9_seals_0 rfl (lv_at hl 0 rfl) ?_
  refine lv_iload_n hx hb dX9_seals_1 rfl (lv_at hl 1 rfl) ?_
  refine r_ki (r_run_V (k := 0) (As := [.int x1]) (rest := []) hx hb hml hown hts hK hN hG (c_X9_isLetter l y x1 st _ hw) (by decide) rfl rfl rfl qM_X9_134 qI_X9_isLetter qS_X9_isLetter qN_X9 qC_X9_isLetter hd_X9_isLetter ⟨Nat.le_of_ble_eq_true rfl, Nat.le_of_ble_eq_true rfl⟩ hl.1 rfl (Nat.le_of_ble_eq_true rfl) dX9_seals_2) hG (fun r2 st2 H locs hw hG => ?_)
  refine lv_if_ne (tgt := 14) hx hb dX9_seals_5 (by decide) (fun hc => ?_) (fun hc => ?_)
  · replace hw := hw.1 hc
    refine lv_aload_n hx hb dX9_seals_14 rfl (lv_at hl 0 rfl) ?_
    refine r_kv (r_run_V (k := 0) (As := []) (rest := []) hx hb hml hown hts hK hN hG (c_X9_keepsBack l y  st2 _ hw) (by decide) rfl rfl rfl qM_X9_208 qI_X9_keepsBack qS_X9_keepsBack qN_X9 qC_X9_keepsBack hd_X9_keepsBack ⟨Nat.le_of_ble_eq_true rfl, Nat.le_of_ble_eq_true rfl⟩ hl.1 rfl (Nat.le_of_ble_eq_true rfl) dX9_seals_15) hG (fun st15 H locs hw hG => ?_)
    refine lv_aload_n hx hb dX9_seals_18 rfl (lv_at hl 0 rfl) ?_
    refine r_get (C := RX9) (T := TX9) (Nf := 31) hx hb hts hown hK hG (by decide) rfl rfl inX9 7 (by decide) qF_X9_31 rfl dX9_seals_19 ?_
    refine lv_iload_n hx hb dX9_seals_22 rfl (lv_at hl 1 rfl) ?_
    refine lv_iconst (v := 1) hx hb dX9_seals_23 (by decide) ?_
    refine lv_aload_n hx hb dX9_seals_24 rfl (lv_at hl 0 rfl) ?_
    refine r_get (C := RX9) (T := TX9) (Nf := 31) hx hb hts hown hK hG (by decide) rfl rfl inX9 7 (by decide) qF_X9_31 rfl dX9_seals_25 ?_
    refine lv_iload_n hx hb dX9_seals_28 rfl (lv_at hl 1 rfl) ?_
    obtain ⟨hi, hw⟩ := hw
    refine r_iald hx hb hK hG (isB_8).1 ((isB_8).2 y _) hi dX9_seals_29 ?_
    refine lv_isub hx hb dX9_seals_30 ?_
    obtain ⟨hi, hw⟩ := hw
    refine r_iast hx hb hK hG (isB_8).1 (fun f => (isB_8).2 y f) hi dX9_seals_31 (fun H locs hG => ?_)
    refine lv_aload_n hx hb dX9_seals_32 rfl (lv_at hl 0 rfl) ?_
    refine r_get (C := RX9) (T := TX9) (Nf := 31) hx hb hts hown hK hG (by decide) rfl rfl inX9 7 (by decide) qF_X9_31 rfl dX9_seals_33 ?_
    refine lv_iload_n hx hb dX9_seals_36 rfl (lv_at hl 1 rfl) ?_
    obtain ⟨hi, hw⟩ := hw
    refine r_iald hx hb hK hG (isB_8).1 ((isB_8).2 y _) hi dX9_seals_37 ?_
    exact r_iret hx hb hr hlk hK hG rfl hw dX9_seals_38
  · replace hw := hw.2 hc
    refine lv_aload_n hx hb dX9_seals_8 rfl (lv_at hl 0 rfl) ?_
    refine lv_iconst (v := (-1)) hx hb dX9_seals_9 (by decide) ?_
    refine r_ki (r_run_V (k := 0) (As := [.int (-1)]) (rest := []) hx hb hml hown hts hK hN hG (c_X9_no l y (-1) st2 _ hw) (by decide) rfl rfl rfl qM_X9_79 qI_X9_no qS_X9_no qN_X9 qC_X9_no hd_X9_no ⟨Nat.le_of_ble_eq_true rfl, Nat.le_of_ble_eq_true rfl⟩ hl.1 rfl (Nat.le_of_ble_eq_true rfl) dX9_seals_10) hG (fun r10 st10 H locs hw hG => ?_)
    exact r_iret hx hb hr hlk hK hG rfl hw dX9_seals_13
set_option maxRecDepth 100000 in
set_option maxHeartbeats 4000000 in
theorem z_X9_weeks_b27 {p : Program} {e : Env} {s : State} {m : MethodId} {args : Array Value} {below : List Frame} {meth : Method} {c : Code} (l : Launch) (y : Sy) (x1 : Int32) (C : Sd p s m args meth c cX9_weeks 3 RX9 (some .int) y)  (K : Int32 → St → Prop)  (v2 : Int32) (st : St) {H : Heap} {locs : List Loc} {ls : Array Slot} (hG : gH 17 enM y st s H locs) (hl : lv_has ls 3 [(0, .ref (ad y 0)), (1, .int x1), (2, .int v2)]) (hw : w_X9_weeks_b27 x1  K v2 st) : W p l e (rmm 5 115) s m args below meth c H locs 0 0 (MQ below (va_Qi K (gB 17 enM y) (gA 17 y)) args s 0 0 (gA 17 y)) (F0 m 27 ls []) := by
  obtain ⟨hx, hb, hml, hown, hts, hr, hlk, hK, hN⟩ := id C
  unfold w_X9_weeks_b27 at hw
  refine lv_iload_n hx hb dX9_weeks_27 rfl (lv_at hl 2 rfl) ?_
  refine lv_if_eq (tgt := 37) hx hb dX9_weeks_28 (by decide) (fun hc => ?_) (fun hc => ?_)
  · replace hw := hw.1 hc
    refine lv_aload_n hx hb dX9_weeks_37 rfl (lv_at hl 0 rfl) ?_
    refine r_kv (r_run_V (k := 0) (As := []) (rest := []) hx hb hml hown hts hK hN hG (c_X9_keepsBack l y  st _ hw) (by decide) rfl rfl rfl qM_X9_208 qI_X9_keepsBack qS_X9_keepsBack qN_X9 qC_X9_keepsBack hd_X9_keepsBack ⟨Nat.le_of_ble_eq_true rfl, Nat.le_of_ble_eq_true rfl⟩ hl.1 rfl (Nat.le_of_ble_eq_true rfl) dX9_weeks_38) hG (fun st38 H locs hw hG => ?_)
    refine lv_aload_n hx hb dX9_weeks_41 rfl (lv_at hl 0 rfl) ?_
    refine lv_iload_n hx hb dX9_weeks_42 rfl (lv_at hl 1 rfl) ?_
    refine r_kv (r_run_V (k := 0) (As := [.int x1]) (rest := []) hx hb hml hown hts hK hN hG (c_X9_goesOn l y x1 st38 _ hw) (by decide) rfl rfl rfl qM_X9_118 qI_X9_goesOn qS_X9_goesOn qN_X9 qC_X9_goesOn hd_X9_goesOn ⟨Nat.le_of_ble_eq_true rfl, Nat.le_of_ble_eq_true rfl⟩ hl.1 rfl (Nat.le_of_ble_eq_true rfl) dX9_weeks_43) hG (fun st43 H locs hw hG => ?_)
    refine lv_aload_n hx hb dX9_weeks_46 rfl (lv_at hl 0 rfl) ?_
    refine r_ki (r_run_V (k := 0) (As := []) (rest := []) hx hb hml hown hts hK hN hG (c_X9_openOnes l y  st43 _ hw) (by decide) rfl rfl rfl qM_X9_211 qI_X9_openOnes qS_X9_openOnes qN_X9 qC_X9_openOnes hd_X9_openOnes ⟨Nat.le_of_ble_eq_true rfl, Nat.le_of_ble_eq_true rfl⟩ hl.1 rfl (Nat.le_of_ble_eq_true rfl) dX9_weeks_47) hG (fun r47 st47 H locs hw hG => ?_)
    refine r_ki (r_run_S (As := [.int r47]) (rest := []) hx hb hml hown hts hK hN hG (c_X9_bits l y r47 st47 _ hw) qM_X9_214 qT_X9_bits qN_X9 qC_X9_bits hd_X9_bits ⟨Nat.le_of_ble_eq_true rfl, Nat.le_of_ble_eq_true rfl⟩ hl.1 rfl (Nat.le_of_ble_eq_true rfl) dX9_weeks_50) hG (fun r50 st50 H locs hw hG => ?_)
    exact r_iret hx hb hr hlk hK hG rfl hw dX9_weeks_53
  · replace hw := hw.2 hc
    refine lv_aload_n hx hb dX9_weeks_31 rfl (lv_at hl 0 rfl) ?_
    refine lv_iload_n hx hb dX9_weeks_32 rfl (lv_at hl 2 rfl) ?_
    refine r_ki (r_run_V (k := 0) (As := [.int v2]) (rest := []) hx hb hml hown hts hK hN hG (c_X9_no l y v2 st _ hw) (by decide) rfl rfl rfl qM_X9_79 qI_X9_no qS_X9_no qN_X9 qC_X9_no hd_X9_no ⟨Nat.le_of_ble_eq_true rfl, Nat.le_of_ble_eq_true rfl⟩ hl.1 rfl (Nat.le_of_ble_eq_true rfl) dX9_weeks_33) hG (fun r33 st33 H locs hw hG => ?_)
    exact r_iret hx hb hr hlk hK hG rfl hw dX9_weeks_36
theorem hd_X9_weeks : yX9_weeks.cls ≠ "java/lang/invoke/MethodHandle" ∧ yX9_weeks.cls ≠ "java/lang/invoke/VarHandle" ∧ (parseMethodDescriptor yX9_weeks.desc).map (fun d => d.parameters.length) = some 1 := by decide +kernel
set_option maxRecDepth 100000 in
set_option maxHeartbeats 4000000 in
theorem c_X9_weeks (l : Launch) (y : Sy) (x1 : Int32) (st : St) (K : Int32 → St → Prop) (hw : w_X9_weeks x1 st K) : Ci 17 enM l yX9_weeks cX9_weeks 3 (some .int) 5 115 y [.ref (ad y 0), .int x1] st K := by
  refine ent (by decide) (Nat.le_of_ble_eq_true rfl) ?_
  intro p e s m below meth c C hG ls hl
  have hl : lv_has ls 3 [(0, .ref (ad y 0)), (1, .int x1)] := hl
  generalize ([.ref (ad y 0), .int x1] : List Value).toArray = args at C ⊢
  have C : Sd p s m args meth c cX9_weeks 3 RX9 (some .int) y := C
  obtain ⟨hx, hb, hml, hown, hts, hr, hlk, hK, hN⟩ := id C
  generalize s.heap = H at hG ⊢
  generalize ([] : List Loc) = locs at hG ⊢
  unfold w_X9_weeks at hw
  refine lv_iload_n hx hb dX9_weeks_0 rfl (lv_at hl 1 rfl) ?_
  refine lv_iconst (v := 1) hx hb dX9_weeks_1 (by decide) ?_
  refine lv_bipush (v := 60) hx hb dX9_weeks_2 (by decide) ?_
  refine r_ki (r_run_S (As := [.int x1, .int 1, .int 60]) (rest := []) hx hb hml hown hts hK hN hG (c_X9_bound l y x1 1 60 st _ hw) qM_X9_72 qT_X9_bound qN_X9 qC_X9_bound hd_X9_bound ⟨Nat.le_of_ble_eq_true rfl, Nat.le_of_ble_eq_true rfl⟩ hl.1 rfl (Nat.le_of_ble_eq_true rfl) dX9_weeks_4) hG (fun r4 st4 H locs hw hG => ?_)
  refine lv_istore_n (lv' := [(2, .int r4), (0, .ref (ad y 0)), (1, .int x1)]) hx hb dX9_weeks_7 rfl hl (Nat.le_of_ble_eq_true rfl) rfl (fun ls hl => ?_)
  refine lv_iload_n hx hb dX9_weeks_8 rfl (lv_at hl 0 rfl) ?_
  refine lv_if_ne (tgt := 27) hx hb dX9_weeks_9 (by decide) (fun hc => ?_) (fun hc => ?_)
  · replace hw := hw.1 hc
    exact z_X9_weeks_b27 l y x1 C  K  r4 st4 hG (lv_sub hl [1, 2, 0] rfl) hw
  · replace hw := hw.2 hc
    refine lv_aload_n hx hb dX9_weeks_12 rfl (lv_at hl 1 rfl) ?_
    refine r_get (C := RX9) (T := TX9) (Nf := 31) hx hb hts hown hK hG (by decide) rfl rfl inX9 10 (by decide) qF_X9_115 rfl dX9_weeks_13 ?_
    refine lv_iload_n hx hb dX9_weeks_16 rfl (lv_at hl 2 rfl) ?_
    refine lv_iadd hx hb dX9_weeks_17 ?_
    refine lv_sipush (v := 999) hx hb dX9_weeks_18 (by decide) ?_
    refine lv_icmp_le (tgt := 27) hx hb dX9_weeks_21 (by decide) (fun hc => ?_) (fun hc => ?_)
    · replace hw := hw.1 hc
      exact z_X9_weeks_b27 l y x1 C  K  r4 st4 hG (lv_sub hl [1, 2, 0] rfl) hw
    · replace hw := hw.2 hc
      refine lv_bipush (v := (-6)) hx hb dX9_weeks_24 (by decide) ?_
      refine lv_istore_n (lv' := [(2, .int (-6)), (0, .ref (ad y 0)), (1, .int x1)]) hx hb dX9_weeks_26 rfl hl (Nat.le_of_ble_eq_true rfl) rfl (fun ls hl => ?_)
      exact z_X9_weeks_b27 l y x1 C  K  (-6) st4 hG (lv_sub hl [1, 2, 0] rfl) hw
theorem hd_X9_notWeeks : yX9_notWeeks.cls ≠ "java/lang/invoke/MethodHandle" ∧ yX9_notWeeks.cls ≠ "java/lang/invoke/VarHandle" ∧ (parseMethodDescriptor yX9_notWeeks.desc).map (fun d => d.parameters.length) = some 1 := by decide +kernel
set_option maxRecDepth 100000 in
set_option maxHeartbeats 4000000 in
theorem c_X9_notWeeks (l : Launch) (y : Sy) (x0 : Int32) (st : St) (K : Int32 → St → Prop) (hw : w_X9_notWeeks x0 st K) : Ci 17 enM l yX9_notWeeks cX9_notWeeks 1 (some .int) 1 22 y [.int x0] st K := by
  refine ent (by decide) (Nat.le_of_ble_eq_true rfl) ?_
  intro p e s m below meth c C hG ls hl
  have hl : lv_has ls 1 [(0, .int x0)] := hl
  generalize ([.int x0] : List Value).toArray = args at C ⊢
  have C : Sd p s m args meth c cX9_notWeeks 1 RX9 (some .int) y := C
  obtain ⟨hx, hb, hml, hown, hts, hr, hlk, hK, hN⟩ := id C
  generalize s.heap = H at hG ⊢
  generalize ([] : List Loc) = locs at hG ⊢
  unfold w_X9_notWeeks at hw
  refine lv_iload_n hx hb dX9_notWeeks_0 rfl (lv_at hl 0 rfl) ?_
  refine lv_iconst (v := 0) hx hb dX9_notWeeks_1 (by decide) ?_
  refine lv_bipush (v := 60) hx hb dX9_notWeeks_2 (by decide) ?_
  refine r_ki (r_run_S (As := [.int x0, .int 0, .int 60]) (rest := []) hx hb hml hown hts hK hN hG (c_X9_bound l y x0 0 60 st _ hw) qM_X9_72 qT_X9_bound qN_X9 qC_X9_bound hd_X9_bound ⟨Nat.le_of_ble_eq_true rfl, Nat.le_of_ble_eq_true rfl⟩ hl.1 rfl (Nat.le_of_ble_eq_true rfl) dX9_notWeeks_4) hG (fun r4 st4 H locs hw hG => ?_)
  exact r_iret hx hb hr hlk hK hG rfl hw dX9_notWeeks_7
theorem hd_X9_hateIn : yX9_hateIn.cls ≠ "java/lang/invoke/MethodHandle" ∧ yX9_hateIn.cls ≠ "java/lang/invoke/VarHandle" ∧ (parseMethodDescriptor yX9_hateIn.desc).map (fun d => d.parameters.length) = some 3 := by decide +kernel
set_option maxRecDepth 100000 in
set_option maxHeartbeats 4000000 in
theorem c_X9_hateIn (l : Launch) (y : Sy) (x1 : Int32) (x2 : Int32) (x3 : Int32) (st : St) (K : Int32 → St → Prop) (hw : w_X9_hateIn x1 x2 x3 st K) : Ci 17 enM l yX9_hateIn cX9_hateIn 5 (some .int) 5 115 y [.ref (ad y 0), .int x1, .int x2, .int x3] st K := by
  refine ent (by decide) (Nat.le_of_ble_eq_true rfl) ?_
  intro p e s m below meth c C hG ls hl
  have hl : lv_has ls 5 [(0, .ref (ad y 0)), (1, .int x1), (2, .int x2), (3, .int x3)] := hl
  generalize ([.ref (ad y 0), .int x1, .int x2, .int x3] : List Value).toArray = args at C ⊢
  have C : Sd p s m args meth c cX9_hateIn 5 RX9 (some .int) y := C
  obtain ⟨hx, hb, hml, hown, hts, hr, hlk, hK, hN⟩ := id C
  generalize s.heap = H at hG ⊢
  generalize ([] : List Loc) = locs at hG ⊢
  unfold w_X9_hateIn at hw
  refine lv_aload_n hx hb dX9_hateIn_0 rfl (lv_at hl 0 rfl) ?_
  refine r_kv (r_run_V (k := 0) (As := []) (rest := []) hx hb hml hown hts hK hN hG (c_X9_thinks l y  st _ hw) (by decide) rfl rfl rfl qM_X9_217 qI_X9_thinks qS_X9_thinks qN_X9 qC_X9_thinks hd_X9_thinks ⟨Nat.le_of_ble_eq_true rfl, Nat.le_of_ble_eq_true rfl⟩ hl.1 rfl (Nat.le_of_ble_eq_true rfl) dX9_hateIn_1) hG (fun st1 H locs hw hG => ?_)
  refine lv_aload_n hx hb dX9_hateIn_4 rfl (lv_at hl 0 rfl) ?_
  refine lv_iload_n hx hb dX9_hateIn_5 rfl (lv_at hl 3 rfl) ?_
  refine r_kv (r_run_V (k := 0) (As := [.int x3]) (rest := []) hx hb hml hown hts hK hN hG (c_X9_goesOn l y x3 st1 _ hw) (by decide) rfl rfl rfl qM_X9_118 qI_X9_goesOn qS_X9_goesOn qN_X9 qC_X9_goesOn hd_X9_goesOn ⟨Nat.le_of_ble_eq_true rfl, Nat.le_of_ble_eq_true rfl⟩ hl.1 rfl (Nat.le_of_ble_eq_true rfl) dX9_hateIn_6) hG (fun st6 H locs hw hG => ?_)
  refine lv_aload_n hx hb dX9_hateIn_9 rfl (lv_at hl 0 rfl) ?_
  refine lv_iload_n hx hb dX9_hateIn_10 rfl (lv_at hl 1 rfl) ?_
  refine lv_iload_n hx hb dX9_hateIn_11 rfl (lv_at hl 2 rfl) ?_
  refine r_ki (r_run_V (k := 0) (As := [.int x1, .int x2]) (rest := []) hx hb hml hown hts hK hN hG (c_X9_hateOf l y x1 x2 st6 _ hw) (by decide) rfl rfl rfl qM_X9_180 qI_X9_hateOf qS_X9_hateOf qN_X9 qC_X9_hateOf hd_X9_hateOf ⟨Nat.le_of_ble_eq_true rfl, Nat.le_of_ble_eq_true rfl⟩ hl.1 rfl (Nat.le_of_ble_eq_true rfl) dX9_hateIn_12) hG (fun r12 st12 H locs hw hG => ?_)
  refine lv_istore (lv' := [(4, .int r12), (0, .ref (ad y 0)), (1, .int x1), (2, .int x2), (3, .int x3)]) hx hb dX9_hateIn_15 hl (Nat.le_of_ble_eq_true rfl) rfl (fun ls hl => ?_)
  refine lv_aload_n hx hb dX9_hateIn_17 rfl (lv_at hl 1 rfl) ?_
  refine r_kv (r_run_V (k := 0) (As := []) (rest := []) hx hb hml hown hts hK hN hG (c_X9_forgets l y  st12 _ hw) (by decide) rfl rfl rfl qM_X9_220 qI_X9_forgets qS_X9_forgets qN_X9 qC_X9_forgets hd_X9_forgets ⟨Nat.le_of_ble_eq_true rfl, Nat.le_of_ble_eq_true rfl⟩ hl.1 rfl (Nat.le_of_ble_eq_true rfl) dX9_hateIn_18) hG (fun st18 H locs hw hG => ?_)
  refine lv_iload hx hb dX9_hateIn_21 (lv_at hl 0 rfl) ?_
  exact r_iret hx hb hr hlk hK hG rfl hw dX9_hateIn_23
theorem hd_X9_openIn : yX9_openIn.cls ≠ "java/lang/invoke/MethodHandle" ∧ yX9_openIn.cls ≠ "java/lang/invoke/VarHandle" ∧ (parseMethodDescriptor yX9_openIn.desc).map (fun d => d.parameters.length) = some 1 := by decide +kernel
set_option maxRecDepth 100000 in
set_option maxHeartbeats 4000000 in
theorem c_X9_openIn (l : Launch) (y : Sy) (x1 : Int32) (st : St) (K : Int32 → St → Prop) (hw : w_X9_openIn x1 st K) : Ci 17 enM l yX9_openIn cX9_openIn 3 (some .int) 5 115 y [.ref (ad y 0), .int x1] st K := by
  refine ent (by decide) (Nat.le_of_ble_eq_true rfl) ?_
  intro p e s m below meth c C hG ls hl
  have hl : lv_has ls 3 [(0, .ref (ad y 0)), (1, .int x1)] := hl
  generalize ([.ref (ad y 0), .int x1] : List Value).toArray = args at C ⊢
  have C : Sd p s m args meth c cX9_openIn 3 RX9 (some .int) y := C
  obtain ⟨hx, hb, hml, hown, hts, hr, hlk, hK, hN⟩ := id C
  generalize s.heap = H at hG ⊢
  generalize ([] : List Loc) = locs at hG ⊢
  unfold w_X9_openIn at hw
  refine lv_aload_n hx hb dX9_openIn_0 rfl (lv_at hl 0 rfl) ?_
  refine r_kv (r_run_V (k := 0) (As := []) (rest := []) hx hb hml hown hts hK hN hG (c_X9_thinks l y  st _ hw) (by decide) rfl rfl rfl qM_X9_217 qI_X9_thinks qS_X9_thinks qN_X9 qC_X9_thinks hd_X9_thinks ⟨Nat.le_of_ble_eq_true rfl, Nat.le_of_ble_eq_true rfl⟩ hl.1 rfl (Nat.le_of_ble_eq_true rfl) dX9_openIn_1) hG (fun st1 H locs hw hG => ?_)
  refine lv_aload_n hx hb dX9_openIn_4 rfl (lv_at hl 0 rfl) ?_
  refine lv_iload_n hx hb dX9_openIn_5 rfl (lv_at hl 1 rfl) ?_
  refine r_kv (r_run_V (k := 0) (As := [.int x1]) (rest := []) hx hb hml hown hts hK hN hG (c_X9_goesOn l y x1 st1 _ hw) (by decide) rfl rfl rfl qM_X9_118 qI_X9_goesOn qS_X9_goesOn qN_X9 qC_X9_goesOn hd_X9_goesOn ⟨Nat.le_of_ble_eq_true rfl, Nat.le_of_ble_eq_true rfl⟩ hl.1 rfl (Nat.le_of_ble_eq_true rfl) dX9_openIn_6) hG (fun st6 H locs hw hG => ?_)
  refine lv_aload_n hx hb dX9_openIn_9 rfl (lv_at hl 0 rfl) ?_
  refine r_ki (r_run_V (k := 0) (As := []) (rest := []) hx hb hml hown hts hK hN hG (c_X9_openOnes l y  st6 _ hw) (by decide) rfl rfl rfl qM_X9_211 qI_X9_openOnes qS_X9_openOnes qN_X9 qC_X9_openOnes hd_X9_openOnes ⟨Nat.le_of_ble_eq_true rfl, Nat.le_of_ble_eq_true rfl⟩ hl.1 rfl (Nat.le_of_ble_eq_true rfl) dX9_openIn_10) hG (fun r10 st10 H locs hw hG => ?_)
  refine lv_istore_n (lv' := [(2, .int r10), (0, .ref (ad y 0)), (1, .int x1)]) hx hb dX9_openIn_13 rfl hl (Nat.le_of_ble_eq_true rfl) rfl (fun ls hl => ?_)
  refine lv_aload_n hx hb dX9_openIn_14 rfl (lv_at hl 1 rfl) ?_
  refine r_kv (r_run_V (k := 0) (As := []) (rest := []) hx hb hml hown hts hK hN hG (c_X9_forgets l y  st10 _ hw) (by decide) rfl rfl rfl qM_X9_220 qI_X9_forgets qS_X9_forgets qN_X9 qC_X9_forgets hd_X9_forgets ⟨Nat.le_of_ble_eq_true rfl, Nat.le_of_ble_eq_true rfl⟩ hl.1 rfl (Nat.le_of_ble_eq_true rfl) dX9_openIn_15) hG (fun st15 H locs hw hG => ?_)
  refine lv_iload_n hx hb dX9_openIn_18 rfl (lv_at hl 0 rfl) ?_
  exact r_iret hx hb hr hlk hK hG rfl hw dX9_openIn_19
set_option maxRecDepth 100000 in
set_option maxHeartbeats 4000000 in
theorem z_X9_behind_b17 {p : Program} {e : Env} {s : State} {m : MethodId} {args : Array Value} {below : List Frame} {meth : Method} {c : Code} (l : Launch) (y : Sy) (x1 : Int32) (x2 : Int32) (x3 : Int32) (C : Sd p s m args meth c cX9_behind 5 RX9 (some .int) y)  (K : Int32 → St → Prop)  (s0 : Int32) (st : St) {H : Heap} {locs : List Loc} {ls : Array Slot} (hG : gH 17 enM y st s H locs) (hl : lv_has ls 5 [(0, .ref (ad y 0)), (1, .int x1), (2, .int x2), (3, .int x3)]) (hw : w_X9_behind_b17 x1 x2 x3  K s0 st) : W p l e (rmm 6 139) s m args below meth c H locs 0 0 (MQ below (va_Qi K (gB 17 enM y) (gA 17 y)) args s 0 0 (gA 17 y)) (F0 m 17 ls [.int s0]) := by
  obtain ⟨hx, hb, hml, hown, hts, hr, hlk, hK, hN⟩ := id C
  unfold w_X9_behind_b17 at hw
  refine lv_istore (lv' := [(4, .int s0), (0, .ref (ad y 0)), (1, .int x1), (2, .int x2), (3, .int x3)]) hx hb dX9_behind_17 hl (Nat.le_of_ble_eq_true rfl) rfl (fun ls hl => ?_)
  refine lv_iload hx hb dX9_behind_19 (lv_at hl 0 rfl) ?_
  refine lv_if_eq (tgt := 33) hx hb dX9_behind_21 (by decide) (fun hc => ?_) (fun hc => ?_)
  · replace hw := hw.1 hc
    refine lv_aload_n hx hb dX9_behind_33 rfl (lv_at hl 1 rfl) ?_
    refine lv_iload_n hx hb dX9_behind_34 rfl (lv_at hl 2 rfl) ?_
    refine lv_iload_n hx hb dX9_behind_35 rfl (lv_at hl 3 rfl) ?_
    refine lv_iload_n hx hb dX9_behind_36 rfl (lv_at hl 4 rfl) ?_
    refine r_ki (r_run_V (k := 0) (As := [.int x1, .int x2, .int x3]) (rest := []) hx hb hml hown hts hK hN hG (c_X9_hateIn l y x1 x2 x3 st _ hw) (by decide) rfl rfl rfl qM_X9_226 qI_X9_hateIn qS_X9_hateIn qN_X9 qC_X9_hateIn hd_X9_hateIn ⟨Nat.le_of_ble_eq_true rfl, Nat.le_of_ble_eq_true rfl⟩ hl.1 rfl (Nat.le_of_ble_eq_true rfl) dX9_behind_37) hG (fun r37 st37 H locs hw hG => ?_)
    exact r_iret hx hb hr hlk hK hG rfl hw dX9_behind_40
  · replace hw := hw.2 hc
    refine lv_aload_n hx hb dX9_behind_24 rfl (lv_at hl 1 rfl) ?_
    refine lv_iload hx hb dX9_behind_25 (lv_at hl 0 rfl) ?_
    refine r_ki (r_run_V (k := 0) (As := [.int s0]) (rest := []) hx hb hml hown hts hK hN hG (c_X9_no l y s0 st _ hw) (by decide) rfl rfl rfl qM_X9_79 qI_X9_no qS_X9_no qN_X9 qC_X9_no hd_X9_no ⟨Nat.le_of_ble_eq_true rfl, Nat.le_of_ble_eq_true rfl⟩ hl.1 rfl (Nat.le_of_ble_eq_true rfl) dX9_behind_27) hG (fun r27 st27 H locs hw hG => ?_)
    refine lv_goto (tgt := 40) hx hb dX9_behind_30 (by decide) ?_
    exact r_iret hx hb hr hlk hK hG rfl hw dX9_behind_40
theorem hd_X9_behind : yX9_behind.cls ≠ "java/lang/invoke/MethodHandle" ∧ yX9_behind.cls ≠ "java/lang/invoke/VarHandle" ∧ (parseMethodDescriptor yX9_behind.desc).map (fun d => d.parameters.length) = some 3 := by decide +kernel
set_option maxRecDepth 100000 in
set_option maxHeartbeats 4000000 in
theorem c_X9_behind (l : Launch) (y : Sy) (x1 : Int32) (x2 : Int32) (x3 : Int32) (st : St) (K : Int32 → St → Prop) (hw : w_X9_behind x1 x2 x3 st K) : Ci 17 enM l yX9_behind cX9_behind 5 (some .int) 6 139 y [.ref (ad y 0), .int x1, .int x2, .int x3] st K := by
  refine ent (by decide) (Nat.le_of_ble_eq_true rfl) ?_
  intro p e s m below meth c C hG ls hl
  have hl : lv_has ls 5 [(0, .ref (ad y 0)), (1, .int x1), (2, .int x2), (3, .int x3)] := hl
  generalize ([.ref (ad y 0), .int x1, .int x2, .int x3] : List Value).toArray = args at C ⊢
  have C : Sd p s m args meth c cX9_behind 5 RX9 (some .int) y := C
  obtain ⟨hx, hb, hml, hown, hts, hr, hlk, hK, hN⟩ := id C
  generalize s.heap = H at hG ⊢
  generalize ([] : List Loc) = locs at hG ⊢
  unfold w_X9_behind at hw
  refine lv_aload_n hx hb dX9_behind_0 rfl (lv_at hl 0 rfl) ?_
  refine lv_iload_n hx hb dX9_behind_1 rfl (lv_at hl 1 rfl) ?_
  refine lv_iload_n hx hb dX9_behind_2 rfl (lv_at hl 2 rfl) ?_
  refine r_ki (r_run_V (k := 0) (As := [.int x1, .int x2]) (rest := []) hx hb hml hown hts hK hN hG (c_X9_areTwo l y x1 x2 st _ hw) (by decide) rfl rfl rfl qM_X9_125 qI_X9_areTwo qS_X9_areTwo qN_X9 qC_X9_areTwo hd_X9_areTwo ⟨Nat.le_of_ble_eq_true rfl, Nat.le_of_ble_eq_true rfl⟩ hl.1 rfl (Nat.le_of_ble_eq_true rfl) dX9_behind_3) hG (fun r3 st3 H locs hw hG => ?_)
  refine lv_if_ne (tgt := 13) hx hb dX9_behind_6 (by decide) (fun hc => ?_) (fun hc => ?_)
  · replace hw := hw.1 hc
    refine lv_iload_n hx hb dX9_behind_13 rfl (lv_at hl 3 rfl) ?_
    refine r_ki (r_run_S (As := [.int x3]) (rest := []) hx hb hml hown hts hK hN hG (c_X9_notWeeks l y x3 st3 _ hw) qM_X9_223 qT_X9_notWeeks qN_X9 qC_X9_notWeeks hd_X9_notWeeks ⟨Nat.le_of_ble_eq_true rfl, Nat.le_of_ble_eq_true rfl⟩ hl.1 rfl (Nat.le_of_ble_eq_true rfl) dX9_behind_14) hG (fun r14 st14 H locs hw hG => ?_)
    exact z_X9_behind_b17 l y x1 x2 x3 C  K  r14 st14 hG (lv_sub hl [0, 1, 2, 3] rfl) hw
  · replace hw := hw.2 hc
    refine lv_iconst (v := (-1)) hx hb dX9_behind_9 (by decide) ?_
    refine lv_goto (tgt := 17) hx hb dX9_behind_10 (by decide) ?_
    exact z_X9_behind_b17 l y x1 x2 x3 C  K  (-1) st3 hG (lv_sub hl [0, 1, 2, 3] rfl) hw
set_option maxRecDepth 100000 in
set_option maxHeartbeats 4000000 in
theorem z_X9_then_b21 {p : Program} {e : Env} {s : State} {m : MethodId} {args : Array Value} {below : List Frame} {meth : Method} {c : Code} (l : Launch) (y : Sy) (x1 : Int32) (x2 : Int32) (C : Sd p s m args meth c cX9_then 5 RX9 (some .int) y)  (K : Int32 → St → Prop)  (v3 : Int32) (st : St) {H : Heap} {locs : List Loc} {ls : Array Slot} (hG : gH 17 enM y st s H locs) (hl : lv_has ls 5 [(0, .ref (ad y 0)), (1, .int x1), (2, .int x2), (3, .int v3)]) (hw : w_X9_then_b21 x1 x2  K v3 st) : W p l e (rmm 6 137) s m args below meth c H locs 0 0 (MQ below (va_Qi K (gB 17 enM y) (gA 17 y)) args s 0 0 (gA 17 y)) (F0 m 21 ls []) := by
  obtain ⟨hx, hb, hml, hown, hts, hr, hlk, hK, hN⟩ := id C
  unfold w_X9_then_b21 at hw
  refine lv_iload_n hx hb dX9_then_21 rfl (lv_at hl 3 rfl) ?_
  refine lv_if_eq (tgt := 31) hx hb dX9_then_22 (by decide) (fun hc => ?_) (fun hc => ?_)
  · replace hw := hw.1 hc
    refine lv_iload_n hx hb dX9_then_31 rfl (lv_at hl 2 rfl) ?_
    refine lv_if_ne (tgt := 41) hx hb dX9_then_32 (by decide) (fun hc => ?_) (fun hc => ?_)
    · replace hw := hw.1 hc
      refine lv_aload_n hx hb dX9_then_41 rfl (lv_at hl 0 rfl) ?_
      refine r_kv (r_run_V (k := 0) (As := []) (rest := []) hx hb hml hown hts hK hN hG (c_X9_thinks l y  st _ hw) (by decide) rfl rfl rfl qM_X9_217 qI_X9_thinks qS_X9_thinks qN_X9 qC_X9_thinks hd_X9_thinks ⟨Nat.le_of_ble_eq_true rfl, Nat.le_of_ble_eq_true rfl⟩ hl.1 rfl (Nat.le_of_ble_eq_true rfl) dX9_then_42) hG (fun st42 H locs hw hG => ?_)
      refine lv_aload_n hx hb dX9_then_45 rfl (lv_at hl 0 rfl) ?_
      refine lv_iload_n hx hb dX9_then_46 rfl (lv_at hl 1 rfl) ?_
      refine r_kv (r_run_V (k := 0) (As := [.int x1]) (rest := []) hx hb hml hown hts hK hN hG (c_X9_goesOn l y x1 st42 _ hw) (by decide) rfl rfl rfl qM_X9_118 qI_X9_goesOn qS_X9_goesOn qN_X9 qC_X9_goesOn hd_X9_goesOn ⟨Nat.le_of_ble_eq_true rfl, Nat.le_of_ble_eq_true rfl⟩ hl.1 rfl (Nat.le_of_ble_eq_true rfl) dX9_then_47) hG (fun st47 H locs hw hG => ?_)
      refine lv_aload_n hx hb dX9_then_50 rfl (lv_at hl 0 rfl) ?_
      refine r_ki (r_run_V (k := 0) (As := []) (rest := []) hx hb hml hown hts hK hN hG (c_X9_allHate l y  st47 _ hw) (by decide) rfl rfl rfl qM_X9_232 qI_X9_allHate qS_X9_allHate qN_X9 qC_X9_allHate hd_X9_allHate ⟨Nat.le_of_ble_eq_true rfl, Nat.le_of_ble_eq_true rfl⟩ hl.1 rfl (Nat.le_of_ble_eq_true rfl) dX9_then_51) hG (fun r51 st51 H locs hw hG => ?_)
      refine lv_istore (lv' := [(4, .int r51), (0, .ref (ad y 0)), (1, .int x1), (2, .int x2), (3, .int v3)]) hx hb dX9_then_54 hl (Nat.le_of_ble_eq_true rfl) rfl (fun ls hl => ?_)
      refine lv_aload_n hx hb dX9_then_56 rfl (lv_at hl 1 rfl) ?_
      refine r_kv (r_run_V (k := 0) (As := []) (rest := []) hx hb hml hown hts hK hN hG (c_X9_forgets l y  st51 _ hw) (by decide) rfl rfl rfl qM_X9_220 qI_X9_forgets qS_X9_forgets qN_X9 qC_X9_forgets hd_X9_forgets ⟨Nat.le_of_ble_eq_true rfl, Nat.le_of_ble_eq_true rfl⟩ hl.1 rfl (Nat.le_of_ble_eq_true rfl) dX9_then_57) hG (fun st57 H locs hw hG => ?_)
      refine lv_iload hx hb dX9_then_60 (lv_at hl 0 rfl) ?_
      exact r_iret hx hb hr hlk hK hG rfl hw dX9_then_62
    · replace hw := hw.2 hc
      refine lv_aload_n hx hb dX9_then_35 rfl (lv_at hl 0 rfl) ?_
      refine lv_iload_n hx hb dX9_then_36 rfl (lv_at hl 1 rfl) ?_
      refine r_ki (r_run_V (k := 0) (As := [.int x1]) (rest := []) hx hb hml hown hts hK hN hG (c_X9_openIn l y x1 st _ hw) (by decide) rfl rfl rfl qM_X9_229 qI_X9_openIn qS_X9_openIn qN_X9 qC_X9_openIn hd_X9_openIn ⟨Nat.le_of_ble_eq_true rfl, Nat.le_of_ble_eq_true rfl⟩ hl.1 rfl (Nat.le_of_ble_eq_true rfl) dX9_then_37) hG (fun r37 st37 H locs hw hG => ?_)
      exact r_iret hx hb hr hlk hK hG rfl hw dX9_then_40
  · replace hw := hw.2 hc
    refine lv_aload_n hx hb dX9_then_25 rfl (lv_at hl 0 rfl) ?_
    refine lv_iload_n hx hb dX9_then_26 rfl (lv_at hl 3 rfl) ?_
    refine r_ki (r_run_V (k := 0) (As := [.int v3]) (rest := []) hx hb hml hown hts hK hN hG (c_X9_no l y v3 st _ hw) (by decide) rfl rfl rfl qM_X9_79 qI_X9_no qS_X9_no qN_X9 qC_X9_no hd_X9_no ⟨Nat.le_of_ble_eq_true rfl, Nat.le_of_ble_eq_true rfl⟩ hl.1 rfl (Nat.le_of_ble_eq_true rfl) dX9_then_27) hG (fun r27 st27 H locs hw hG => ?_)
    exact r_iret hx hb hr hlk hK hG rfl hw dX9_then_30
theorem hd_X9_then : yX9_then.cls ≠ "java/lang/invoke/MethodHandle" ∧ yX9_then.cls ≠ "java/lang/invoke/VarHandle" ∧ (parseMethodDescriptor yX9_then.desc).map (fun d => d.parameters.length) = some 2 := by decide +kernel
set_option maxRecDepth 100000 in
set_option maxHeartbeats 4000000 in
theorem c_X9_then (l : Launch) (y : Sy) (x1 : Int32) (x2 : Int32) (st : St) (K : Int32 → St → Prop) (hw : w_X9_then x1 x2 st K) : Ci 17 enM l yX9_then cX9_then 5 (some .int) 6 137 y [.ref (ad y 0), .int x1, .int x2] st K := by
  refine ent (by decide) (Nat.le_of_ble_eq_true rfl) ?_
  intro p e s m below meth c C hG ls hl
  have hl : lv_has ls 5 [(0, .ref (ad y 0)), (1, .int x1), (2, .int x2)] := hl
  generalize ([.ref (ad y 0), .int x1, .int x2] : List Value).toArray = args at C ⊢
  have C : Sd p s m args meth c cX9_then 5 RX9 (some .int) y := C
  obtain ⟨hx, hb, hml, hown, hts, hr, hlk, hK, hN⟩ := id C
  generalize s.heap = H at hG ⊢
  generalize ([] : List Loc) = locs at hG ⊢
  unfold w_X9_then at hw
  refine lv_iload_n hx hb dX9_then_0 rfl (lv_at hl 1 rfl) ?_
  refine r_ki (r_run_S (As := [.int x1]) (rest := []) hx hb hml hown hts hK hN hG (c_X9_notWeeks l y x1 st _ hw) qM_X9_223 qT_X9_notWeeks qN_X9 qC_X9_notWeeks hd_X9_notWeeks ⟨Nat.le_of_ble_eq_true rfl, Nat.le_of_ble_eq_true rfl⟩ hl.1 rfl (Nat.le_of_ble_eq_true rfl) dX9_then_1) hG (fun r1 st1 H locs hw hG => ?_)
  refine lv_istore_n (lv' := [(3, .int r1), (0, .ref (ad y 0)), (1, .int x1), (2, .int x2)]) hx hb dX9_then_4 rfl hl (Nat.le_of_ble_eq_true rfl) rfl (fun ls hl => ?_)
  refine lv_iload_n hx hb dX9_then_5 rfl (lv_at hl 0 rfl) ?_
  refine lv_if_ne (tgt := 21) hx hb dX9_then_6 (by decide) (fun hc => ?_) (fun hc => ?_)
  · replace hw := hw.1 hc
    exact z_X9_then_b21 l y x1 x2 C  K  r1 st1 hG (lv_sub hl [1, 2, 3, 0] rfl) hw
  · replace hw := hw.2 hc
    refine lv_iload_n hx hb dX9_then_9 rfl (lv_at hl 3 rfl) ?_
    refine lv_iconst (v := 0) hx hb dX9_then_10 (by decide) ?_
    refine lv_iconst (v := 1) hx hb dX9_then_11 (by decide) ?_
    refine r_ki (r_run_S (As := [.int x2, .int 0, .int 1]) (rest := []) hx hb hml hown hts hK hN hG (c_X9_isIn l y x2 0 1 st1 _ hw) qM_X9_90 qT_X9_isIn qN_X9 qC_X9_isIn hd_X9_isIn ⟨Nat.le_of_ble_eq_true rfl, Nat.le_of_ble_eq_true rfl⟩ hl.1 rfl (Nat.le_of_ble_eq_true rfl) dX9_then_12) hG (fun r12 st12 H locs hw hG => ?_)
    refine lv_if_ne (tgt := 21) hx hb dX9_then_15 (by decide) (fun hc => ?_) (fun hc => ?_)
    · replace hw := hw.1 hc
      exact z_X9_then_b21 l y x1 x2 C  K  r1 st12 hG (lv_sub hl [1, 2, 3, 0] rfl) hw
    · replace hw := hw.2 hc
      refine lv_bipush (v := (-2)) hx hb dX9_then_18 (by decide) ?_
      refine lv_istore_n (lv' := [(3, .int (-2)), (0, .ref (ad y 0)), (1, .int x1), (2, .int x2)]) hx hb dX9_then_20 rfl hl (Nat.le_of_ble_eq_true rfl) rfl (fun ls hl => ?_)
      exact z_X9_then_b21 l y x1 x2 C  K  (-2) st12 hG (lv_sub hl [1, 2, 3, 0] rfl) hw
set_option maxRecDepth 100000 in
set_option maxHeartbeats 4000000 in
theorem z_X9_whenOf_b65 {p : Program} {e : Env} {s : State} {m : MethodId} {args : Array Value} {below : List Frame} {meth : Method} {c : Code} (l : Launch) (y : Sy) (x1 : Int32) (C : Sd p s m args meth c cX9_whenOf 4 RX9 (some .int) y) (c27 : Int32 → Int32 → St → Prop) (K : Int32 → St → Prop) (hc27 : ∀ (v2 : Int32) (v3 : Int32) (st : St) (H : Heap) (locs : List Loc) (ls : Array Slot), gH 17 enM y st s H locs → lv_has ls 4 [(0, .ref (ad y 0)), (1, .int x1), (2, .int v2), (3, .int v3)] → c27 v2 v3 st → W p l e (rmm 4 93) s m args below meth c H locs 0 0 (MQ below (va_Qi K (gB 17 enM y) (gA 17 y)) args s 0 0 (gA 17 y)) (F0 m 27 ls [])) (v2 : Int32) (v3 : Int32) (st : St) {H : Heap} {locs : List Loc} {ls : Array Slot} (hG : gH 17 enM y st s H locs) (hl : lv_has ls 4 [(0, .ref (ad y 0)), (1, .int x1), (2, .int v2), (3, .int v3)]) (hw : w_X9_whenOf_b65 x1 c27 K v2 v3 st) : W p l e (rmm 4 93) s m args below meth c H locs 0 0 (MQ below (va_Qi K (gB 17 enM y) (gA 17 y)) args s 0 0 (gA 17 y)) (F0 m 65 ls []) := by
  obtain ⟨hx, hb, hml, hown, hts, hr, hlk, hK, hN⟩ := id C
  unfold w_X9_whenOf_b65 at hw
  refine lv_iinc (v := (v3 + 1)) (lv' := [(3, .int (v3 + 1)), (0, .ref (ad y 0)), (1, .int x1), (2, .int v2)]) hx hb dX9_whenOf_65 hl (k := 3) rfl rfl (Nat.le_of_ble_eq_true rfl) rfl (fun ls hl => ?_)
  refine lv_goto (tgt := 27) hx hb dX9_whenOf_68 (by decide) ?_
  exact hc27 v2 (v3 + 1) st H locs _ hG (lv_sub hl [1, 2, 3, 0] rfl) hw
set_option maxRecDepth 100000 in
set_option maxHeartbeats 4000000 in
theorem z_X9_whenOf_b71 {p : Program} {e : Env} {s : State} {m : MethodId} {args : Array Value} {below : List Frame} {meth : Method} {c : Code} (l : Launch) (y : Sy) (x1 : Int32) (C : Sd p s m args meth c cX9_whenOf 4 RX9 (some .int) y)  (K : Int32 → St → Prop)  (v2 : Int32) (st : St) {H : Heap} {locs : List Loc} {ls : Array Slot} (hG : gH 17 enM y st s H locs) (hl : lv_has ls 4 [(0, .ref (ad y 0)), (2, .int v2)]) (hw : w_X9_whenOf_b71 x1  K v2 st) : W p l e (rmm 4 93) s m args below meth c H locs 0 0 (MQ below (va_Qi K (gB 17 enM y) (gA 17 y)) args s 0 0 (gA 17 y)) (F0 m 71 ls []) := by
  obtain ⟨hx, hb, hml, hown, hts, hr, hlk, hK, hN⟩ := id C
  unfold w_X9_whenOf_b71 at hw
  refine lv_aload_n hx hb dX9_whenOf_71 rfl (lv_at hl 0 rfl) ?_
  refine r_kv (r_run_V (k := 0) (As := []) (rest := []) hx hb hml hown hts hK hN hG (c_X9_forgets l y  st _ hw) (by decide) rfl rfl rfl qM_X9_220 qI_X9_forgets qS_X9_forgets qN_X9 qC_X9_forgets hd_X9_forgets ⟨Nat.le_of_ble_eq_true rfl, Nat.le_of_ble_eq_true rfl⟩ hl.1 rfl (Nat.le_of_ble_eq_true rfl) dX9_whenOf_72) hG (fun st72 H locs hw hG => ?_)
  refine lv_iload_n hx hb dX9_whenOf_75 rfl (lv_at hl 1 rfl) ?_
  exact r_iret hx hb hr hlk hK hG rfl hw dX9_whenOf_76
set_option maxRecDepth 100000 in
set_option maxHeartbeats 4000000 in
theorem z_X9_whenOf_L27 {p : Program} {e : Env} {s : State} {m : MethodId} {args : Array Value} {below : List Frame} {meth : Method} {c : Code} (l : Launch) (y : Sy) (x1 : Int32) (C : Sd p s m args meth c cX9_whenOf 4 RX9 (some .int) y)  (K : Int32 → St → Prop)  : ∀ (n : Nat) (v2 : Int32) (v3 : Int32) (st : St) (H : Heap) (locs : List Loc) (ls : Array Slot), gH 17 enM y st s H locs → lv_has ls 4 [(0, .ref (ad y 0)), (1, .int x1), (2, .int v2), (3, .int v3)] → w_X9_whenOf_L27 x1  K n v2 v3 st → W p l e (rmm 4 93) s m args below meth c H locs 0 0 (MQ below (va_Qi K (gB 17 enM y) (gA 17 y)) args s 0 0 (gA 17 y)) (F0 m 27 ls []) := by
  obtain ⟨hx, hb, hml, hown, hts, hr, hlk, hK, hN⟩ := id C
  intro n
  induction n with
  | zero => intro v2 v3 st H locs ls hG hl hw; exact False.elim hw
  | succ n hc27 =>
    intro v2 v3 st H locs ls hG hl hw
    have hw : w_X9_whenOf_L27q x1  K (fun v2 v3 st => w_X9_whenOf_L27 x1  K n v2 v3 st) v2 v3 st := hw
    unfold w_X9_whenOf_L27q at hw
    refine lv_iload_n hx hb dX9_whenOf_27 rfl (lv_at hl 3 rfl) ?_
    refine lv_bipush (v := 60) hx hb dX9_whenOf_28 (by decide) ?_
    refine lv_icmp_gt (tgt := 71) hx hb dX9_whenOf_30 (by decide) (fun hc => ?_) (fun hc => ?_)
    · replace hw := hw.1 hc
      exact z_X9_whenOf_b71 l y x1 C  K  v2 st hG (lv_sub hl [0, 2] rfl) hw
    · replace hw := hw.2 hc
      refine lv_iload_n hx hb dX9_whenOf_33 rfl (lv_at hl 2 rfl) ?_
      refine lv_if_ge (tgt := 71) hx hb dX9_whenOf_34 (by decide) (fun hc => ?_) (fun hc => ?_)
      · replace hw := hw.1 hc
        exact z_X9_whenOf_b71 l y x1 C  K  v2 st hG (lv_sub hl [0, 2] rfl) hw
      · replace hw := hw.2 hc
        refine lv_aload_n hx hb dX9_whenOf_37 rfl (lv_at hl 0 rfl) ?_
        refine r_kv (r_run_V (k := 0) (As := []) (rest := []) hx hb hml hown hts hK hN hG (c_X9_goesWeek l y  st _ hw) (by decide) rfl rfl rfl qM_X9_202 qI_X9_goesWeek qS_X9_goesWeek qN_X9 qC_X9_goesWeek hd_X9_goesWeek ⟨Nat.le_of_ble_eq_true rfl, Nat.le_of_ble_eq_true rfl⟩ hl.1 rfl (Nat.le_of_ble_eq_true rfl) dX9_whenOf_38) hG (fun st38 H locs hw hG => ?_)
        refine lv_aload_n hx hb dX9_whenOf_41 rfl (lv_at hl 0 rfl) ?_
        refine r_get (C := RX9) (T := TX9) (Nf := 31) hx hb hts hown hK hG (by decide) rfl rfl inX9 7 (by decide) qF_X9_31 rfl dX9_whenOf_42 ?_
        refine lv_iload_n hx hb dX9_whenOf_45 rfl (lv_at hl 1 rfl) ?_
        obtain ⟨hi, hw⟩ := hw
        refine r_iald hx hb hK hG (isB_8).1 ((isB_8).2 y _) hi dX9_whenOf_46 ?_
        refine lv_if_ne (tgt := 53) hx hb dX9_whenOf_47 (by decide) (fun hc => ?_) (fun hc => ?_)
        · replace hw := hw.1 hc
          refine lv_iload_n hx hb dX9_whenOf_53 rfl (lv_at hl 3 rfl) ?_
          refine lv_istore_n (lv' := [(2, .int v3), (0, .ref (ad y 0)), (1, .int x1), (3, .int v3)]) hx hb dX9_whenOf_54 rfl hl (Nat.le_of_ble_eq_true rfl) rfl (fun ls hl => ?_)
          refine lv_aload_n hx hb dX9_whenOf_55 rfl (lv_at hl 1 rfl) ?_
          refine lv_aload_n hx hb dX9_whenOf_56 rfl (lv_at hl 1 rfl) ?_
          refine r_get (C := RX9) (T := TX9) (Nf := 31) hx hb hts hown hK hG (by decide) rfl rfl inX9 24 (by decide) qF_X9_49 rfl dX9_whenOf_57 ?_
          refine lv_iload_n hx hb dX9_whenOf_60 rfl (lv_at hl 2 rfl) ?_
          obtain ⟨hi, hw⟩ := hw
          refine r_iald hx hb hK hG (isB_14).1 ((isB_14).2 y _) hi dX9_whenOf_61 ?_
          refine r_put (C := RX9) (T := TX9) (Nf := 31) hx hb hts hown hK hG (by decide) rfl rfl inX9 tyX9_ok nmX9 26 (by decide) qF_X9_235 rfl (st38 14 (x1).toNatClampNeg) rfl rfl rfl (Nat.le_of_ble_eq_true rfl) dX9_whenOf_62 (fun H locs hG => ?_)
          exact z_X9_whenOf_b65 l y x1 C (fun v2 v3 st => w_X9_whenOf_L27 x1  K n v2 v3 st) K hc27 v3 v3 (u2 st38 0 26 (st38 14 (x1).toNatClampNeg)) hG (lv_sub hl [1, 2, 0, 3] rfl) hw
        · replace hw := hw.2 hc
          refine lv_goto (tgt := 65) hx hb dX9_whenOf_50 (by decide) ?_
          exact z_X9_whenOf_b65 l y x1 C (fun v2 v3 st => w_X9_whenOf_L27 x1  K n v2 v3 st) K hc27 v2 v3 st38 hG (lv_sub hl [0, 1, 2, 3] rfl) hw
theorem hd_X9_whenOf : yX9_whenOf.cls ≠ "java/lang/invoke/MethodHandle" ∧ yX9_whenOf.cls ≠ "java/lang/invoke/VarHandle" ∧ (parseMethodDescriptor yX9_whenOf.desc).map (fun d => d.parameters.length) = some 1 := by decide +kernel
set_option maxRecDepth 100000 in
set_option maxHeartbeats 4000000 in
theorem c_X9_whenOf (l : Launch) (y : Sy) (x1 : Int32) (st : St) (K : Int32 → St → Prop) (hw : w_X9_whenOf x1 st K) : Ci 17 enM l yX9_whenOf cX9_whenOf 4 (some .int) 4 93 y [.ref (ad y 0), .int x1] st K := by
  refine ent (by decide) (Nat.le_of_ble_eq_true rfl) ?_
  intro p e s m below meth c C hG ls hl
  have hl : lv_has ls 4 [(0, .ref (ad y 0)), (1, .int x1)] := hl
  generalize ([.ref (ad y 0), .int x1] : List Value).toArray = args at C ⊢
  have C : Sd p s m args meth c cX9_whenOf 4 RX9 (some .int) y := C
  obtain ⟨hx, hb, hml, hown, hts, hr, hlk, hK, hN⟩ := id C
  generalize s.heap = H at hG ⊢
  generalize ([] : List Loc) = locs at hG ⊢
  unfold w_X9_whenOf at hw
  refine lv_aload_n hx hb dX9_whenOf_0 rfl (lv_at hl 0 rfl) ?_
  refine lv_bipush (v := (-9)) hx hb dX9_whenOf_1 (by decide) ?_
  refine r_put (C := RX9) (T := TX9) (Nf := 31) hx hb hts hown hK hG (by decide) rfl rfl inX9 tyX9_ok nmX9 26 (by decide) qF_X9_235 rfl (-9) rfl rfl rfl (Nat.le_of_ble_eq_true rfl) dX9_whenOf_3 (fun H locs hG => ?_)
  refine lv_aload_n hx hb dX9_whenOf_6 rfl (lv_at hl 0 rfl) ?_
  refine r_get (C := RX9) (T := TX9) (Nf := 31) hx hb hts hown hK hG (by decide) rfl rfl inX9 7 (by decide) qF_X9_31 rfl dX9_whenOf_7 ?_
  refine lv_iload_n hx hb dX9_whenOf_10 rfl (lv_at hl 1 rfl) ?_
  obtain ⟨hi, hw⟩ := hw
  refine r_iald hx hb hK hG (isB_8).1 ((isB_8).2 y _) hi dX9_whenOf_11 ?_
  refine lv_iconst (v := 1) hx hb dX9_whenOf_12 (by decide) ?_
  refine lv_icmp_ne (tgt := 18) hx hb dX9_whenOf_13 (by decide) (fun hc => ?_) (fun hc => ?_)
  · replace hw := hw.1 hc
    refine lv_aload_n hx hb dX9_whenOf_18 rfl (lv_at hl 0 rfl) ?_
    refine r_kv (r_run_V (k := 0) (As := []) (rest := []) hx hb hml hown hts hK hN hG (c_X9_thinks l y  (u2 st 0 26 (-9)) _ hw) (by decide) rfl rfl rfl qM_X9_217 qI_X9_thinks qS_X9_thinks qN_X9 qC_X9_thinks hd_X9_thinks ⟨Nat.le_of_ble_eq_true rfl, Nat.le_of_ble_eq_true rfl⟩ hl.1 rfl (Nat.le_of_ble_eq_true rfl) dX9_whenOf_19) hG (fun st19 H locs hw hG => ?_)
    refine lv_bipush (v := (-9)) hx hb dX9_whenOf_22 (by decide) ?_
    refine lv_istore_n (lv' := [(2, .int (-9)), (0, .ref (ad y 0)), (1, .int x1)]) hx hb dX9_whenOf_24 rfl hl (Nat.le_of_ble_eq_true rfl) rfl (fun ls hl => ?_)
    refine lv_iconst (v := 1) hx hb dX9_whenOf_25 (by decide) ?_
    refine lv_istore_n (lv' := [(3, .int 1), (2, .int (-9)), (0, .ref (ad y 0)), (1, .int x1)]) hx hb dX9_whenOf_26 rfl hl (Nat.le_of_ble_eq_true rfl) rfl (fun ls hl => ?_)
    obtain ⟨n27, hw⟩ := hw
    exact z_X9_whenOf_L27 l y x1 C  K  n27 (-9) 1 st19 H locs _ hG (lv_sub hl [2, 3, 1, 0] rfl) hw
  · replace hw := hw.2 hc
    refine lv_iconst (v := 0) hx hb dX9_whenOf_16 (by decide) ?_
    exact r_iret hx hb hr hlk hK hG rfl hw dX9_whenOf_17
set_option maxRecDepth 100000 in
set_option maxHeartbeats 4000000 in
theorem z_X9_when_b27 {p : Program} {e : Env} {s : State} {m : MethodId} {args : Array Value} {below : List Frame} {meth : Method} {c : Code} (l : Launch) (y : Sy) (x1 : Int32) (x2 : Int32) (C : Sd p s m args meth c cX9_when 5 RX9 (some .int) y)  (K : Int32 → St → Prop)  (s0 : Int32) (st : St) {H : Heap} {locs : List Loc} {ls : Array Slot} (hG : gH 17 enM y st s H locs) (hl : lv_has ls 5 [(0, .ref (ad y 0)), (1, .int x1), (2, .int x2)]) (hw : w_X9_when_b27 x1 x2  K s0 st) : W p l e (rmm 5 116) s m args below meth c H locs 0 0 (MQ below (va_Qi K (gB 17 enM y) (gA 17 y)) args s 0 0 (gA 17 y)) (F0 m 27 ls [.int s0]) := by
  obtain ⟨hx, hb, hml, hown, hts, hr, hlk, hK, hN⟩ := id C
  unfold w_X9_when_b27 at hw
  refine lv_istore_n (lv' := [(3, .int s0), (0, .ref (ad y 0)), (1, .int x1), (2, .int x2)]) hx hb dX9_when_27 rfl hl (Nat.le_of_ble_eq_true rfl) rfl (fun ls hl => ?_)
  refine lv_iload_n hx hb dX9_when_28 rfl (lv_at hl 0 rfl) ?_
  refine lv_if_eq (tgt := 38) hx hb dX9_when_29 (by decide) (fun hc => ?_) (fun hc => ?_)
  · replace hw := hw.1 hc
    refine lv_aload_n hx hb dX9_when_38 rfl (lv_at hl 1 rfl) ?_
    refine lv_iload_n hx hb dX9_when_39 rfl (lv_at hl 2 rfl) ?_
    refine r_ki (r_run_V (k := 0) (As := [.int x1]) (rest := []) hx hb hml hown hts hK hN hG (c_X9_whenOf l y x1 st _ hw) (by decide) rfl rfl rfl qM_X9_238 qI_X9_whenOf qS_X9_whenOf qN_X9 qC_X9_whenOf hd_X9_whenOf ⟨Nat.le_of_ble_eq_true rfl, Nat.le_of_ble_eq_true rfl⟩ hl.1 rfl (Nat.le_of_ble_eq_true rfl) dX9_when_40) hG (fun r40 st40 H locs hw hG => ?_)
    refine lv_istore (lv' := [(4, .int r40), (3, .int s0), (0, .ref (ad y 0)), (1, .int x1), (2, .int x2)]) hx hb dX9_when_43 hl (Nat.le_of_ble_eq_true rfl) rfl (fun ls hl => ?_)
    refine lv_iload_n hx hb dX9_when_45 rfl (lv_at hl 4 rfl) ?_
    refine lv_if_ne (tgt := 54) hx hb dX9_when_46 (by decide) (fun hc => ?_) (fun hc => ?_)
    · replace hw := hw.1 hc
      refine lv_aload_n hx hb dX9_when_54 rfl (lv_at hl 2 rfl) ?_
      refine r_get (C := RX9) (T := TX9) (Nf := 31) hx hb hts hown hK hG (by decide) rfl rfl inX9 26 (by decide) qF_X9_235 rfl dX9_when_55 ?_
      exact r_iret hx hb hr hlk hK hG rfl hw dX9_when_58
    · replace hw := hw.2 hc
      refine lv_iload hx hb dX9_when_49 (lv_at hl 0 rfl) ?_
      refine lv_goto (tgt := 58) hx hb dX9_when_51 (by decide) ?_
      exact r_iret hx hb hr hlk hK hG rfl hw dX9_when_58
  · replace hw := hw.2 hc
    refine lv_aload_n hx hb dX9_when_32 rfl (lv_at hl 1 rfl) ?_
    refine lv_iload_n hx hb dX9_when_33 rfl (lv_at hl 0 rfl) ?_
    refine r_ki (r_run_V (k := 0) (As := [.int s0]) (rest := []) hx hb hml hown hts hK hN hG (c_X9_no l y s0 st _ hw) (by decide) rfl rfl rfl qM_X9_79 qI_X9_no qS_X9_no qN_X9 qC_X9_no hd_X9_no ⟨Nat.le_of_ble_eq_true rfl, Nat.le_of_ble_eq_true rfl⟩ hl.1 rfl (Nat.le_of_ble_eq_true rfl) dX9_when_34) hG (fun r34 st34 H locs hw hG => ?_)
    exact r_iret hx hb hr hlk hK hG rfl hw dX9_when_37
theorem hd_X9_when : yX9_when.cls ≠ "java/lang/invoke/MethodHandle" ∧ yX9_when.cls ≠ "java/lang/invoke/VarHandle" ∧ (parseMethodDescriptor yX9_when.desc).map (fun d => d.parameters.length) = some 2 := by decide +kernel
set_option maxRecDepth 100000 in
set_option maxHeartbeats 4000000 in
theorem c_X9_when (l : Launch) (y : Sy) (x1 : Int32) (x2 : Int32) (st : St) (K : Int32 → St → Prop) (hw : w_X9_when x1 x2 st K) : Ci 17 enM l yX9_when cX9_when 5 (some .int) 5 116 y [.ref (ad y 0), .int x1, .int x2] st K := by
  refine ent (by decide) (Nat.le_of_ble_eq_true rfl) ?_
  intro p e s m below meth c C hG ls hl
  have hl : lv_has ls 5 [(0, .ref (ad y 0)), (1, .int x1), (2, .int x2)] := hl
  generalize ([.ref (ad y 0), .int x1, .int x2] : List Value).toArray = args at C ⊢
  have C : Sd p s m args meth c cX9_when 5 RX9 (some .int) y := C
  obtain ⟨hx, hb, hml, hown, hts, hr, hlk, hK, hN⟩ := id C
  generalize s.heap = H at hG ⊢
  generalize ([] : List Loc) = locs at hG ⊢
  unfold w_X9_when at hw
  refine lv_aload_n hx hb dX9_when_0 rfl (lv_at hl 0 rfl) ?_
  refine lv_iload_n hx hb dX9_when_1 rfl (lv_at hl 1 rfl) ?_
  refine r_ki (r_run_V (k := 0) (As := [.int x1]) (rest := []) hx hb hml hown hts hK hN hG (c_X9_isLetter l y x1 st _ hw) (by decide) rfl rfl rfl qM_X9_134 qI_X9_isLetter qS_X9_isLetter qN_X9 qC_X9_isLetter hd_X9_isLetter ⟨Nat.le_of_ble_eq_true rfl, Nat.le_of_ble_eq_true rfl⟩ hl.1 rfl (Nat.le_of_ble_eq_true rfl) dX9_when_2) hG (fun r2 st2 H locs hw hG => ?_)
  refine lv_if_ne (tgt := 12) hx hb dX9_when_5 (by decide) (fun hc => ?_) (fun hc => ?_)
  · replace hw := hw.1 hc
    refine lv_iload_n hx hb dX9_when_12 rfl (lv_at hl 2 rfl) ?_
    refine lv_iconst (v := 0) hx hb dX9_when_13 (by decide) ?_
    refine lv_iconst (v := 1) hx hb dX9_when_14 (by decide) ?_
    refine r_ki (r_run_S (As := [.int x2, .int 0, .int 1]) (rest := []) hx hb hml hown hts hK hN hG (c_X9_isIn l y x2 0 1 st2 _ hw) qM_X9_90 qT_X9_isIn qN_X9 qC_X9_isIn hd_X9_isIn ⟨Nat.le_of_ble_eq_true rfl, Nat.le_of_ble_eq_true rfl⟩ hl.1 rfl (Nat.le_of_ble_eq_true rfl) dX9_when_15) hG (fun r15 st15 H locs hw hG => ?_)
    refine lv_if_ne (tgt := 26) hx hb dX9_when_18 (by decide) (fun hc => ?_) (fun hc => ?_)
    · replace hw := hw.1 hc
      refine lv_iconst (v := 0) hx hb dX9_when_26 (by decide) ?_
      exact z_X9_when_b27 l y x1 x2 C  K  0 st15 hG (lv_sub hl [0, 1, 2] rfl) hw
    · replace hw := hw.2 hc
      refine lv_bipush (v := (-2)) hx hb dX9_when_21 (by decide) ?_
      refine lv_goto (tgt := 27) hx hb dX9_when_23 (by decide) ?_
      exact z_X9_when_b27 l y x1 x2 C  K  (-2) st15 hG (lv_sub hl [0, 1, 2] rfl) hw
  · replace hw := hw.2 hc
    refine lv_iconst (v := (-1)) hx hb dX9_when_8 (by decide) ?_
    refine lv_goto (tgt := 27) hx hb dX9_when_9 (by decide) ?_
    exact z_X9_when_b27 l y x1 x2 C  K  (-1) st2 hG (lv_sub hl [0, 1, 2] rfl) hw
set_option maxRecDepth 100000 in
set_option maxHeartbeats 4000000 in
theorem z_X9_lasts_b74 {p : Program} {e : Env} {s : State} {m : MethodId} {args : Array Value} {below : List Frame} {meth : Method} {c : Code} (l : Launch) (y : Sy) (x1 : Int32) (x2 : Int32) (x3 : Int32) (C : Sd p s m args meth c cX9_lasts 7 RX9 (some .int) y) (c45 : Int32 → Int32 → St → Prop) (K : Int32 → St → Prop) (hc45 : ∀ (v5 : Int32) (v6 : Int32) (st : St) (H : Heap) (locs : List Loc) (ls : Array Slot), gH 17 enM y st s H locs → lv_has ls 7 [(0, .ref (ad y 0)), (1, .int x1), (2, .int x2), (3, .int x3), (5, .int v5), (6, .int v6)] → c45 v5 v6 st → W p l e (rmm 4 93) s m args below meth c H locs 0 0 (MQ below (va_Qi K (gB 17 enM y) (gA 17 y)) args s 0 0 (gA 17 y)) (F0 m 45 ls [])) (v6 : Int32) (s0 : Int32) (st : St) {H : Heap} {locs : List Loc} {ls : Array Slot} (hG : gH 17 enM y st s H locs) (hl : lv_has ls 7 [(0, .ref (ad y 0)), (1, .int x1), (2, .int x2), (3, .int x3), (6, .int v6)]) (hw : w_X9_lasts_b74 x1 x2 x3 c45 K v6 s0 st) : W p l e (rmm 4 93) s m args below meth c H locs 0 0 (MQ below (va_Qi K (gB 17 enM y) (gA 17 y)) args s 0 0 (gA 17 y)) (F0 m 74 ls [.int s0]) := by
  obtain ⟨hx, hb, hml, hown, hts, hr, hlk, hK, hN⟩ := id C
  unfold w_X9_lasts_b74 at hw
  refine lv_istore (lv' := [(5, .int s0), (0, .ref (ad y 0)), (1, .int x1), (2, .int x2), (3, .int x3), (6, .int v6)]) hx hb dX9_lasts_74 hl (Nat.le_of_ble_eq_true rfl) rfl (fun ls hl => ?_)
  refine lv_aload_n hx hb dX9_lasts_76 rfl (lv_at hl 1 rfl) ?_
  refine r_kv (r_run_V (k := 0) (As := []) (rest := []) hx hb hml hown hts hK hN hG (c_X9_goesWeek l y  st _ hw) (by decide) rfl rfl rfl qM_X9_202 qI_X9_goesWeek qS_X9_goesWeek qN_X9 qC_X9_goesWeek hd_X9_goesWeek ⟨Nat.le_of_ble_eq_true rfl, Nat.le_of_ble_eq_true rfl⟩ hl.1 rfl (Nat.le_of_ble_eq_true rfl) dX9_lasts_77) hG (fun st77 H locs hw hG => ?_)
  refine lv_iinc (v := (v6 + 1)) (lv' := [(6, .int (v6 + 1)), (5, .int s0), (0, .ref (ad y 0)), (1, .int x1), (2, .int x2), (3, .int x3)]) hx hb dX9_lasts_80 hl (k := 5) rfl rfl (Nat.le_of_ble_eq_true rfl) rfl (fun ls hl => ?_)
  refine lv_goto (tgt := 45) hx hb dX9_lasts_83 (by decide) ?_
  exact hc45 s0 (v6 + 1) st77 H locs _ hG (lv_sub hl [2, 3, 4, 5, 1, 0] rfl) hw
set_option maxRecDepth 100000 in
set_option maxHeartbeats 4000000 in
theorem z_X9_lasts_b86 {p : Program} {e : Env} {s : State} {m : MethodId} {args : Array Value} {below : List Frame} {meth : Method} {c : Code} (l : Launch) (y : Sy) (x1 : Int32) (x2 : Int32) (x3 : Int32) (C : Sd p s m args meth c cX9_lasts 7 RX9 (some .int) y)  (K : Int32 → St → Prop)  (v5 : Int32) (st : St) {H : Heap} {locs : List Loc} {ls : Array Slot} (hG : gH 17 enM y st s H locs) (hl : lv_has ls 7 [(0, .ref (ad y 0)), (5, .int v5)]) (hw : w_X9_lasts_b86 x1 x2 x3  K v5 st) : W p l e (rmm 4 93) s m args below meth c H locs 0 0 (MQ below (va_Qi K (gB 17 enM y) (gA 17 y)) args s 0 0 (gA 17 y)) (F0 m 86 ls []) := by
  obtain ⟨hx, hb, hml, hown, hts, hr, hlk, hK, hN⟩ := id C
  unfold w_X9_lasts_b86 at hw
  refine lv_aload_n hx hb dX9_lasts_86 rfl (lv_at hl 0 rfl) ?_
  refine r_kv (r_run_V (k := 0) (As := []) (rest := []) hx hb hml hown hts hK hN hG (c_X9_forgets l y  st _ hw) (by decide) rfl rfl rfl qM_X9_220 qI_X9_forgets qS_X9_forgets qN_X9 qC_X9_forgets hd_X9_forgets ⟨Nat.le_of_ble_eq_true rfl, Nat.le_of_ble_eq_true rfl⟩ hl.1 rfl (Nat.le_of_ble_eq_true rfl) dX9_lasts_87) hG (fun st87 H locs hw hG => ?_)
  refine lv_iload hx hb dX9_lasts_90 (lv_at hl 1 rfl) ?_
  exact r_iret hx hb hr hlk hK hG rfl hw dX9_lasts_92
set_option maxRecDepth 100000 in
set_option maxHeartbeats 4000000 in
theorem z_X9_lasts_L45 {p : Program} {e : Env} {s : State} {m : MethodId} {args : Array Value} {below : List Frame} {meth : Method} {c : Code} (l : Launch) (y : Sy) (x1 : Int32) (x2 : Int32) (x3 : Int32) (C : Sd p s m args meth c cX9_lasts 7 RX9 (some .int) y)  (K : Int32 → St → Prop)  : ∀ (n : Nat) (v5 : Int32) (v6 : Int32) (st : St) (H : Heap) (locs : List Loc) (ls : Array Slot), gH 17 enM y st s H locs → lv_has ls 7 [(0, .ref (ad y 0)), (1, .int x1), (2, .int x2), (3, .int x3), (5, .int v5), (6, .int v6)] → w_X9_lasts_L45 x1 x2 x3  K n v5 v6 st → W p l e (rmm 4 93) s m args below meth c H locs 0 0 (MQ below (va_Qi K (gB 17 enM y) (gA 17 y)) args s 0 0 (gA 17 y)) (F0 m 45 ls []) := by
  obtain ⟨hx, hb, hml, hown, hts, hr, hlk, hK, hN⟩ := id C
  intro n
  induction n with
  | zero => intro v5 v6 st H locs ls hG hl hw; exact False.elim hw
  | succ n hc45 =>
    intro v5 v6 st H locs ls hG hl hw
    have hw : w_X9_lasts_L45q x1 x2 x3  K (fun v5 v6 st => w_X9_lasts_L45 x1 x2 x3  K n v5 v6 st) v5 v6 st := hw
    unfold w_X9_lasts_L45q at hw
    refine lv_iload hx hb dX9_lasts_45 (lv_at hl 5 rfl) ?_
    refine lv_bipush (v := 60) hx hb dX9_lasts_47 (by decide) ?_
    refine lv_icmp_gt (tgt := 86) hx hb dX9_lasts_49 (by decide) (fun hc => ?_) (fun hc => ?_)
    · replace hw := hw.1 hc
      exact z_X9_lasts_b86 l y x1 x2 x3 C  K  v5 st hG (lv_sub hl [0, 4] rfl) hw
    · replace hw := hw.2 hc
      refine lv_iload hx hb dX9_lasts_52 (lv_at hl 4 rfl) ?_
      refine lv_if_ge (tgt := 86) hx hb dX9_lasts_54 (by decide) (fun hc => ?_) (fun hc => ?_)
      · replace hw := hw.1 hc
        exact z_X9_lasts_b86 l y x1 x2 x3 C  K  v5 st hG (lv_sub hl [0, 4] rfl) hw
      · replace hw := hw.2 hc
        refine lv_aload_n hx hb dX9_lasts_57 rfl (lv_at hl 0 rfl) ?_
        refine lv_iload_n hx hb dX9_lasts_58 rfl (lv_at hl 1 rfl) ?_
        refine lv_iload_n hx hb dX9_lasts_59 rfl (lv_at hl 2 rfl) ?_
        refine r_ki (r_run_V (k := 0) (As := [.int x1, .int x2]) (rest := []) hx hb hml hown hts hK hN hG (c_X9_hateOf l y x1 x2 st _ hw) (by decide) rfl rfl rfl qM_X9_180 qI_X9_hateOf qS_X9_hateOf qN_X9 qC_X9_hateOf hd_X9_hateOf ⟨Nat.le_of_ble_eq_true rfl, Nat.le_of_ble_eq_true rfl⟩ hl.1 rfl (Nat.le_of_ble_eq_true rfl) dX9_lasts_60) hG (fun r60 st60 H locs hw hG => ?_)
        refine lv_iload_n hx hb dX9_lasts_63 rfl (lv_at hl 3 rfl) ?_
        refine lv_icmp_ge (tgt := 72) hx hb dX9_lasts_64 (by decide) (fun hc => ?_) (fun hc => ?_)
        · replace hw := hw.1 hc
          refine lv_bipush (v := (-9)) hx hb dX9_lasts_72 (by decide) ?_
          exact z_X9_lasts_b74 l y x1 x2 x3 C (fun v5 v6 st => w_X9_lasts_L45 x1 x2 x3  K n v5 v6 st) K hc45 v6 (-9) st60 hG (lv_sub hl [0, 1, 2, 3, 5] rfl) hw
        · replace hw := hw.2 hc
          refine lv_iload hx hb dX9_lasts_67 (lv_at hl 5 rfl) ?_
          refine lv_goto (tgt := 74) hx hb dX9_lasts_69 (by decide) ?_
          exact z_X9_lasts_b74 l y x1 x2 x3 C (fun v5 v6 st => w_X9_lasts_L45 x1 x2 x3  K n v5 v6 st) K hc45 v6 v6 st60 hG (lv_sub hl [0, 1, 2, 3, 5] rfl) hw
set_option maxRecDepth 100000 in
set_option maxHeartbeats 4000000 in
theorem z_X9_lasts_b20 {p : Program} {e : Env} {s : State} {m : MethodId} {args : Array Value} {below : List Frame} {meth : Method} {c : Code} (l : Launch) (y : Sy) (x1 : Int32) (x2 : Int32) (x3 : Int32) (C : Sd p s m args meth c cX9_lasts 7 RX9 (some .int) y)  (K : Int32 → St → Prop)  (s0 : Int32) (st : St) {H : Heap} {locs : List Loc} {ls : Array Slot} (hG : gH 17 enM y st s H locs) (hl : lv_has ls 7 [(0, .ref (ad y 0)), (1, .int x1), (2, .int x2), (3, .int x3)]) (hw : w_X9_lasts_b20 x1 x2 x3  K s0 st) : W p l e (rmm 4 93) s m args below meth c H locs 0 0 (MQ below (va_Qi K (gB 17 enM y) (gA 17 y)) args s 0 0 (gA 17 y)) (F0 m 20 ls [.int s0]) := by
  obtain ⟨hx, hb, hml, hown, hts, hr, hlk, hK, hN⟩ := id C
  unfold w_X9_lasts_b20 at hw
  refine lv_istore (lv' := [(4, .int s0), (0, .ref (ad y 0)), (1, .int x1), (2, .int x2), (3, .int x3)]) hx hb dX9_lasts_20 hl (Nat.le_of_ble_eq_true rfl) rfl (fun ls hl => ?_)
  refine lv_iload hx hb dX9_lasts_22 (lv_at hl 0 rfl) ?_
  refine lv_if_eq (tgt := 34) hx hb dX9_lasts_24 (by decide) (fun hc => ?_) (fun hc => ?_)
  · replace hw := hw.1 hc
    refine lv_aload_n hx hb dX9_lasts_34 rfl (lv_at hl 1 rfl) ?_
    refine r_kv (r_run_V (k := 0) (As := []) (rest := []) hx hb hml hown hts hK hN hG (c_X9_thinks l y  st _ hw) (by decide) rfl rfl rfl qM_X9_217 qI_X9_thinks qS_X9_thinks qN_X9 qC_X9_thinks hd_X9_thinks ⟨Nat.le_of_ble_eq_true rfl, Nat.le_of_ble_eq_true rfl⟩ hl.1 rfl (Nat.le_of_ble_eq_true rfl) dX9_lasts_35) hG (fun st35 H locs hw hG => ?_)
    refine lv_bipush (v := (-9)) hx hb dX9_lasts_38 (by decide) ?_
    refine lv_istore (lv' := [(5, .int (-9)), (4, .int s0), (0, .ref (ad y 0)), (1, .int x1), (2, .int x2), (3, .int x3)]) hx hb dX9_lasts_40 hl (Nat.le_of_ble_eq_true rfl) rfl (fun ls hl => ?_)
    refine lv_iconst (v := 0) hx hb dX9_lasts_42 (by decide) ?_
    refine lv_istore (lv' := [(6, .int 0), (5, .int (-9)), (4, .int s0), (0, .ref (ad y 0)), (1, .int x1), (2, .int x2), (3, .int x3)]) hx hb dX9_lasts_43 hl (Nat.le_of_ble_eq_true rfl) rfl (fun ls hl => ?_)
    obtain ⟨n45, hw⟩ := hw
    exact z_X9_lasts_L45 l y x1 x2 x3 C  K  n45 (-9) 0 st35 H locs _ hG (lv_sub hl [3, 4, 5, 6, 1, 0] rfl) hw
  · replace hw := hw.2 hc
    refine lv_aload_n hx hb dX9_lasts_27 rfl (lv_at hl 1 rfl) ?_
    refine lv_iload hx hb dX9_lasts_28 (lv_at hl 0 rfl) ?_
    refine r_ki (r_run_V (k := 0) (As := [.int s0]) (rest := []) hx hb hml hown hts hK hN hG (c_X9_no l y s0 st _ hw) (by decide) rfl rfl rfl qM_X9_79 qI_X9_no qS_X9_no qN_X9 qC_X9_no hd_X9_no ⟨Nat.le_of_ble_eq_true rfl, Nat.le_of_ble_eq_true rfl⟩ hl.1 rfl (Nat.le_of_ble_eq_true rfl) dX9_lasts_30) hG (fun r30 st30 H locs hw hG => ?_)
    exact r_iret hx hb hr hlk hK hG rfl hw dX9_lasts_33
theorem hd_X9_lasts : yX9_lasts.cls ≠ "java/lang/invoke/MethodHandle" ∧ yX9_lasts.cls ≠ "java/lang/invoke/VarHandle" ∧ (parseMethodDescriptor yX9_lasts.desc).map (fun d => d.parameters.length) = some 3 := by decide +kernel
set_option maxRecDepth 100000 in
set_option maxHeartbeats 4000000 in
theorem c_X9_lasts (l : Launch) (y : Sy) (x1 : Int32) (x2 : Int32) (x3 : Int32) (st : St) (K : Int32 → St → Prop) (hw : w_X9_lasts x1 x2 x3 st K) : Ci 17 enM l yX9_lasts cX9_lasts 7 (some .int) 4 93 y [.ref (ad y 0), .int x1, .int x2, .int x3] st K := by
  refine ent (by decide) (Nat.le_of_ble_eq_true rfl) ?_
  intro p e s m below meth c C hG ls hl
  have hl : lv_has ls 7 [(0, .ref (ad y 0)), (1, .int x1), (2, .int x2), (3, .int x3)] := hl
  generalize ([.ref (ad y 0), .int x1, .int x2, .int x3] : List Value).toArray = args at C ⊢
  have C : Sd p s m args meth c cX9_lasts 7 RX9 (some .int) y := C
  obtain ⟨hx, hb, hml, hown, hts, hr, hlk, hK, hN⟩ := id C
  generalize s.heap = H at hG ⊢
  generalize ([] : List Loc) = locs at hG ⊢
  unfold w_X9_lasts at hw
  refine lv_aload_n hx hb dX9_lasts_0 rfl (lv_at hl 0 rfl) ?_
  refine lv_iload_n hx hb dX9_lasts_1 rfl (lv_at hl 1 rfl) ?_
  refine lv_iload_n hx hb dX9_lasts_2 rfl (lv_at hl 2 rfl) ?_
  refine r_ki (r_run_V (k := 0) (As := [.int x1, .int x2]) (rest := []) hx hb hml hown hts hK hN hG (c_X9_areTwo l y x1 x2 st _ hw) (by decide) rfl rfl rfl qM_X9_125 qI_X9_areTwo qS_X9_areTwo qN_X9 qC_X9_areTwo hd_X9_areTwo ⟨Nat.le_of_ble_eq_true rfl, Nat.le_of_ble_eq_true rfl⟩ hl.1 rfl (Nat.le_of_ble_eq_true rfl) dX9_lasts_3) hG (fun r3 st3 H locs hw hG => ?_)
  refine lv_if_ne (tgt := 13) hx hb dX9_lasts_6 (by decide) (fun hc => ?_) (fun hc => ?_)
  · replace hw := hw.1 hc
    refine lv_iload_n hx hb dX9_lasts_13 rfl (lv_at hl 3 rfl) ?_
    refine lv_iconst (v := 0) hx hb dX9_lasts_14 (by decide) ?_
    refine lv_bipush (v := 99) hx hb dX9_lasts_15 (by decide) ?_
    refine r_ki (r_run_S (As := [.int x3, .int 0, .int 99]) (rest := []) hx hb hml hown hts hK hN hG (c_X9_bound l y x3 0 99 st3 _ hw) qM_X9_72 qT_X9_bound qN_X9 qC_X9_bound hd_X9_bound ⟨Nat.le_of_ble_eq_true rfl, Nat.le_of_ble_eq_true rfl⟩ hl.1 rfl (Nat.le_of_ble_eq_true rfl) dX9_lasts_17) hG (fun r17 st17 H locs hw hG => ?_)
    exact z_X9_lasts_b20 l y x1 x2 x3 C  K  r17 st17 hG (lv_sub hl [0, 1, 2, 3] rfl) hw
  · replace hw := hw.2 hc
    refine lv_iconst (v := (-1)) hx hb dX9_lasts_9 (by decide) ?_
    refine lv_goto (tgt := 20) hx hb dX9_lasts_10 (by decide) ?_
    exact z_X9_lasts_b20 l y x1 x2 x3 C  K  (-1) st3 hG (lv_sub hl [0, 1, 2, 3] rfl) hw
set_option maxRecDepth 100000 in
set_option maxHeartbeats 4000000 in
theorem z_X9_firstOne_b42 {p : Program} {e : Env} {s : State} {m : MethodId} {args : Array Value} {below : List Frame} {meth : Method} {c : Code} (l : Launch) (y : Sy)  (C : Sd p s m args meth c cX9_firstOne 5 RX9 (some .int) y) (c8 : Int32 → Int32 → Int32 → St → Prop) (K : Int32 → St → Prop) (hc8 : ∀ (v1 : Int32) (v2 : Int32) (v3 : Int32) (st : St) (H : Heap) (locs : List Loc) (ls : Array Slot), gH 17 enM y st s H locs → lv_has ls 5 [(0, .ref (ad y 0)), (1, .int v1), (2, .int v2), (3, .int v3)] → c8 v1 v2 v3 st → W p l e (rmm 5 116) s m args below meth c H locs 0 0 (MQ below (va_Qi K (gB 17 enM y) (gA 17 y)) args s 0 0 (gA 17 y)) (F0 m 8 ls [])) (v1 : Int32) (v2 : Int32) (v3 : Int32) (st : St) {H : Heap} {locs : List Loc} {ls : Array Slot} (hG : gH 17 enM y st s H locs) (hl : lv_has ls 5 [(0, .ref (ad y 0)), (1, .int v1), (2, .int v2), (3, .int v3)]) (hw : w_X9_firstOne_b42  c8 K v1 v2 v3 st) : W p l e (rmm 5 116) s m args below meth c H locs 0 0 (MQ below (va_Qi K (gB 17 enM y) (gA 17 y)) args s 0 0 (gA 17 y)) (F0 m 42 ls []) := by
  obtain ⟨hx, hb, hml, hown, hts, hr, hlk, hK, hN⟩ := id C
  unfold w_X9_firstOne_b42 at hw
  refine lv_iinc (v := (v3 + 1)) (lv' := [(3, .int (v3 + 1)), (0, .ref (ad y 0)), (1, .int v1), (2, .int v2)]) hx hb dX9_firstOne_42 hl (k := 3) rfl rfl (Nat.le_of_ble_eq_true rfl) rfl (fun ls hl => ?_)
  refine lv_goto (tgt := 8) hx hb dX9_firstOne_45 (by decide) ?_
  exact hc8 v1 v2 (v3 + 1) st H locs _ hG (lv_sub hl [1, 2, 3, 0] rfl) hw
set_option maxRecDepth 100000 in
set_option maxHeartbeats 4000000 in
theorem z_X9_firstOne_L8 {p : Program} {e : Env} {s : State} {m : MethodId} {args : Array Value} {below : List Frame} {meth : Method} {c : Code} (l : Launch) (y : Sy)  (C : Sd p s m args meth c cX9_firstOne 5 RX9 (some .int) y)  (K : Int32 → St → Prop)  : ∀ (n : Nat) (v1 : Int32) (v2 : Int32) (v3 : Int32) (st : St) (H : Heap) (locs : List Loc) (ls : Array Slot), gH 17 enM y st s H locs → lv_has ls 5 [(0, .ref (ad y 0)), (1, .int v1), (2, .int v2), (3, .int v3)] → w_X9_firstOne_L8   K n v1 v2 v3 st → W p l e (rmm 5 116) s m args below meth c H locs 0 0 (MQ below (va_Qi K (gB 17 enM y) (gA 17 y)) args s 0 0 (gA 17 y)) (F0 m 8 ls []) := by
  obtain ⟨hx, hb, hml, hown, hts, hr, hlk, hK, hN⟩ := id C
  intro n
  induction n with
  | zero => intro v1 v2 v3 st H locs ls hG hl hw; exact False.elim hw
  | succ n hc8 =>
    intro v1 v2 v3 st H locs ls hG hl hw
    have hw : w_X9_firstOne_L8q   K (fun v1 v2 v3 st => w_X9_firstOne_L8   K n v1 v2 v3 st) v1 v2 v3 st := hw
    unfold w_X9_firstOne_L8q at hw
    refine lv_iload_n hx hb dX9_firstOne_8 rfl (lv_at hl 3 rfl) ?_
    refine lv_aload_n hx hb dX9_firstOne_9 rfl (lv_at hl 0 rfl) ?_
    refine r_get (C := RX9) (T := TX9) (Nf := 31) hx hb hts hown hK hG (by decide) rfl rfl inX9 9 (by decide) qF_X9_58 rfl dX9_firstOne_10 ?_
    refine lv_icmp_ge (tgt := 48) hx hb dX9_firstOne_13 (by decide) (fun hc => ?_) (fun hc => ?_)
    · replace hw := hw.1 hc
      refine lv_iload_n hx hb dX9_firstOne_48 rfl (lv_at hl 1 rfl) ?_
      exact r_iret hx hb hr hlk hK hG rfl hw dX9_firstOne_49
    · replace hw := hw.2 hc
      refine lv_aload_n hx hb dX9_firstOne_16 rfl (lv_at hl 0 rfl) ?_
      refine lv_iload_n hx hb dX9_firstOne_17 rfl (lv_at hl 3 rfl) ?_
      refine r_ki (r_run_V (k := 0) (As := [.int v3]) (rest := []) hx hb hml hown hts hK hN hG (c_X9_whenOf l y v3 st _ hw) (by decide) rfl rfl rfl qM_X9_238 qI_X9_whenOf qS_X9_whenOf qN_X9 qC_X9_whenOf hd_X9_whenOf ⟨Nat.le_of_ble_eq_true rfl, Nat.le_of_ble_eq_true rfl⟩ hl.1 rfl (Nat.le_of_ble_eq_true rfl) dX9_firstOne_18) hG (fun r18 st18 H locs hw hG => ?_)
      refine lv_istore (lv' := [(4, .int r18), (0, .ref (ad y 0)), (1, .int v1), (2, .int v2), (3, .int v3)]) hx hb dX9_firstOne_21 hl (Nat.le_of_ble_eq_true rfl) rfl (fun ls hl => ?_)
      refine lv_iload hx hb dX9_firstOne_23 (lv_at hl 0 rfl) ?_
      refine lv_if_le (tgt := 42) hx hb dX9_firstOne_25 (by decide) (fun hc => ?_) (fun hc => ?_)
      · replace hw := hw.1 hc
        exact z_X9_firstOne_b42 l y  C (fun v1 v2 v3 st => w_X9_firstOne_L8   K n v1 v2 v3 st) K hc8 v1 v2 v3 st18 hG (lv_sub hl [1, 2, 3, 4] rfl) hw
      · replace hw := hw.2 hc
        refine lv_iload hx hb dX9_firstOne_28 (lv_at hl 0 rfl) ?_
        refine lv_iload_n hx hb dX9_firstOne_30 rfl (lv_at hl 3 rfl) ?_
        refine lv_icmp_lt (tgt := 37) hx hb dX9_firstOne_31 (by decide) (fun hc => ?_) (fun hc => ?_)
        · replace hw := hw.1 hc
          refine lv_iload_n hx hb dX9_firstOne_37 rfl (lv_at hl 4 rfl) ?_
          refine lv_istore_n (lv' := [(1, .int v3), (4, .int r18), (0, .ref (ad y 0)), (2, .int v2), (3, .int v3)]) hx hb dX9_firstOne_38 rfl hl (Nat.le_of_ble_eq_true rfl) rfl (fun ls hl => ?_)
          refine lv_iload hx hb dX9_firstOne_39 (lv_at hl 1 rfl) ?_
          refine lv_istore_n (lv' := [(2, .int r18), (1, .int v3), (4, .int r18), (0, .ref (ad y 0)), (3, .int v3)]) hx hb dX9_firstOne_41 rfl hl (Nat.le_of_ble_eq_true rfl) rfl (fun ls hl => ?_)
          exact z_X9_firstOne_b42 l y  C (fun v1 v2 v3 st => w_X9_firstOne_L8   K n v1 v2 v3 st) K hc8 v3 r18 v3 st18 hG (lv_sub hl [3, 1, 0, 4] rfl) hw
        · replace hw := hw.2 hc
          refine lv_goto (tgt := 42) hx hb dX9_firstOne_34 (by decide) ?_
          exact z_X9_firstOne_b42 l y  C (fun v1 v2 v3 st => w_X9_firstOne_L8   K n v1 v2 v3 st) K hc8 v1 v2 v3 st18 hG (lv_sub hl [1, 2, 3, 4] rfl) hw
theorem hd_X9_firstOne : yX9_firstOne.cls ≠ "java/lang/invoke/MethodHandle" ∧ yX9_firstOne.cls ≠ "java/lang/invoke/VarHandle" ∧ (parseMethodDescriptor yX9_firstOne.desc).map (fun d => d.parameters.length) = some 0 := by decide +kernel
set_option maxRecDepth 100000 in
set_option maxHeartbeats 4000000 in
theorem c_X9_firstOne (l : Launch) (y : Sy)  (st : St) (K : Int32 → St → Prop) (hw : w_X9_firstOne  st K) : Ci 17 enM l yX9_firstOne cX9_firstOne 5 (some .int) 5 116 y [.ref (ad y 0)] st K := by
  refine ent (by decide) (Nat.le_of_ble_eq_true rfl) ?_
  intro p e s m below meth c C hG ls hl
  have hl : lv_has ls 5 [(0, .ref (ad y 0))] := hl
  generalize ([.ref (ad y 0)] : List Value).toArray = args at C ⊢
  have C : Sd p s m args meth c cX9_firstOne 5 RX9 (some .int) y := C
  obtain ⟨hx, hb, hml, hown, hts, hr, hlk, hK, hN⟩ := id C
  generalize s.heap = H at hG ⊢
  generalize ([] : List Loc) = locs at hG ⊢
  unfold w_X9_firstOne at hw
  refine lv_bipush (v := (-9)) hx hb dX9_firstOne_0 (by decide) ?_
  refine lv_istore_n (lv' := [(1, .int (-9)), (0, .ref (ad y 0))]) hx hb dX9_firstOne_2 rfl hl (Nat.le_of_ble_eq_true rfl) rfl (fun ls hl => ?_)
  refine lv_bipush (v := 61) hx hb dX9_firstOne_3 (by decide) ?_
  refine lv_istore_n (lv' := [(2, .int 61), (1, .int (-9)), (0, .ref (ad y 0))]) hx hb dX9_firstOne_5 rfl hl (Nat.le_of_ble_eq_true rfl) rfl (fun ls hl => ?_)
  refine lv_iconst (v := 0) hx hb dX9_firstOne_6 (by decide) ?_
  refine lv_istore_n (lv' := [(3, .int 0), (2, .int 61), (1, .int (-9)), (0, .ref (ad y 0))]) hx hb dX9_firstOne_7 rfl hl (Nat.le_of_ble_eq_true rfl) rfl (fun ls hl => ?_)
  obtain ⟨n8, hw⟩ := hw
  exact z_X9_firstOne_L8 l y  C  K  n8 (-9) 61 0 st H locs _ hG (lv_sub hl [3, 2, 1, 0] rfl) hw
theorem hd_X9_never : yX9_never.cls ≠ "java/lang/invoke/MethodHandle" ∧ yX9_never.cls ≠ "java/lang/invoke/VarHandle" ∧ (parseMethodDescriptor yX9_never.desc).map (fun d => d.parameters.length) = some 1 := by decide +kernel
set_option maxRecDepth 100000 in
set_option maxHeartbeats 4000000 in
theorem c_X9_never (l : Launch) (y : Sy) (x1 : Int32) (st : St) (K : Int32 → St → Prop) (hw : w_X9_never x1 st K) : Ci 17 enM l yX9_never cX9_never 2 (some .int) 6 140 y [.ref (ad y 0), .int x1] st K := by
  refine ent (by decide) (Nat.le_of_ble_eq_true rfl) ?_
  intro p e s m below meth c C hG ls hl
  have hl : lv_has ls 2 [(0, .ref (ad y 0)), (1, .int x1)] := hl
  generalize ([.ref (ad y 0), .int x1] : List Value).toArray = args at C ⊢
  have C : Sd p s m args meth c cX9_never 2 RX9 (some .int) y := C
  obtain ⟨hx, hb, hml, hown, hts, hr, hlk, hK, hN⟩ := id C
  generalize s.heap = H at hG ⊢
  generalize ([] : List Loc) = locs at hG ⊢
  unfold w_X9_never at hw
  refine lv_iload_n hx hb dX9_never_0 rfl (lv_at hl 1 rfl) ?_
  refine lv_iconst (v := 0) hx hb dX9_never_1 (by decide) ?_
  refine lv_iconst (v := 1) hx hb dX9_never_2 (by decide) ?_
  refine r_ki (r_run_S (As := [.int x1, .int 0, .int 1]) (rest := []) hx hb hml hown hts hK hN hG (c_X9_isIn l y x1 0 1 st _ hw) qM_X9_90 qT_X9_isIn qN_X9 qC_X9_isIn hd_X9_isIn ⟨Nat.le_of_ble_eq_true rfl, Nat.le_of_ble_eq_true rfl⟩ hl.1 rfl (Nat.le_of_ble_eq_true rfl) dX9_never_3) hG (fun r3 st3 H locs hw hG => ?_)
  refine lv_if_ne (tgt := 16) hx hb dX9_never_6 (by decide) (fun hc => ?_) (fun hc => ?_)
  · replace hw := hw.1 hc
    refine lv_iload_n hx hb dX9_never_16 rfl (lv_at hl 1 rfl) ?_
    refine lv_if_ne (tgt := 40) hx hb dX9_never_17 (by decide) (fun hc => ?_) (fun hc => ?_)
    · replace hw := hw.1 hc
      refine lv_aload_n hx hb dX9_never_40 rfl (lv_at hl 0 rfl) ?_
      refine r_ki (r_run_V (k := 0) (As := []) (rest := []) hx hb hml hown hts hK hN hG (c_X9_firstOne l y  st3 _ hw) (by decide) rfl rfl rfl qM_X9_241 qI_X9_firstOne qS_X9_firstOne qN_X9 qC_X9_firstOne hd_X9_firstOne ⟨Nat.le_of_ble_eq_true rfl, Nat.le_of_ble_eq_true rfl⟩ hl.1 rfl (Nat.le_of_ble_eq_true rfl) dX9_never_41) hG (fun r41 st41 H locs hw hG => ?_)
      exact r_iret hx hb hr hlk hK hG rfl hw dX9_never_44
    · replace hw := hw.2 hc
      refine lv_iconst (v := 1) hx hb dX9_never_20 (by decide) ?_
      refine lv_aload_n hx hb dX9_never_21 rfl (lv_at hl 0 rfl) ?_
      refine r_get (C := RX9) (T := TX9) (Nf := 31) hx hb hts hown hK hG (by decide) rfl rfl inX9 9 (by decide) qF_X9_58 rfl dX9_never_22 ?_
      refine lv_ishl hx hb dX9_never_25 ?_
      refine lv_iconst (v := 1) hx hb dX9_never_26 (by decide) ?_
      refine lv_isub hx hb dX9_never_27 ?_
      refine lv_aload_n hx hb dX9_never_28 rfl (lv_at hl 0 rfl) ?_
      refine lv_bipush (v := 60) hx hb dX9_never_29 (by decide) ?_
      refine r_ki (r_run_V (k := 0) (As := [.int 60]) (rest := [.int (((1 : Int32) <<< ((st3 0 9) &&& 31)) - 1)]) hx hb hml hown hts hK hN hG (c_X9_openIn l y 60 st3 _ hw) (by decide) rfl rfl rfl qM_X9_229 qI_X9_openIn qS_X9_openIn qN_X9 qC_X9_openIn hd_X9_openIn ⟨Nat.le_of_ble_eq_true rfl, Nat.le_of_ble_eq_true rfl⟩ hl.1 rfl (Nat.le_of_ble_eq_true rfl) dX9_never_31) hG (fun r31 st31 H locs hw hG => ?_)
      refine lv_iconst (v := (-1)) hx hb dX9_never_34 (by decide) ?_
      refine lv_ixor hx hb dX9_never_35 ?_
      refine lv_iand hx hb dX9_never_36 ?_
      refine lv_goto (tgt := 44) hx hb dX9_never_37 (by decide) ?_
      exact r_iret hx hb hr hlk hK hG rfl hw dX9_never_44
  · replace hw := hw.2 hc
    refine lv_aload_n hx hb dX9_never_9 rfl (lv_at hl 0 rfl) ?_
    refine lv_bipush (v := (-2)) hx hb dX9_never_10 (by decide) ?_
    refine r_ki (r_run_V (k := 0) (As := [.int (-2)]) (rest := []) hx hb hml hown hts hK hN hG (c_X9_no l y (-2) st3 _ hw) (by decide) rfl rfl rfl qM_X9_79 qI_X9_no qS_X9_no qN_X9 qC_X9_no hd_X9_no ⟨Nat.le_of_ble_eq_true rfl, Nat.le_of_ble_eq_true rfl⟩ hl.1 rfl (Nat.le_of_ble_eq_true rfl) dX9_never_12) hG (fun r12 st12 H locs hw hG => ?_)
    exact r_iret hx hb hr hlk hK hG rfl hw dX9_never_15
set_option maxRecDepth 100000 in
set_option maxHeartbeats 4000000 in
theorem z_X9_isOpenedBy_b52 {p : Program} {e : Env} {s : State} {m : MethodId} {args : Array Value} {below : List Frame} {meth : Method} {c : Code} (l : Launch) (y : Sy) (x1 : Int32) (x2 : Int32) (x3 : Int32) (C : Sd p s m args meth c cX9_isOpenedBy 5 RX9 (some .boolean) y)  (K : Int32 → St → Prop)  (s0 : Int32) (st : St) {H : Heap} {locs : List Loc} {ls : Array Slot} (hG : gH 17 enM y st s H locs) (hl : lv_has ls 5 [(0, .ref (ad y 0))]) (hw : w_X9_isOpenedBy_b52 x1 x2 x3  K s0 st) : W p l e (rmm 4 93) s m args below meth c H locs 0 0 (MQ below (va_Qi K (gB 17 enM y) (gA 17 y)) args s 0 0 (gA 17 y)) (F0 m 52 ls [.int s0]) := by
  obtain ⟨hx, hb, hml, hown, hts, hr, hlk, hK, hN⟩ := id C
  unfold w_X9_isOpenedBy_b52 at hw
  refine lv_istore (lv' := [(4, .int s0), (0, .ref (ad y 0))]) hx hb dX9_isOpenedBy_52 hl (Nat.le_of_ble_eq_true rfl) rfl (fun ls hl => ?_)
  refine lv_aload_n hx hb dX9_isOpenedBy_54 rfl (lv_at hl 1 rfl) ?_
  refine r_kv (r_run_V (k := 0) (As := []) (rest := []) hx hb hml hown hts hK hN hG (c_X9_forgets l y  st _ hw) (by decide) rfl rfl rfl qM_X9_220 qI_X9_forgets qS_X9_forgets qN_X9 qC_X9_forgets hd_X9_forgets ⟨Nat.le_of_ble_eq_true rfl, Nat.le_of_ble_eq_true rfl⟩ hl.1 rfl (Nat.le_of_ble_eq_true rfl) dX9_isOpenedBy_55) hG (fun st55 H locs hw hG => ?_)
  refine lv_iload hx hb dX9_isOpenedBy_58 (lv_at hl 0 rfl) ?_
  exact r_iret hx hb hr hlk hK hG (r_nb hw.1) hw.2 dX9_isOpenedBy_60
set_option maxRecDepth 100000 in
set_option maxHeartbeats 4000000 in
theorem z_X9_isOpenedBy_b51 {p : Program} {e : Env} {s : State} {m : MethodId} {args : Array Value} {below : List Frame} {meth : Method} {c : Code} (l : Launch) (y : Sy) (x1 : Int32) (x2 : Int32) (x3 : Int32) (C : Sd p s m args meth c cX9_isOpenedBy 5 RX9 (some .boolean) y)  (K : Int32 → St → Prop)   (st : St) {H : Heap} {locs : List Loc} {ls : Array Slot} (hG : gH 17 enM y st s H locs) (hl : lv_has ls 5 [(0, .ref (ad y 0))]) (hw : w_X9_isOpenedBy_b51 x1 x2 x3  K  st) : W p l e (rmm 4 93) s m args below meth c H locs 0 0 (MQ below (va_Qi K (gB 17 enM y) (gA 17 y)) args s 0 0 (gA 17 y)) (F0 m 51 ls []) := by
  obtain ⟨hx, hb, hml, hown, hts, hr, hlk, hK, hN⟩ := id C
  unfold w_X9_isOpenedBy_b51 at hw
  refine lv_iconst (v := 0) hx hb dX9_isOpenedBy_51 (by decide) ?_
  exact z_X9_isOpenedBy_b52 l y x1 x2 x3 C  K  0 st hG (lv_sub hl [0] rfl) hw
set_option maxRecDepth 100000 in
set_option maxHeartbeats 4000000 in
theorem z_X9_isOpenedBy_b44 {p : Program} {e : Env} {s : State} {m : MethodId} {args : Array Value} {below : List Frame} {meth : Method} {c : Code} (l : Launch) (y : Sy) (x1 : Int32) (x2 : Int32) (x3 : Int32) (C : Sd p s m args meth c cX9_isOpenedBy 5 RX9 (some .boolean) y)  (K : Int32 → St → Prop)  (s0 : Int32) (s1 : Int32) (st : St) {H : Heap} {locs : List Loc} {ls : Array Slot} (hG : gH 17 enM y st s H locs) (hl : lv_has ls 5 [(0, .ref (ad y 0))]) (hw : w_X9_isOpenedBy_b44 x1 x2 x3  K s0 s1 st) : W p l e (rmm 4 93) s m args below meth c H locs 0 0 (MQ below (va_Qi K (gB 17 enM y) (gA 17 y)) args s 0 0 (gA 17 y)) (F0 m 44 ls [.int s0, .int s1]) := by
  obtain ⟨hx, hb, hml, hown, hts, hr, hlk, hK, hN⟩ := id C
  unfold w_X9_isOpenedBy_b44 at hw
  refine lv_icmp_ne (tgt := 51) hx hb dX9_isOpenedBy_44 (by decide) (fun hc => ?_) (fun hc => ?_)
  · replace hw := hw.1 hc
    exact z_X9_isOpenedBy_b51 l y x1 x2 x3 C  K  st hG (lv_sub hl [0] rfl) hw
  · replace hw := hw.2 hc
    refine lv_iconst (v := 1) hx hb dX9_isOpenedBy_47 (by decide) ?_
    refine lv_goto (tgt := 52) hx hb dX9_isOpenedBy_48 (by decide) ?_
    exact z_X9_isOpenedBy_b52 l y x1 x2 x3 C  K  1 st hG (lv_sub hl [0] rfl) hw
theorem hd_X9_isOpenedBy : yX9_isOpenedBy.cls ≠ "java/lang/invoke/MethodHandle" ∧ yX9_isOpenedBy.cls ≠ "java/lang/invoke/VarHandle" ∧ (parseMethodDescriptor yX9_isOpenedBy.desc).map (fun d => d.parameters.length) = some 3 := by decide +kernel
set_option maxRecDepth 100000 in
set_option maxHeartbeats 4000000 in
theorem c_X9_isOpenedBy (l : Launch) (y : Sy) (x1 : Int32) (x2 : Int32) (x3 : Int32) (st : St) (K : Int32 → St → Prop) (hw : w_X9_isOpenedBy x1 x2 x3 st K) : Ci 17 enM l yX9_isOpenedBy cX9_isOpenedBy 5 (some .boolean) 4 93 y [.ref (ad y 0), .int x1, .int x2, .int x3] st K := by
  refine ent (by decide) (Nat.le_of_ble_eq_true rfl) ?_
  intro p e s m below meth c C hG ls hl
  have hl : lv_has ls 5 [(0, .ref (ad y 0)), (1, .int x1), (2, .int x2), (3, .int x3)] := hl
  generalize ([.ref (ad y 0), .int x1, .int x2, .int x3] : List Value).toArray = args at C ⊢
  have C : Sd p s m args meth c cX9_isOpenedBy 5 RX9 (some .boolean) y := C
  obtain ⟨hx, hb, hml, hown, hts, hr, hlk, hK, hN⟩ := id C
  generalize s.heap = H at hG ⊢
  generalize ([] : List Loc) = locs at hG ⊢
  unfold w_X9_isOpenedBy at hw
  refine lv_aload_n hx hb dX9_isOpenedBy_0 rfl (lv_at hl 0 rfl) ?_
  refine r_kv (r_run_V (k := 0) (As := []) (rest := []) hx hb hml hown hts hK hN hG (c_X9_thinks l y  st _ hw) (by decide) rfl rfl rfl qM_X9_217 qI_X9_thinks qS_X9_thinks qN_X9 qC_X9_thinks hd_X9_thinks ⟨Nat.le_of_ble_eq_true rfl, Nat.le_of_ble_eq_true rfl⟩ hl.1 rfl (Nat.le_of_ble_eq_true rfl) dX9_isOpenedBy_1) hG (fun st1 H locs hw hG => ?_)
  refine lv_aload_n hx hb dX9_isOpenedBy_4 rfl (lv_at hl 0 rfl) ?_
  refine r_kv (r_run_V (k := 0) (As := []) (rest := []) hx hb hml hown hts hK hN hG (c_X9_goesWeek l y  st1 _ hw) (by decide) rfl rfl rfl qM_X9_202 qI_X9_goesWeek qS_X9_goesWeek qN_X9 qC_X9_goesWeek hd_X9_goesWeek ⟨Nat.le_of_ble_eq_true rfl, Nat.le_of_ble_eq_true rfl⟩ hl.1 rfl (Nat.le_of_ble_eq_true rfl) dX9_isOpenedBy_5) hG (fun st5 H locs hw hG => ?_)
  refine lv_aload_n hx hb dX9_isOpenedBy_8 rfl (lv_at hl 0 rfl) ?_
  refine r_get (C := RX9) (T := TX9) (Nf := 31) hx hb hts hown hK hG (by decide) rfl rfl inX9 7 (by decide) qF_X9_31 rfl dX9_isOpenedBy_9 ?_
  refine lv_iload_n hx hb dX9_isOpenedBy_12 rfl (lv_at hl 3 rfl) ?_
  obtain ⟨hi, hw⟩ := hw
  refine r_iald hx hb hK hG (isB_8).1 ((isB_8).2 y _) hi dX9_isOpenedBy_13 ?_
  refine lv_iconst (v := 1) hx hb dX9_isOpenedBy_14 (by decide) ?_
  refine lv_icmp_ne (tgt := 51) hx hb dX9_isOpenedBy_15 (by decide) (fun hc => ?_) (fun hc => ?_)
  · replace hw := hw.1 hc
    exact z_X9_isOpenedBy_b51 l y x1 x2 x3 C  K  st5 hG (lv_sub hl [0] rfl) hw
  · replace hw := hw.2 hc
    refine lv_aload_n hx hb dX9_isOpenedBy_18 rfl (lv_at hl 0 rfl) ?_
    refine r_get (C := RX9) (T := TX9) (Nf := 31) hx hb hts hown hK hG (by decide) rfl rfl inX9 24 (by decide) qF_X9_49 rfl dX9_isOpenedBy_19 ?_
    refine lv_iload_n hx hb dX9_isOpenedBy_22 rfl (lv_at hl 3 rfl) ?_
    obtain ⟨hi, hw⟩ := hw
    refine r_iald hx hb hK hG (isB_14).1 ((isB_14).2 y _) hi dX9_isOpenedBy_23 ?_
    refine lv_iload_n hx hb dX9_isOpenedBy_24 rfl (lv_at hl 1 rfl) ?_
    refine lv_iload_n hx hb dX9_isOpenedBy_25 rfl (lv_at hl 2 rfl) ?_
    refine lv_icmp_ge (tgt := 38) hx hb dX9_isOpenedBy_26 (by decide) (fun hc => ?_) (fun hc => ?_)
    · replace hw := hw.1 hc
      refine lv_bipush (v := 10) hx hb dX9_isOpenedBy_38 (by decide) ?_
      refine lv_iload_n hx hb dX9_isOpenedBy_40 rfl (lv_at hl 2 rfl) ?_
      refine lv_imul hx hb dX9_isOpenedBy_41 ?_
      refine lv_iload_n hx hb dX9_isOpenedBy_42 rfl (lv_at hl 1 rfl) ?_
      refine lv_iadd hx hb dX9_isOpenedBy_43 ?_
      exact z_X9_isOpenedBy_b44 l y x1 x2 x3 C  K  ((10 * x2) + x1) (st5 14 (x3).toNatClampNeg) st5 hG (lv_sub hl [0] rfl) hw
    · replace hw := hw.2 hc
      refine lv_bipush (v := 10) hx hb dX9_isOpenedBy_29 (by decide) ?_
      refine lv_iload_n hx hb dX9_isOpenedBy_31 rfl (lv_at hl 1 rfl) ?_
      refine lv_imul hx hb dX9_isOpenedBy_32 ?_
      refine lv_iload_n hx hb dX9_isOpenedBy_33 rfl (lv_at hl 2 rfl) ?_
      refine lv_iadd hx hb dX9_isOpenedBy_34 ?_
      refine lv_goto (tgt := 44) hx hb dX9_isOpenedBy_35 (by decide) ?_
      exact z_X9_isOpenedBy_b44 l y x1 x2 x3 C  K  ((10 * x1) + x2) (st5 14 (x3).toNatClampNeg) st5 hG (lv_sub hl [0] rfl) hw
set_option maxRecDepth 100000 in
set_option maxHeartbeats 4000000 in
theorem z_X9_insult_b112 {p : Program} {e : Env} {s : State} {m : MethodId} {args : Array Value} {below : List Frame} {meth : Method} {c : Code} (l : Launch) (y : Sy) (x1 : Int32) (x2 : Int32) (x3 : Int32) (C : Sd p s m args meth c cX9_insult 8 RX9 (some .int) y) (c66 : Int32 → Int32 → Int32 → St → Prop) (K : Int32 → St → Prop) (hc66 : ∀ (v5 : Int32) (v6 : Int32) (v7 : Int32) (st : St) (H : Heap) (locs : List Loc) (ls : Array Slot), gH 17 enM y st s H locs → lv_has ls 8 [(0, .ref (ad y 0)), (1, .int x1), (2, .int x2), (3, .int x3), (5, .int v5), (6, .int v6), (7, .int v7)] → c66 v5 v6 v7 st → W p l e (rmm 5 117) s m args below meth c H locs 0 0 (MQ below (va_Qi K (gB 17 enM y) (gA 17 y)) args s 0 0 (gA 17 y)) (F0 m 66 ls [])) (v5 : Int32) (v7 : Int32) (s0 : Int32) (st : St) {H : Heap} {locs : List Loc} {ls : Array Slot} (hG : gH 17 enM y st s H locs) (hl : lv_has ls 8 [(0, .ref (ad y 0)), (1, .int x1), (2, .int x2), (3, .int x3), (5, .int v5), (7, .int v7)]) (hw : w_X9_insult_b112 x1 x2 x3 c66 K v5 v7 s0 st) : W p l e (rmm 5 117) s m args below meth c H locs 0 0 (MQ below (va_Qi K (gB 17 enM y) (gA 17 y)) args s 0 0 (gA 17 y)) (F0 m 112 ls [.int s0]) := by
  obtain ⟨hx, hb, hml, hown, hts, hr, hlk, hK, hN⟩ := id C
  unfold w_X9_insult_b112 at hw
  refine lv_istore (lv' := [(6, .int s0), (0, .ref (ad y 0)), (1, .int x1), (2, .int x2), (3, .int x3), (5, .int v5), (7, .int v7)]) hx hb dX9_insult_112 hl (Nat.le_of_ble_eq_true rfl) rfl (fun ls hl => ?_)
  refine lv_iinc (v := (v7 + 1)) (lv' := [(7, .int (v7 + 1)), (6, .int s0), (0, .ref (ad y 0)), (1, .int x1), (2, .int x2), (3, .int x3), (5, .int v5)]) hx hb dX9_insult_114 hl (k := 6) rfl rfl (Nat.le_of_ble_eq_true rfl) rfl (fun ls hl => ?_)
  refine lv_goto (tgt := 66) hx hb dX9_insult_117 (by decide) ?_
  exact hc66 v5 s0 (v7 + 1) st H locs _ hG (lv_sub hl [2, 3, 4, 5, 6, 1, 0] rfl) hw
set_option maxRecDepth 100000 in
set_option maxHeartbeats 4000000 in
theorem z_X9_insult_b120 {p : Program} {e : Env} {s : State} {m : MethodId} {args : Array Value} {below : List Frame} {meth : Method} {c : Code} (l : Launch) (y : Sy) (x1 : Int32) (x2 : Int32) (x3 : Int32) (C : Sd p s m args meth c cX9_insult 8 RX9 (some .int) y)  (K : Int32 → St → Prop)  (v5 : Int32) (v6 : Int32) (st : St) {H : Heap} {locs : List Loc} {ls : Array Slot} (hG : gH 17 enM y st s H locs) (hl : lv_has ls 8 [(0, .ref (ad y 0)), (1, .int x1), (2, .int x2), (5, .int v5), (6, .int v6)]) (hw : w_X9_insult_b120 x1 x2 x3  K v5 v6 st) : W p l e (rmm 5 117) s m args below meth c H locs 0 0 (MQ below (va_Qi K (gB 17 enM y) (gA 17 y)) args s 0 0 (gA 17 y)) (F0 m 120 ls []) := by
  obtain ⟨hx, hb, hml, hown, hts, hr, hlk, hK, hN⟩ := id C
  unfold w_X9_insult_b120 at hw
  refine lv_aload_n hx hb dX9_insult_120 rfl (lv_at hl 0 rfl) ?_
  refine lv_iload_n hx hb dX9_insult_121 rfl (lv_at hl 1 rfl) ?_
  refine lv_iload_n hx hb dX9_insult_122 rfl (lv_at hl 2 rfl) ?_
  refine lv_iload hx hb dX9_insult_123 (lv_at hl 3 rfl) ?_
  refine r_kv (r_run_V (k := 0) (As := [.int x1, .int x2, .int v5]) (rest := []) hx hb hml hown hts hK hN hG (c_X9_sets l y x1 x2 v5 st _ hw) (by decide) rfl rfl rfl qM_X9_128 qI_X9_sets qS_X9_sets qN_X9 qC_X9_sets hd_X9_sets ⟨Nat.le_of_ble_eq_true rfl, Nat.le_of_ble_eq_true rfl⟩ hl.1 rfl (Nat.le_of_ble_eq_true rfl) dX9_insult_125) hG (fun st125 H locs hw hG => ?_)
  refine lv_iload hx hb dX9_insult_128 (lv_at hl 4 rfl) ?_
  exact r_iret hx hb hr hlk hK hG rfl hw dX9_insult_130
set_option maxRecDepth 100000 in
set_option maxHeartbeats 4000000 in
theorem z_X9_insult_L66 {p : Program} {e : Env} {s : State} {m : MethodId} {args : Array Value} {below : List Frame} {meth : Method} {c : Code} (l : Launch) (y : Sy) (x1 : Int32) (x2 : Int32) (x3 : Int32) (C : Sd p s m args meth c cX9_insult 8 RX9 (some .int) y)  (K : Int32 → St → Prop)  : ∀ (n : Nat) (v5 : Int32) (v6 : Int32) (v7 : Int32) (st : St) (H : Heap) (locs : List Loc) (ls : Array Slot), gH 17 enM y st s H locs → lv_has ls 8 [(0, .ref (ad y 0)), (1, .int x1), (2, .int x2), (3, .int x3), (5, .int v5), (6, .int v6), (7, .int v7)] → w_X9_insult_L66 x1 x2 x3  K n v5 v6 v7 st → W p l e (rmm 5 117) s m args below meth c H locs 0 0 (MQ below (va_Qi K (gB 17 enM y) (gA 17 y)) args s 0 0 (gA 17 y)) (F0 m 66 ls []) := by
  obtain ⟨hx, hb, hml, hown, hts, hr, hlk, hK, hN⟩ := id C
  intro n
  induction n with
  | zero => intro v5 v6 v7 st H locs ls hG hl hw; exact False.elim hw
  | succ n hc66 =>
    intro v5 v6 v7 st H locs ls hG hl hw
    have hw : w_X9_insult_L66q x1 x2 x3  K (fun v5 v6 v7 st => w_X9_insult_L66 x1 x2 x3  K n v5 v6 v7 st) v5 v6 v7 st := hw
    unfold w_X9_insult_L66q at hw
    refine lv_iload hx hb dX9_insult_66 (lv_at hl 6 rfl) ?_
    refine lv_bipush (v := 99) hx hb dX9_insult_68 (by decide) ?_
    refine lv_icmp_gt (tgt := 120) hx hb dX9_insult_70 (by decide) (fun hc => ?_) (fun hc => ?_)
    · replace hw := hw.1 hc
      exact z_X9_insult_b120 l y x1 x2 x3 C  K  v5 v6 st hG (lv_sub hl [0, 1, 2, 4, 5] rfl) hw
    · replace hw := hw.2 hc
      refine lv_iload hx hb dX9_insult_73 (lv_at hl 5 rfl) ?_
      refine lv_if_ge (tgt := 120) hx hb dX9_insult_75 (by decide) (fun hc => ?_) (fun hc => ?_)
      · replace hw := hw.1 hc
        exact z_X9_insult_b120 l y x1 x2 x3 C  K  v5 v6 st hG (lv_sub hl [0, 1, 2, 4, 5] rfl) hw
      · replace hw := hw.2 hc
        refine lv_aload_n hx hb dX9_insult_78 rfl (lv_at hl 0 rfl) ?_
        refine lv_iload_n hx hb dX9_insult_79 rfl (lv_at hl 1 rfl) ?_
        refine lv_iload_n hx hb dX9_insult_80 rfl (lv_at hl 2 rfl) ?_
        refine lv_iload hx hb dX9_insult_81 (lv_at hl 4 rfl) ?_
        refine lv_iload hx hb dX9_insult_83 (lv_at hl 6 rfl) ?_
        refine lv_iadd hx hb dX9_insult_85 ?_
        refine lv_iconst (v := 0) hx hb dX9_insult_86 (by decide) ?_
        refine lv_bipush (v := 99) hx hb dX9_insult_87 (by decide) ?_
        refine r_ki (r_run_S (As := [.int (v5 + v7), .int 0, .int 99]) (rest := [.int x2, .int x1, .ref (ad y 0)]) hx hb hml hown hts hK hN hG (c_X9_held l y (v5 + v7) 0 99 st _ hw) qM_X9_187 qT_X9_held qN_X9 qC_X9_held hd_X9_held ⟨Nat.le_of_ble_eq_true rfl, Nat.le_of_ble_eq_true rfl⟩ hl.1 rfl (Nat.le_of_ble_eq_true rfl) dX9_insult_89) hG (fun r89 st89 H locs hw hG => ?_)
        refine r_kv (r_run_V (k := 0) (As := [.int x1, .int x2, .int r89]) (rest := []) hx hb hml hown hts hK hN hG (c_X9_sets l y x1 x2 r89 st89 _ hw) (by decide) rfl rfl rfl qM_X9_128 qI_X9_sets qS_X9_sets qN_X9 qC_X9_sets hd_X9_sets ⟨Nat.le_of_ble_eq_true rfl, Nat.le_of_ble_eq_true rfl⟩ hl.1 rfl (Nat.le_of_ble_eq_true rfl) dX9_insult_92) hG (fun st92 H locs hw hG => ?_)
        refine lv_aload_n hx hb dX9_insult_95 rfl (lv_at hl 0 rfl) ?_
        refine lv_iload_n hx hb dX9_insult_96 rfl (lv_at hl 1 rfl) ?_
        refine lv_iload_n hx hb dX9_insult_97 rfl (lv_at hl 2 rfl) ?_
        refine lv_iload_n hx hb dX9_insult_98 rfl (lv_at hl 3 rfl) ?_
        refine r_ki (r_run_V (k := 0) (As := [.int x1, .int x2, .int x3]) (rest := []) hx hb hml hown hts hK hN hG (c_X9_isOpenedBy l y x1 x2 x3 st92 _ hw) (by decide) rfl rfl rfl qM_X9_244 qI_X9_isOpenedBy qS_X9_isOpenedBy qN_X9 qC_X9_isOpenedBy hd_X9_isOpenedBy ⟨Nat.le_of_ble_eq_true rfl, Nat.le_of_ble_eq_true rfl⟩ hl.1 rfl (Nat.le_of_ble_eq_true rfl) dX9_insult_99) hG (fun r99 st99 H locs hw hG => ?_)
        refine lv_if_eq (tgt := 110) hx hb dX9_insult_102 (by decide) (fun hc => ?_) (fun hc => ?_)
        · replace hw := hw.1 hc
          refine lv_bipush (v := (-9)) hx hb dX9_insult_110 (by decide) ?_
          exact z_X9_insult_b112 l y x1 x2 x3 C (fun v5 v6 v7 st => w_X9_insult_L66 x1 x2 x3  K n v5 v6 v7 st) K hc66 v5 v7 (-9) st99 hG (lv_sub hl [0, 1, 2, 3, 4, 6] rfl) hw
        · replace hw := hw.2 hc
          refine lv_iload hx hb dX9_insult_105 (lv_at hl 6 rfl) ?_
          refine lv_goto (tgt := 112) hx hb dX9_insult_107 (by decide) ?_
          exact z_X9_insult_b112 l y x1 x2 x3 C (fun v5 v6 v7 st => w_X9_insult_L66 x1 x2 x3  K n v5 v6 v7 st) K hc66 v5 v7 v7 st99 hG (lv_sub hl [0, 1, 2, 3, 4, 6] rfl) hw
set_option maxRecDepth 100000 in
set_option maxHeartbeats 4000000 in
theorem z_X9_insult_b37 {p : Program} {e : Env} {s : State} {m : MethodId} {args : Array Value} {below : List Frame} {meth : Method} {c : Code} (l : Launch) (y : Sy) (x1 : Int32) (x2 : Int32) (x3 : Int32) (C : Sd p s m args meth c cX9_insult 8 RX9 (some .int) y)  (K : Int32 → St → Prop)  (s0 : Int32) (st : St) {H : Heap} {locs : List Loc} {ls : Array Slot} (hG : gH 17 enM y st s H locs) (hl : lv_has ls 8 [(0, .ref (ad y 0)), (1, .int x1), (2, .int x2), (3, .int x3)]) (hw : w_X9_insult_b37 x1 x2 x3  K s0 st) : W p l e (rmm 5 117) s m args below meth c H locs 0 0 (MQ below (va_Qi K (gB 17 enM y) (gA 17 y)) args s 0 0 (gA 17 y)) (F0 m 37 ls [.int s0]) := by
  obtain ⟨hx, hb, hml, hown, hts, hr, hlk, hK, hN⟩ := id C
  unfold w_X9_insult_b37 at hw
  refine lv_istore (lv' := [(4, .int s0), (0, .ref (ad y 0)), (1, .int x1), (2, .int x2), (3, .int x3)]) hx hb dX9_insult_37 hl (Nat.le_of_ble_eq_true rfl) rfl (fun ls hl => ?_)
  refine lv_iload hx hb dX9_insult_39 (lv_at hl 0 rfl) ?_
  refine lv_if_eq (tgt := 51) hx hb dX9_insult_41 (by decide) (fun hc => ?_) (fun hc => ?_)
  · replace hw := hw.1 hc
    refine lv_aload_n hx hb dX9_insult_51 rfl (lv_at hl 1 rfl) ?_
    refine lv_iload_n hx hb dX9_insult_52 rfl (lv_at hl 2 rfl) ?_
    refine lv_iload_n hx hb dX9_insult_53 rfl (lv_at hl 3 rfl) ?_
    refine r_ki (r_run_V (k := 0) (As := [.int x1, .int x2]) (rest := []) hx hb hml hown hts hK hN hG (c_X9_hateOf l y x1 x2 st _ hw) (by decide) rfl rfl rfl qM_X9_180 qI_X9_hateOf qS_X9_hateOf qN_X9 qC_X9_hateOf hd_X9_hateOf ⟨Nat.le_of_ble_eq_true rfl, Nat.le_of_ble_eq_true rfl⟩ hl.1 rfl (Nat.le_of_ble_eq_true rfl) dX9_insult_54) hG (fun r54 st54 H locs hw hG => ?_)
    refine lv_istore (lv' := [(5, .int r54), (4, .int s0), (0, .ref (ad y 0)), (1, .int x1), (2, .int x2), (3, .int x3)]) hx hb dX9_insult_57 hl (Nat.le_of_ble_eq_true rfl) rfl (fun ls hl => ?_)
    refine lv_bipush (v := (-9)) hx hb dX9_insult_59 (by decide) ?_
    refine lv_istore (lv' := [(6, .int (-9)), (5, .int r54), (4, .int s0), (0, .ref (ad y 0)), (1, .int x1), (2, .int x2), (3, .int x3)]) hx hb dX9_insult_61 hl (Nat.le_of_ble_eq_true rfl) rfl (fun ls hl => ?_)
    refine lv_iconst (v := 0) hx hb dX9_insult_63 (by decide) ?_
    refine lv_istore (lv' := [(7, .int 0), (6, .int (-9)), (5, .int r54), (4, .int s0), (0, .ref (ad y 0)), (1, .int x1), (2, .int x2), (3, .int x3)]) hx hb dX9_insult_64 hl (Nat.le_of_ble_eq_true rfl) rfl (fun ls hl => ?_)
    obtain ⟨n66, hw⟩ := hw
    exact z_X9_insult_L66 l y x1 x2 x3 C  K  n66 r54 (-9) 0 st54 H locs _ hG (lv_sub hl [4, 5, 6, 7, 2, 1, 0] rfl) hw
  · replace hw := hw.2 hc
    refine lv_aload_n hx hb dX9_insult_44 rfl (lv_at hl 1 rfl) ?_
    refine lv_iload hx hb dX9_insult_45 (lv_at hl 0 rfl) ?_
    refine r_ki (r_run_V (k := 0) (As := [.int s0]) (rest := []) hx hb hml hown hts hK hN hG (c_X9_no l y s0 st _ hw) (by decide) rfl rfl rfl qM_X9_79 qI_X9_no qS_X9_no qN_X9 qC_X9_no hd_X9_no ⟨Nat.le_of_ble_eq_true rfl, Nat.le_of_ble_eq_true rfl⟩ hl.1 rfl (Nat.le_of_ble_eq_true rfl) dX9_insult_47) hG (fun r47 st47 H locs hw hG => ?_)
    exact r_iret hx hb hr hlk hK hG rfl hw dX9_insult_50
set_option maxRecDepth 100000 in
set_option maxHeartbeats 4000000 in
theorem z_X9_insult_b17 {p : Program} {e : Env} {s : State} {m : MethodId} {args : Array Value} {below : List Frame} {meth : Method} {c : Code} (l : Launch) (y : Sy) (x1 : Int32) (x2 : Int32) (x3 : Int32) (C : Sd p s m args meth c cX9_insult 8 RX9 (some .int) y)  (K : Int32 → St → Prop)   (st : St) {H : Heap} {locs : List Loc} {ls : Array Slot} (hG : gH 17 enM y st s H locs) (hl : lv_has ls 8 [(0, .ref (ad y 0)), (1, .int x1), (2, .int x2), (3, .int x3)]) (hw : w_X9_insult_b17 x1 x2 x3  K  st) : W p l e (rmm 5 117) s m args below meth c H locs 0 0 (MQ below (va_Qi K (gB 17 enM y) (gA 17 y)) args s 0 0 (gA 17 y)) (F0 m 17 ls []) := by
  obtain ⟨hx, hb, hml, hown, hts, hr, hlk, hK, hN⟩ := id C
  unfold w_X9_insult_b17 at hw
  refine lv_iconst (v := (-1)) hx hb dX9_insult_17 (by decide) ?_
  refine lv_goto (tgt := 37) hx hb dX9_insult_18 (by decide) ?_
  exact z_X9_insult_b37 l y x1 x2 x3 C  K  (-1) st hG (lv_sub hl [0, 1, 2, 3] rfl) hw
theorem hd_X9_insult : yX9_insult.cls ≠ "java/lang/invoke/MethodHandle" ∧ yX9_insult.cls ≠ "java/lang/invoke/VarHandle" ∧ (parseMethodDescriptor yX9_insult.desc).map (fun d => d.parameters.length) = some 3 := by decide +kernel
set_option maxRecDepth 100000 in
set_option maxHeartbeats 4000000 in
theorem c_X9_insult (l : Launch) (y : Sy) (x1 : Int32) (x2 : Int32) (x3 : Int32) (st : St) (K : Int32 → St → Prop) (hw : w_X9_insult x1 x2 x3 st K) : Ci 17 enM l yX9_insult cX9_insult 8 (some .int) 5 117 y [.ref (ad y 0), .int x1, .int x2, .int x3] st K := by
  refine ent (by decide) (Nat.le_of_ble_eq_true rfl) ?_
  intro p e s m below meth c C hG ls hl
  have hl : lv_has ls 8 [(0, .ref (ad y 0)), (1, .int x1), (2, .int x2), (3, .int x3)] := hl
  generalize ([.ref (ad y 0), .int x1, .int x2, .int x3] : List Value).toArray = args at C ⊢
  have C : Sd p s m args meth c cX9_insult 8 RX9 (some .int) y := C
  obtain ⟨hx, hb, hml, hown, hts, hr, hlk, hK, hN⟩ := id C
  generalize s.heap = H at hG ⊢
  generalize ([] : List Loc) = locs at hG ⊢
  unfold w_X9_insult at hw
  refine lv_aload_n hx hb dX9_insult_0 rfl (lv_at hl 0 rfl) ?_
  refine lv_iload_n hx hb dX9_insult_1 rfl (lv_at hl 1 rfl) ?_
  refine lv_iload_n hx hb dX9_insult_2 rfl (lv_at hl 2 rfl) ?_
  refine r_ki (r_run_V (k := 0) (As := [.int x1, .int x2]) (rest := []) hx hb hml hown hts hK hN hG (c_X9_areTwo l y x1 x2 st _ hw) (by decide) rfl rfl rfl qM_X9_125 qI_X9_areTwo qS_X9_areTwo qN_X9 qC_X9_areTwo hd_X9_areTwo ⟨Nat.le_of_ble_eq_true rfl, Nat.le_of_ble_eq_true rfl⟩ hl.1 rfl (Nat.le_of_ble_eq_true rfl) dX9_insult_3) hG (fun r3 st3 H locs hw hG => ?_)
  refine lv_if_eq (tgt := 17) hx hb dX9_insult_6 (by decide) (fun hc => ?_) (fun hc => ?_)
  · replace hw := hw.1 hc
    exact z_X9_insult_b17 l y x1 x2 x3 C  K  st3 hG (lv_sub hl [0, 1, 2, 3] rfl) hw
  · replace hw := hw.2 hc
    refine lv_aload_n hx hb dX9_insult_9 rfl (lv_at hl 0 rfl) ?_
    refine lv_iload_n hx hb dX9_insult_10 rfl (lv_at hl 3 rfl) ?_
    refine r_ki (r_run_V (k := 0) (As := [.int x3]) (rest := []) hx hb hml hown hts hK hN hG (c_X9_isLetter l y x3 st3 _ hw) (by decide) rfl rfl rfl qM_X9_134 qI_X9_isLetter qS_X9_isLetter qN_X9 qC_X9_isLetter hd_X9_isLetter ⟨Nat.le_of_ble_eq_true rfl, Nat.le_of_ble_eq_true rfl⟩ hl.1 rfl (Nat.le_of_ble_eq_true rfl) dX9_insult_11) hG (fun r11 st11 H locs hw hG => ?_)
    refine lv_if_ne (tgt := 21) hx hb dX9_insult_14 (by decide) (fun hc => ?_) (fun hc => ?_)
    · replace hw := hw.1 hc
      refine lv_aload_n hx hb dX9_insult_21 rfl (lv_at hl 0 rfl) ?_
      refine r_get (C := RX9) (T := TX9) (Nf := 31) hx hb hts hown hK hG (by decide) rfl rfl inX9 7 (by decide) qF_X9_31 rfl dX9_insult_22 ?_
      refine lv_iload_n hx hb dX9_insult_25 rfl (lv_at hl 3 rfl) ?_
      obtain ⟨hi, hw⟩ := hw
      refine r_iald hx hb hK hG (isB_8).1 ((isB_8).2 y _) hi dX9_insult_26 ?_
      refine lv_iconst (v := 1) hx hb dX9_insult_27 (by decide) ?_
      refine lv_icmp_ne (tgt := 36) hx hb dX9_insult_28 (by decide) (fun hc => ?_) (fun hc => ?_)
      · replace hw := hw.1 hc
        refine lv_iconst (v := 0) hx hb dX9_insult_36 (by decide) ?_
        exact z_X9_insult_b37 l y x1 x2 x3 C  K  0 st11 hG (lv_sub hl [0, 1, 2, 3] rfl) hw
      · replace hw := hw.2 hc
        refine lv_bipush (v := (-3)) hx hb dX9_insult_31 (by decide) ?_
        refine lv_goto (tgt := 37) hx hb dX9_insult_33 (by decide) ?_
        exact z_X9_insult_b37 l y x1 x2 x3 C  K  (-3) st11 hG (lv_sub hl [0, 1, 2, 3] rfl) hw
    · replace hw := hw.2 hc
      exact z_X9_insult_b17 l y x1 x2 x3 C  K  st11 hG (lv_sub hl [0, 1, 2, 3] rfl) hw
theorem hd_X9_manyAt : yX9_manyAt.cls ≠ "java/lang/invoke/MethodHandle" ∧ yX9_manyAt.cls ≠ "java/lang/invoke/VarHandle" ∧ (parseMethodDescriptor yX9_manyAt.desc).map (fun d => d.parameters.length) = some 3 := by decide +kernel
set_option maxRecDepth 100000 in
set_option maxHeartbeats 4000000 in
theorem c_X9_manyAt (l : Launch) (y : Sy) (x1 : Int32) (x2 : Int32) (x3 : Int32) (st : St) (K : Int32 → St → Prop) (hw : w_X9_manyAt x1 x2 x3 st K) : Ci 17 enM l yX9_manyAt cX9_manyAt 6 (some .int) 6 137 y [.ref (ad y 0), .int x1, .int x2, .int x3] st K := by
  refine ent (by decide) (Nat.le_of_ble_eq_true rfl) ?_
  intro p e s m below meth c C hG ls hl
  have hl : lv_has ls 6 [(0, .ref (ad y 0)), (1, .int x1), (2, .int x2), (3, .int x3)] := hl
  generalize ([.ref (ad y 0), .int x1, .int x2, .int x3] : List Value).toArray = args at C ⊢
  have C : Sd p s m args meth c cX9_manyAt 6 RX9 (some .int) y := C
  obtain ⟨hx, hb, hml, hown, hts, hr, hlk, hK, hN⟩ := id C
  generalize s.heap = H at hG ⊢
  generalize ([] : List Loc) = locs at hG ⊢
  unfold w_X9_manyAt at hw
  refine lv_aload_n hx hb dX9_manyAt_0 rfl (lv_at hl 0 rfl) ?_
  refine r_get (C := RX9) (T := TX9) (Nf := 31) hx hb hts hown hK hG (by decide) rfl rfl inX9 3 (by decide) qF_X9_19 rfl dX9_manyAt_1 ?_
  refine lv_iload_n hx hb dX9_manyAt_4 rfl (lv_at hl 1 rfl) ?_
  obtain ⟨hi, hw⟩ := hw
  refine r_iald hx hb hK hG (isB_4).1 ((isB_4).2 y _) hi dX9_manyAt_5 ?_
  refine lv_istore (lv' := [(4, .int (st 4 (x1).toNatClampNeg)), (0, .ref (ad y 0)), (1, .int x1), (2, .int x2), (3, .int x3)]) hx hb dX9_manyAt_6 hl (Nat.le_of_ble_eq_true rfl) rfl (fun ls hl => ?_)
  refine lv_aload_n hx hb dX9_manyAt_8 rfl (lv_at hl 1 rfl) ?_
  refine r_get (C := RX9) (T := TX9) (Nf := 31) hx hb hts hown hK hG (by decide) rfl rfl inX9 3 (by decide) qF_X9_19 rfl dX9_manyAt_9 ?_
  refine lv_iload_n hx hb dX9_manyAt_12 rfl (lv_at hl 2 rfl) ?_
  refine lv_iload_n hx hb dX9_manyAt_13 rfl (lv_at hl 3 rfl) ?_
  obtain ⟨hi, hw⟩ := hw
  refine r_iast hx hb hK hG (isB_4).1 (fun f => (isB_4).2 y f) hi dX9_manyAt_14 (fun H locs hG => ?_)
  refine lv_aload_n hx hb dX9_manyAt_15 rfl (lv_at hl 1 rfl) ?_
  refine lv_iload_n hx hb dX9_manyAt_16 rfl (lv_at hl 4 rfl) ?_
  refine r_ki (r_run_V (k := 0) (As := [.int x3]) (rest := []) hx hb hml hown hts hK hN hG (c_X9_openIn l y x3 (u2 st 4 (x1).toNatClampNeg x2) _ hw) (by decide) rfl rfl rfl qM_X9_229 qI_X9_openIn qS_X9_openIn qN_X9 qC_X9_openIn hd_X9_openIn ⟨Nat.le_of_ble_eq_true rfl, Nat.le_of_ble_eq_true rfl⟩ hl.1 rfl (Nat.le_of_ble_eq_true rfl) dX9_manyAt_17) hG (fun r17 st17 H locs hw hG => ?_)
  refine r_ki (r_run_S (As := [.int r17]) (rest := []) hx hb hml hown hts hK hN hG (c_X9_bits l y r17 st17 _ hw) qM_X9_214 qT_X9_bits qN_X9 qC_X9_bits hd_X9_bits ⟨Nat.le_of_ble_eq_true rfl, Nat.le_of_ble_eq_true rfl⟩ hl.1 rfl (Nat.le_of_ble_eq_true rfl) dX9_manyAt_20) hG (fun r20 st20 H locs hw hG => ?_)
  refine lv_istore (lv' := [(5, .int r20), (4, .int (st 4 (x1).toNatClampNeg)), (0, .ref (ad y 0)), (1, .int x1), (2, .int x2), (3, .int x3)]) hx hb dX9_manyAt_23 hl (Nat.le_of_ble_eq_true rfl) rfl (fun ls hl => ?_)
  refine lv_aload_n hx hb dX9_manyAt_25 rfl (lv_at hl 2 rfl) ?_
  refine r_get (C := RX9) (T := TX9) (Nf := 31) hx hb hts hown hK hG (by decide) rfl rfl inX9 3 (by decide) qF_X9_19 rfl dX9_manyAt_26 ?_
  refine lv_iload_n hx hb dX9_manyAt_29 rfl (lv_at hl 3 rfl) ?_
  refine lv_iload hx hb dX9_manyAt_30 (lv_at hl 1 rfl) ?_
  obtain ⟨hi, hw⟩ := hw
  refine r_iast hx hb hK hG (isB_4).1 (fun f => (isB_4).2 y f) hi dX9_manyAt_32 (fun H locs hG => ?_)
  refine lv_iload hx hb dX9_manyAt_33 (lv_at hl 0 rfl) ?_
  exact r_iret hx hb hr hlk hK hG rfl hw dX9_manyAt_35
set_option maxRecDepth 100000 in
set_option maxHeartbeats 4000000 in
theorem z_X9_send_b100 {p : Program} {e : Env} {s : State} {m : MethodId} {args : Array Value} {below : List Frame} {meth : Method} {c : Code} (l : Launch) (y : Sy) (x1 : Int32) (C : Sd p s m args meth c cX9_send 8 RX9 (some .int) y) (c31 : Int32 → Int32 → Int32 → St → Prop) (c43 : Int32 → Int32 → Int32 → Int32 → St → Prop) (K : Int32 → St → Prop) (hc31 : ∀ (v3 : Int32) (v4 : Int32) (v5 : Int32) (st : St) (H : Heap) (locs : List Loc) (ls : Array Slot), gH 17 enM y st s H locs → lv_has ls 8 [(0, .ref (ad y 0)), (1, .int x1), (3, .int v3), (4, .int v4), (5, .int v5)] → c31 v3 v4 v5 st → W p l e (rmm 7 162) s m args below meth c H locs 0 0 (MQ below (va_Qi K (gB 17 enM y) (gA 17 y)) args s 0 0 (gA 17 y)) (F0 m 31 ls [])) (hc43 : ∀ (v3 : Int32) (v4 : Int32) (v5 : Int32) (v6 : Int32) (st : St) (H : Heap) (locs : List Loc) (ls : Array Slot), gH 17 enM y st s H locs → lv_has ls 8 [(0, .ref (ad y 0)), (1, .int x1), (3, .int v3), (4, .int v4), (5, .int v5), (6, .int v6)] → c43 v3 v4 v5 v6 st → W p l e (rmm 7 162) s m args below meth c H locs 0 0 (MQ below (va_Qi K (gB 17 enM y) (gA 17 y)) args s 0 0 (gA 17 y)) (F0 m 43 ls [])) (v3 : Int32) (v4 : Int32) (v5 : Int32) (v6 : Int32) (st : St) {H : Heap} {locs : List Loc} {ls : Array Slot} (hG : gH 17 enM y st s H locs) (hl : lv_has ls 8 [(0, .ref (ad y 0)), (1, .int x1), (3, .int v3), (4, .int v4), (5, .int v5), (6, .int v6)]) (hw : w_X9_send_b100 x1 c31 c43 K v3 v4 v5 v6 st) : W p l e (rmm 7 162) s m args below meth c H locs 0 0 (MQ below (va_Qi K (gB 17 enM y) (gA 17 y)) args s 0 0 (gA 17 y)) (F0 m 100 ls []) := by
  obtain ⟨hx, hb, hml, hown, hts, hr, hlk, hK, hN⟩ := id C
  unfold w_X9_send_b100 at hw
  refine lv_iinc (v := (v6 + 1)) (lv' := [(6, .int (v6 + 1)), (0, .ref (ad y 0)), (1, .int x1), (3, .int v3), (4, .int v4), (5, .int v5)]) hx hb dX9_send_100 hl (k := 5) rfl rfl (Nat.le_of_ble_eq_true rfl) rfl (fun ls hl => ?_)
  refine lv_goto (tgt := 43) hx hb dX9_send_103 (by decide) ?_
  exact hc43 v3 v4 v5 (v6 + 1) st H locs _ hG (lv_sub hl [1, 2, 3, 4, 5, 0] rfl) hw
set_option maxRecDepth 100000 in
set_option maxHeartbeats 4000000 in
theorem z_X9_send_b75 {p : Program} {e : Env} {s : State} {m : MethodId} {args : Array Value} {below : List Frame} {meth : Method} {c : Code} (l : Launch) (y : Sy) (x1 : Int32) (C : Sd p s m args meth c cX9_send 8 RX9 (some .int) y) (c31 : Int32 → Int32 → Int32 → St → Prop) (c43 : Int32 → Int32 → Int32 → Int32 → St → Prop) (K : Int32 → St → Prop) (hc31 : ∀ (v3 : Int32) (v4 : Int32) (v5 : Int32) (st : St) (H : Heap) (locs : List Loc) (ls : Array Slot), gH 17 enM y st s H locs → lv_has ls 8 [(0, .ref (ad y 0)), (1, .int x1), (3, .int v3), (4, .int v4), (5, .int v5)] → c31 v3 v4 v5 st → W p l e (rmm 7 162) s m args below meth c H locs 0 0 (MQ below (va_Qi K (gB 17 enM y) (gA 17 y)) args s 0 0 (gA 17 y)) (F0 m 31 ls [])) (hc43 : ∀ (v3 : Int32) (v4 : Int32) (v5 : Int32) (v6 : Int32) (st : St) (H : Heap) (locs : List Loc) (ls : Array Slot), gH 17 enM y st s H locs → lv_has ls 8 [(0, .ref (ad y 0)), (1, .int x1), (3, .int v3), (4, .int v4), (5, .int v5), (6, .int v6)] → c43 v3 v4 v5 v6 st → W p l e (rmm 7 162) s m args below meth c H locs 0 0 (MQ below (va_Qi K (gB 17 enM y) (gA 17 y)) args s 0 0 (gA 17 y)) (F0 m 43 ls [])) (v3 : Int32) (v4 : Int32) (v5 : Int32) (v6 : Int32) (s0 : Int32) (st : St) {H : Heap} {locs : List Loc} {ls : Array Slot} (hG : gH 17 enM y st s H locs) (hl : lv_has ls 8 [(0, .ref (ad y 0)), (1, .int x1), (3, .int v3), (4, .int v4), (5, .int v5), (6, .int v6)]) (hw : w_X9_send_b75 x1 c31 c43 K v3 v4 v5 v6 s0 st) : W p l e (rmm 7 162) s m args below meth c H locs 0 0 (MQ below (va_Qi K (gB 17 enM y) (gA 17 y)) args s 0 0 (gA 17 y)) (F0 m 75 ls [.int s0]) := by
  obtain ⟨hx, hb, hml, hown, hts, hr, hlk, hK, hN⟩ := id C
  unfold w_X9_send_b75 at hw
  refine lv_istore (lv' := [(7, .int s0), (0, .ref (ad y 0)), (1, .int x1), (3, .int v3), (4, .int v4), (5, .int v5), (6, .int v6)]) hx hb dX9_send_75 hl (Nat.le_of_ble_eq_true rfl) rfl (fun ls hl => ?_)
  refine lv_iload hx hb dX9_send_77 (lv_at hl 0 rfl) ?_
  refine lv_iload hx hb dX9_send_79 (lv_at hl 4 rfl) ?_
  refine lv_icmp_gt (tgt := 87) hx hb dX9_send_81 (by decide) (fun hc => ?_) (fun hc => ?_)
  · replace hw := hw.1 hc
    refine lv_bipush (v := 10) hx hb dX9_send_87 (by decide) ?_
    refine lv_iload hx hb dX9_send_89 (lv_at hl 5 rfl) ?_
    refine lv_imul hx hb dX9_send_91 ?_
    refine lv_iload hx hb dX9_send_92 (lv_at hl 6 rfl) ?_
    refine lv_iadd hx hb dX9_send_94 ?_
    refine lv_istore_n (lv' := [(3, .int ((10 * v5) + v6)), (7, .int s0), (0, .ref (ad y 0)), (1, .int x1), (4, .int v4), (5, .int v5), (6, .int v6)]) hx hb dX9_send_95 rfl hl (Nat.le_of_ble_eq_true rfl) rfl (fun ls hl => ?_)
    refine lv_iload hx hb dX9_send_96 (lv_at hl 1 rfl) ?_
    refine lv_istore (lv' := [(4, .int s0), (3, .int ((10 * v5) + v6)), (7, .int s0), (0, .ref (ad y 0)), (1, .int x1), (5, .int v5), (6, .int v6)]) hx hb dX9_send_98 hl (Nat.le_of_ble_eq_true rfl) rfl (fun ls hl => ?_)
    exact z_X9_send_b100 l y x1 C c31 c43 K hc31 hc43 ((10 * v5) + v6) s0 v5 v6 st hG (lv_sub hl [3, 4, 1, 0, 5, 6] rfl) hw
  · replace hw := hw.2 hc
    refine lv_goto (tgt := 100) hx hb dX9_send_84 (by decide) ?_
    exact z_X9_send_b100 l y x1 C c31 c43 K hc31 hc43 v3 v4 v5 v6 st hG (lv_sub hl [1, 2, 3, 4, 5, 6] rfl) hw
set_option maxRecDepth 100000 in
set_option maxHeartbeats 4000000 in
theorem z_X9_send_b106 {p : Program} {e : Env} {s : State} {m : MethodId} {args : Array Value} {below : List Frame} {meth : Method} {c : Code} (l : Launch) (y : Sy) (x1 : Int32) (C : Sd p s m args meth c cX9_send 8 RX9 (some .int) y) (c31 : Int32 → Int32 → Int32 → St → Prop) (K : Int32 → St → Prop) (hc31 : ∀ (v3 : Int32) (v4 : Int32) (v5 : Int32) (st : St) (H : Heap) (locs : List Loc) (ls : Array Slot), gH 17 enM y st s H locs → lv_has ls 8 [(0, .ref (ad y 0)), (1, .int x1), (3, .int v3), (4, .int v4), (5, .int v5)] → c31 v3 v4 v5 st → W p l e (rmm 7 162) s m args below meth c H locs 0 0 (MQ below (va_Qi K (gB 17 enM y) (gA 17 y)) args s 0 0 (gA 17 y)) (F0 m 31 ls [])) (v3 : Int32) (v4 : Int32) (v5 : Int32) (st : St) {H : Heap} {locs : List Loc} {ls : Array Slot} (hG : gH 17 enM y st s H locs) (hl : lv_has ls 8 [(0, .ref (ad y 0)), (1, .int x1), (3, .int v3), (4, .int v4), (5, .int v5)]) (hw : w_X9_send_b106 x1 c31 K v3 v4 v5 st) : W p l e (rmm 7 162) s m args below meth c H locs 0 0 (MQ below (va_Qi K (gB 17 enM y) (gA 17 y)) args s 0 0 (gA 17 y)) (F0 m 106 ls []) := by
  obtain ⟨hx, hb, hml, hown, hts, hr, hlk, hK, hN⟩ := id C
  unfold w_X9_send_b106 at hw
  refine lv_iinc (v := (v5 + 1)) (lv' := [(5, .int (v5 + 1)), (0, .ref (ad y 0)), (1, .int x1), (3, .int v3), (4, .int v4)]) hx hb dX9_send_106 hl (k := 4) rfl rfl (Nat.le_of_ble_eq_true rfl) rfl (fun ls hl => ?_)
  refine lv_goto (tgt := 31) hx hb dX9_send_109 (by decide) ?_
  exact hc31 v3 v4 (v5 + 1) st H locs _ hG (lv_sub hl [1, 2, 3, 4, 0] rfl) hw
set_option maxRecDepth 100000 in
set_option maxHeartbeats 4000000 in
theorem z_X9_send_L43 {p : Program} {e : Env} {s : State} {m : MethodId} {args : Array Value} {below : List Frame} {meth : Method} {c : Code} (l : Launch) (y : Sy) (x1 : Int32) (C : Sd p s m args meth c cX9_send 8 RX9 (some .int) y) (c31 : Int32 → Int32 → Int32 → St → Prop) (K : Int32 → St → Prop) (hc31 : ∀ (v3 : Int32) (v4 : Int32) (v5 : Int32) (st : St) (H : Heap) (locs : List Loc) (ls : Array Slot), gH 17 enM y st s H locs → lv_has ls 8 [(0, .ref (ad y 0)), (1, .int x1), (3, .int v3), (4, .int v4), (5, .int v5)] → c31 v3 v4 v5 st → W p l e (rmm 7 162) s m args below meth c H locs 0 0 (MQ below (va_Qi K (gB 17 enM y) (gA 17 y)) args s 0 0 (gA 17 y)) (F0 m 31 ls [])) : ∀ (n : Nat) (v3 : Int32) (v4 : Int32) (v5 : Int32) (v6 : Int32) (st : St) (H : Heap) (locs : List Loc) (ls : Array Slot), gH 17 enM y st s H locs → lv_has ls 8 [(0, .ref (ad y 0)), (1, .int x1), (3, .int v3), (4, .int v4), (5, .int v5), (6, .int v6)] → w_X9_send_L43 x1 c31 K n v3 v4 v5 v6 st → W p l e (rmm 7 162) s m args below meth c H locs 0 0 (MQ below (va_Qi K (gB 17 enM y) (gA 17 y)) args s 0 0 (gA 17 y)) (F0 m 43 ls []) := by
  obtain ⟨hx, hb, hml, hown, hts, hr, hlk, hK, hN⟩ := id C
  intro n
  induction n with
  | zero => intro v3 v4 v5 v6 st H locs ls hG hl hw; exact False.elim hw
  | succ n hc43 =>
    intro v3 v4 v5 v6 st H locs ls hG hl hw
    have hw : w_X9_send_L43q x1 c31 K (fun v3 v4 v5 v6 st => w_X9_send_L43 x1 c31 K n v3 v4 v5 v6 st) v3 v4 v5 v6 st := hw
    unfold w_X9_send_L43q at hw
    refine lv_iload hx hb dX9_send_43 (lv_at hl 5 rfl) ?_
    refine lv_iconst (v := 4) hx hb dX9_send_45 (by decide) ?_
    refine lv_icmp_ge (tgt := 106) hx hb dX9_send_46 (by decide) (fun hc => ?_) (fun hc => ?_)
    · replace hw := hw.1 hc
      exact z_X9_send_b106 l y x1 C c31 K hc31 v3 v4 v5 st hG (lv_sub hl [0, 1, 2, 3, 4] rfl) hw
    · replace hw := hw.2 hc
      refine lv_iload hx hb dX9_send_49 (lv_at hl 5 rfl) ?_
      refine lv_aload_n hx hb dX9_send_51 rfl (lv_at hl 0 rfl) ?_
      refine r_get (C := RX9) (T := TX9) (Nf := 31) hx hb hts hown hK hG (by decide) rfl rfl inX9 3 (by decide) qF_X9_19 rfl dX9_send_52 ?_
      refine lv_iload hx hb dX9_send_55 (lv_at hl 4 rfl) ?_
      obtain ⟨hi, hw⟩ := hw
      refine r_iald hx hb hK hG (isB_4).1 ((isB_4).2 y _) hi dX9_send_57 ?_
      refine lv_icmp_ne (tgt := 66) hx hb dX9_send_58 (by decide) (fun hc => ?_) (fun hc => ?_)
      · replace hw := hw.1 hc
        refine lv_aload_n hx hb dX9_send_66 rfl (lv_at hl 0 rfl) ?_
        refine lv_iload hx hb dX9_send_67 (lv_at hl 4 rfl) ?_
        refine lv_iload hx hb dX9_send_69 (lv_at hl 5 rfl) ?_
        refine lv_iload_n hx hb dX9_send_71 rfl (lv_at hl 1 rfl) ?_
        refine r_ki (r_run_V (k := 0) (As := [.int v5, .int v6, .int x1]) (rest := []) hx hb hml hown hts hK hN hG (c_X9_manyAt l y v5 v6 x1 st _ hw) (by decide) rfl rfl rfl qM_X9_247 qI_X9_manyAt qS_X9_manyAt qN_X9 qC_X9_manyAt hd_X9_manyAt ⟨Nat.le_of_ble_eq_true rfl, Nat.le_of_ble_eq_true rfl⟩ hl.1 rfl (Nat.le_of_ble_eq_true rfl) dX9_send_72) hG (fun r72 st72 H locs hw hG => ?_)
        exact z_X9_send_b75 l y x1 C c31 (fun v3 v4 v5 v6 st => w_X9_send_L43 x1 c31 K n v3 v4 v5 v6 st) K hc31 hc43 v3 v4 v5 v6 r72 st72 hG (lv_sub hl [0, 1, 2, 3, 4, 5] rfl) hw
      · replace hw := hw.2 hc
        refine lv_bipush (v := (-9)) hx hb dX9_send_61 (by decide) ?_
        refine lv_goto (tgt := 75) hx hb dX9_send_63 (by decide) ?_
        exact z_X9_send_b75 l y x1 C c31 (fun v3 v4 v5 v6 st => w_X9_send_L43 x1 c31 K n v3 v4 v5 v6 st) K hc31 hc43 v3 v4 v5 v6 (-9) st hG (lv_sub hl [0, 1, 2, 3, 4, 5] rfl) hw
set_option maxRecDepth 100000 in
set_option maxHeartbeats 4000000 in
theorem z_X9_send_L31 {p : Program} {e : Env} {s : State} {m : MethodId} {args : Array Value} {below : List Frame} {meth : Method} {c : Code} (l : Launch) (y : Sy) (x1 : Int32) (C : Sd p s m args meth c cX9_send 8 RX9 (some .int) y)  (K : Int32 → St → Prop)  : ∀ (n : Nat) (v3 : Int32) (v4 : Int32) (v5 : Int32) (st : St) (H : Heap) (locs : List Loc) (ls : Array Slot), gH 17 enM y st s H locs → lv_has ls 8 [(0, .ref (ad y 0)), (1, .int x1), (3, .int v3), (4, .int v4), (5, .int v5)] → w_X9_send_L31 x1  K n v3 v4 v5 st → W p l e (rmm 7 162) s m args below meth c H locs 0 0 (MQ below (va_Qi K (gB 17 enM y) (gA 17 y)) args s 0 0 (gA 17 y)) (F0 m 31 ls []) := by
  obtain ⟨hx, hb, hml, hown, hts, hr, hlk, hK, hN⟩ := id C
  intro n
  induction n with
  | zero => intro v3 v4 v5 st H locs ls hG hl hw; exact False.elim hw
  | succ n hc31 =>
    intro v3 v4 v5 st H locs ls hG hl hw
    have hw : w_X9_send_L31q x1  K (fun v3 v4 v5 st => w_X9_send_L31 x1  K n v3 v4 v5 st) v3 v4 v5 st := hw
    unfold w_X9_send_L31q at hw
    refine lv_iload hx hb dX9_send_31 (lv_at hl 4 rfl) ?_
    refine lv_aload_n hx hb dX9_send_33 rfl (lv_at hl 0 rfl) ?_
    refine r_get (C := RX9) (T := TX9) (Nf := 31) hx hb hts hown hK hG (by decide) rfl rfl inX9 8 (by decide) qF_X9_65 rfl dX9_send_34 ?_
    refine lv_icmp_ge (tgt := 112) hx hb dX9_send_37 (by decide) (fun hc => ?_) (fun hc => ?_)
    · replace hw := hw.1 hc
      refine lv_iload_n hx hb dX9_send_112 rfl (lv_at hl 2 rfl) ?_
      exact r_iret hx hb hr hlk hK hG rfl hw dX9_send_113
    · replace hw := hw.2 hc
      refine lv_iconst (v := 0) hx hb dX9_send_40 (by decide) ?_
      refine lv_istore (lv' := [(6, .int 0), (0, .ref (ad y 0)), (1, .int x1), (3, .int v3), (4, .int v4), (5, .int v5)]) hx hb dX9_send_41 hl (Nat.le_of_ble_eq_true rfl) rfl (fun ls hl => ?_)
      obtain ⟨n43, hw⟩ := hw
      exact z_X9_send_L43 l y x1 C (fun v3 v4 v5 st => w_X9_send_L31 x1  K n v3 v4 v5 st) K hc31 n43 v3 v4 v5 0 st H locs _ hG (lv_sub hl [1, 2, 3, 4, 5, 0] rfl) hw
theorem hd_X9_send : yX9_send.cls ≠ "java/lang/invoke/MethodHandle" ∧ yX9_send.cls ≠ "java/lang/invoke/VarHandle" ∧ (parseMethodDescriptor yX9_send.desc).map (fun d => d.parameters.length) = some 1 := by decide +kernel
set_option maxRecDepth 100000 in
set_option maxHeartbeats 4000000 in
theorem c_X9_send (l : Launch) (y : Sy) (x1 : Int32) (st : St) (K : Int32 → St → Prop) (hw : w_X9_send x1 st K) : Ci 17 enM l yX9_send cX9_send 8 (some .int) 7 162 y [.ref (ad y 0), .int x1] st K := by
  refine ent (by decide) (Nat.le_of_ble_eq_true rfl) ?_
  intro p e s m below meth c C hG ls hl
  have hl : lv_has ls 8 [(0, .ref (ad y 0)), (1, .int x1)] := hl
  generalize ([.ref (ad y 0), .int x1] : List Value).toArray = args at C ⊢
  have C : Sd p s m args meth c cX9_send 8 RX9 (some .int) y := C
  obtain ⟨hx, hb, hml, hown, hts, hr, hlk, hK, hN⟩ := id C
  generalize s.heap = H at hG ⊢
  generalize ([] : List Loc) = locs at hG ⊢
  unfold w_X9_send at hw
  refine lv_iload_n hx hb dX9_send_0 rfl (lv_at hl 1 rfl) ?_
  refine r_ki (r_run_S (As := [.int x1]) (rest := []) hx hb hml hown hts hK hN hG (c_X9_notWeeks l y x1 st _ hw) qM_X9_223 qT_X9_notWeeks qN_X9 qC_X9_notWeeks hd_X9_notWeeks ⟨Nat.le_of_ble_eq_true rfl, Nat.le_of_ble_eq_true rfl⟩ hl.1 rfl (Nat.le_of_ble_eq_true rfl) dX9_send_1) hG (fun r1 st1 H locs hw hG => ?_)
  refine lv_istore_n (lv' := [(2, .int r1), (0, .ref (ad y 0)), (1, .int x1)]) hx hb dX9_send_4 rfl hl (Nat.le_of_ble_eq_true rfl) rfl (fun ls hl => ?_)
  refine lv_iload_n hx hb dX9_send_5 rfl (lv_at hl 0 rfl) ?_
  refine lv_if_eq (tgt := 15) hx hb dX9_send_6 (by decide) (fun hc => ?_) (fun hc => ?_)
  · replace hw := hw.1 hc
    refine lv_bipush (v := (-9)) hx hb dX9_send_15 (by decide) ?_
    refine lv_istore_n (lv' := [(3, .int (-9)), (2, .int r1), (0, .ref (ad y 0)), (1, .int x1)]) hx hb dX9_send_17 rfl hl (Nat.le_of_ble_eq_true rfl) rfl (fun ls hl => ?_)
    refine lv_aload_n hx hb dX9_send_18 rfl (lv_at hl 2 rfl) ?_
    refine lv_iload_n hx hb dX9_send_19 rfl (lv_at hl 3 rfl) ?_
    refine r_ki (r_run_V (k := 0) (As := [.int x1]) (rest := []) hx hb hml hown hts hK hN hG (c_X9_openIn l y x1 st1 _ hw) (by decide) rfl rfl rfl qM_X9_229 qI_X9_openIn qS_X9_openIn qN_X9 qC_X9_openIn hd_X9_openIn ⟨Nat.le_of_ble_eq_true rfl, Nat.le_of_ble_eq_true rfl⟩ hl.1 rfl (Nat.le_of_ble_eq_true rfl) dX9_send_20) hG (fun r20 st20 H locs hw hG => ?_)
    refine r_ki (r_run_S (As := [.int r20]) (rest := []) hx hb hml hown hts hK hN hG (c_X9_bits l y r20 st20 _ hw) qM_X9_214 qT_X9_bits qN_X9 qC_X9_bits hd_X9_bits ⟨Nat.le_of_ble_eq_true rfl, Nat.le_of_ble_eq_true rfl⟩ hl.1 rfl (Nat.le_of_ble_eq_true rfl) dX9_send_23) hG (fun r23 st23 H locs hw hG => ?_)
    refine lv_istore (lv' := [(4, .int r23), (3, .int (-9)), (2, .int r1), (0, .ref (ad y 0)), (1, .int x1)]) hx hb dX9_send_26 hl (Nat.le_of_ble_eq_true rfl) rfl (fun ls hl => ?_)
    refine lv_iconst (v := 0) hx hb dX9_send_28 (by decide) ?_
    refine lv_istore (lv' := [(5, .int 0), (4, .int r23), (3, .int (-9)), (2, .int r1), (0, .ref (ad y 0)), (1, .int x1)]) hx hb dX9_send_29 hl (Nat.le_of_ble_eq_true rfl) rfl (fun ls hl => ?_)
    obtain ⟨n31, hw⟩ := hw
    exact z_X9_send_L31 l y x1 C  K  n31 (-9) r23 0 st23 H locs _ hG (lv_sub hl [4, 5, 2, 1, 0] rfl) hw
  · replace hw := hw.2 hc
    refine lv_aload_n hx hb dX9_send_9 rfl (lv_at hl 1 rfl) ?_
    refine lv_iload_n hx hb dX9_send_10 rfl (lv_at hl 0 rfl) ?_
    refine r_ki (r_run_V (k := 0) (As := [.int r1]) (rest := []) hx hb hml hown hts hK hN hG (c_X9_no l y r1 st1 _ hw) (by decide) rfl rfl rfl qM_X9_79 qI_X9_no qS_X9_no qN_X9 qC_X9_no hd_X9_no ⟨Nat.le_of_ble_eq_true rfl, Nat.le_of_ble_eq_true rfl⟩ hl.1 rfl (Nat.le_of_ble_eq_true rfl) dX9_send_11) hG (fun r11 st11 H locs hw hG => ?_)
    exact r_iret hx hb hr hlk hK hG rfl hw dX9_send_14
set_option maxRecDepth 100000 in
set_option maxHeartbeats 4000000 in
theorem z_X9_places_b174 {p : Program} {e : Env} {s : State} {m : MethodId} {args : Array Value} {below : List Frame} {meth : Method} {c : Code} (l : Launch) (y : Sy) (x1 : Int32) (x2 : Int32) (x3 : Int32) (x4 : Int32) (x5 : Int32) (C : Sd p s m args meth c cX9_places 11 RX9 (some .int) y) (c84 : Int32 → Int32 → Int32 → St → Prop) (K : Int32 → St → Prop) (hc84 : ∀ (v7 : Int32) (v8 : Int32) (v9 : Int32) (st : St) (H : Heap) (locs : List Loc) (ls : Array Slot), gH 17 enM y st s H locs → lv_has ls 11 [(0, .ref (ad y 0)), (1, .int x1), (2, .int x2), (3, .int x3), (4, .int x4), (5, .int x5), (7, .int v7), (8, .int v8), (9, .int v9)] → c84 v7 v8 v9 st → W p l e (rmm 6 137) s m args below meth c H locs 0 0 (MQ below (va_Qi K (gB 17 enM y) (gA 17 y)) args s 0 0 (gA 17 y)) (F0 m 84 ls [])) (v7 : Int32) (v8 : Int32) (v9 : Int32) (st : St) {H : Heap} {locs : List Loc} {ls : Array Slot} (hG : gH 17 enM y st s H locs) (hl : lv_has ls 11 [(0, .ref (ad y 0)), (1, .int x1), (2, .int x2), (3, .int x3), (4, .int x4), (5, .int x5), (7, .int v7), (8, .int v8), (9, .int v9)]) (hw : w_X9_places_b174 x1 x2 x3 x4 x5 c84 K v7 v8 v9 st) : W p l e (rmm 6 137) s m args below meth c H locs 0 0 (MQ below (va_Qi K (gB 17 enM y) (gA 17 y)) args s 0 0 (gA 17 y)) (F0 m 174 ls []) := by
  obtain ⟨hx, hb, hml, hown, hts, hr, hlk, hK, hN⟩ := id C
  unfold w_X9_places_b174 at hw
  refine lv_iinc (v := (v9 + 1)) (lv' := [(9, .int (v9 + 1)), (0, .ref (ad y 0)), (1, .int x1), (2, .int x2), (3, .int x3), (4, .int x4), (5, .int x5), (7, .int v7), (8, .int v8)]) hx hb dX9_places_174 hl (k := 8) rfl rfl (Nat.le_of_ble_eq_true rfl) rfl (fun ls hl => ?_)
  refine lv_goto (tgt := 84) hx hb dX9_places_177 (by decide) ?_
  exact hc84 v7 v8 (v9 + 1) st H locs _ hG (lv_sub hl [1, 2, 3, 4, 5, 6, 7, 8, 0] rfl) hw
set_option maxRecDepth 100000 in
set_option maxHeartbeats 4000000 in
theorem z_X9_places_b180 {p : Program} {e : Env} {s : State} {m : MethodId} {args : Array Value} {below : List Frame} {meth : Method} {c : Code} (l : Launch) (y : Sy) (x1 : Int32) (x2 : Int32) (x3 : Int32) (x4 : Int32) (x5 : Int32) (C : Sd p s m args meth c cX9_places 11 RX9 (some .int) y)  (K : Int32 → St → Prop)  (v7 : Int32) (v8 : Int32) (st : St) {H : Heap} {locs : List Loc} {ls : Array Slot} (hG : gH 17 enM y st s H locs) (hl : lv_has ls 11 [(0, .ref (ad y 0)), (5, .int x5), (7, .int v7), (8, .int v8)]) (hw : w_X9_places_b180 x1 x2 x3 x4 x5  K v7 v8 st) : W p l e (rmm 6 137) s m args below meth c H locs 0 0 (MQ below (va_Qi K (gB 17 enM y) (gA 17 y)) args s 0 0 (gA 17 y)) (F0 m 180 ls []) := by
  obtain ⟨hx, hb, hml, hown, hts, hr, hlk, hK, hN⟩ := id C
  unfold w_X9_places_b180 at hw
  refine lv_aload_n hx hb dX9_places_180 rfl (lv_at hl 0 rfl) ?_
  refine r_kv (r_run_V (k := 0) (As := []) (rest := []) hx hb hml hown hts hK hN hG (c_X9_changesBack l y  st _ hw) (by decide) rfl rfl rfl qM_X9_253 qI_X9_changesBack qS_X9_changesBack qN_X9 qC_X9_changesBack hd_X9_changesBack ⟨Nat.le_of_ble_eq_true rfl, Nat.le_of_ble_eq_true rfl⟩ hl.1 rfl (Nat.le_of_ble_eq_true rfl) dX9_places_181) hG (fun st181 H locs hw hG => ?_)
  refine lv_iload hx hb dX9_places_184 (lv_at hl 1 rfl) ?_
  refine lv_if_ne (tgt := 194) hx hb dX9_places_186 (by decide) (fun hc => ?_) (fun hc => ?_)
  · replace hw := hw.1 hc
    refine lv_iload hx hb dX9_places_194 (lv_at hl 3 rfl) ?_
    exact r_iret hx hb hr hlk hK hG rfl hw dX9_places_196
  · replace hw := hw.2 hc
    refine lv_iload hx hb dX9_places_189 (lv_at hl 2 rfl) ?_
    refine lv_goto (tgt := 196) hx hb dX9_places_191 (by decide) ?_
    exact r_iret hx hb hr hlk hK hG rfl hw dX9_places_196
set_option maxRecDepth 100000 in
set_option maxHeartbeats 4000000 in
theorem z_X9_places_L84 {p : Program} {e : Env} {s : State} {m : MethodId} {args : Array Value} {below : List Frame} {meth : Method} {c : Code} (l : Launch) (y : Sy) (x1 : Int32) (x2 : Int32) (x3 : Int32) (x4 : Int32) (x5 : Int32) (C : Sd p s m args meth c cX9_places 11 RX9 (some .int) y)  (K : Int32 → St → Prop)  : ∀ (n : Nat) (v7 : Int32) (v8 : Int32) (v9 : Int32) (st : St) (H : Heap) (locs : List Loc) (ls : Array Slot), gH 17 enM y st s H locs → lv_has ls 11 [(0, .ref (ad y 0)), (1, .int x1), (2, .int x2), (3, .int x3), (4, .int x4), (5, .int x5), (7, .int v7), (8, .int v8), (9, .int v9)] → w_X9_places_L84 x1 x2 x3 x4 x5  K n v7 v8 v9 st → W p l e (rmm 6 137) s m args below meth c H locs 0 0 (MQ below (va_Qi K (gB 17 enM y) (gA 17 y)) args s 0 0 (gA 17 y)) (F0 m 84 ls []) := by
  obtain ⟨hx, hb, hml, hown, hts, hr, hlk, hK, hN⟩ := id C
  intro n
  induction n with
  | zero => intro v7 v8 v9 st H locs ls hG hl hw; exact False.elim hw
  | succ n hc84 =>
    intro v7 v8 v9 st H locs ls hG hl hw
    have hw : w_X9_places_L84q x1 x2 x3 x4 x5  K (fun v7 v8 v9 st => w_X9_places_L84 x1 x2 x3 x4 x5  K n v7 v8 v9 st) v7 v8 v9 st := hw
    unfold w_X9_places_L84q at hw
    refine lv_iload hx hb dX9_places_84 (lv_at hl 8 rfl) ?_
    refine lv_bipush (v := 64) hx hb dX9_places_86 (by decide) ?_
    refine lv_icmp_ge (tgt := 180) hx hb dX9_places_88 (by decide) (fun hc => ?_) (fun hc => ?_)
    · replace hw := hw.1 hc
      exact z_X9_places_b180 l y x1 x2 x3 x4 x5 C  K  v7 v8 st hG (lv_sub hl [0, 5, 6, 7] rfl) hw
    · replace hw := hw.2 hc
      refine lv_aload_n hx hb dX9_places_91 rfl (lv_at hl 0 rfl) ?_
      refine r_get (C := RX9) (T := TX9) (Nf := 31) hx hb hts hown hK hG (by decide) rfl rfl inX9 3 (by decide) qF_X9_19 rfl dX9_places_92 ?_
      refine lv_iload_n hx hb dX9_places_95 rfl (lv_at hl 1 rfl) ?_
      refine lv_iload hx hb dX9_places_96 (lv_at hl 8 rfl) ?_
      refine lv_bipush (v := 16) hx hb dX9_places_98 (by decide) ?_
      refine lv_idiv hx hb dX9_places_100 (by decide) ?_
      obtain ⟨hi, hw⟩ := hw
      refine r_iast hx hb hK hG (isB_4).1 (fun f => (isB_4).2 y f) hi dX9_places_101 (fun H locs hG => ?_)
      refine lv_aload_n hx hb dX9_places_102 rfl (lv_at hl 0 rfl) ?_
      refine r_get (C := RX9) (T := TX9) (Nf := 31) hx hb hts hown hK hG (by decide) rfl rfl inX9 3 (by decide) qF_X9_19 rfl dX9_places_103 ?_
      refine lv_iload_n hx hb dX9_places_106 rfl (lv_at hl 2 rfl) ?_
      refine lv_iload hx hb dX9_places_107 (lv_at hl 8 rfl) ?_
      refine lv_iconst (v := 4) hx hb dX9_places_109 (by decide) ?_
      refine lv_idiv hx hb dX9_places_110 (by decide) ?_
      refine lv_iconst (v := 4) hx hb dX9_places_111 (by decide) ?_
      refine lv_irem hx hb dX9_places_112 (by decide) ?_
      obtain ⟨hi, hw⟩ := hw
      refine r_iast hx hb hK hG (isB_4).1 (fun f => (isB_4).2 y f) hi dX9_places_113 (fun H locs hG => ?_)
      refine lv_aload_n hx hb dX9_places_114 rfl (lv_at hl 0 rfl) ?_
      refine r_get (C := RX9) (T := TX9) (Nf := 31) hx hb hts hown hK hG (by decide) rfl rfl inX9 3 (by decide) qF_X9_19 rfl dX9_places_115 ?_
      refine lv_iload_n hx hb dX9_places_118 rfl (lv_at hl 3 rfl) ?_
      refine lv_iload hx hb dX9_places_119 (lv_at hl 8 rfl) ?_
      refine lv_iconst (v := 4) hx hb dX9_places_121 (by decide) ?_
      refine lv_irem hx hb dX9_places_122 (by decide) ?_
      obtain ⟨hi, hw⟩ := hw
      refine r_iast hx hb hK hG (isB_4).1 (fun f => (isB_4).2 y f) hi dX9_places_123 (fun H locs hG => ?_)
      refine lv_aload_n hx hb dX9_places_124 rfl (lv_at hl 0 rfl) ?_
      refine lv_iload hx hb dX9_places_125 (lv_at hl 4 rfl) ?_
      refine r_ki (r_run_V (k := 0) (As := [.int x4]) (rest := []) hx hb hml hown hts hK hN hG (c_X9_openIn l y x4 (u2 (u2 (u2 st 4 (x1).toNatClampNeg (v9 / 16)) 4 (x2).toNatClampNeg ((v9 / 4) - (v9 / 4) / 4 * 4)) 4 (x3).toNatClampNeg (v9 - v9 / 4 * 4)) _ hw) (by decide) rfl rfl rfl qM_X9_229 qI_X9_openIn qS_X9_openIn qN_X9 qC_X9_openIn hd_X9_openIn ⟨Nat.le_of_ble_eq_true rfl, Nat.le_of_ble_eq_true rfl⟩ hl.1 rfl (Nat.le_of_ble_eq_true rfl) dX9_places_127) hG (fun r127 st127 H locs hw hG => ?_)
      refine r_ki (r_run_S (As := [.int r127]) (rest := []) hx hb hml hown hts hK hN hG (c_X9_bits l y r127 st127 _ hw) qM_X9_214 qT_X9_bits qN_X9 qC_X9_bits hd_X9_bits ⟨Nat.le_of_ble_eq_true rfl, Nat.le_of_ble_eq_true rfl⟩ hl.1 rfl (Nat.le_of_ble_eq_true rfl) dX9_places_130) hG (fun r130 st130 H locs hw hG => ?_)
      refine lv_istore (lv' := [(10, .int r130), (0, .ref (ad y 0)), (1, .int x1), (2, .int x2), (3, .int x3), (4, .int x4), (5, .int x5), (7, .int v7), (8, .int v8), (9, .int v9)]) hx hb dX9_places_133 hl (Nat.le_of_ble_eq_true rfl) rfl (fun ls hl => ?_)
      refine lv_iload hx hb dX9_places_135 (lv_at hl 0 rfl) ?_
      refine lv_iload hx hb dX9_places_137 (lv_at hl 8 rfl) ?_
      refine lv_icmp_gt (tgt := 145) hx hb dX9_places_139 (by decide) (fun hc => ?_) (fun hc => ?_)
      · replace hw := hw.1 hc
        refine lv_bipush (v := 100) hx hb dX9_places_145 (by decide) ?_
        refine lv_iload hx hb dX9_places_147 (lv_at hl 9 rfl) ?_
        refine lv_bipush (v := 16) hx hb dX9_places_149 (by decide) ?_
        refine lv_idiv hx hb dX9_places_151 (by decide) ?_
        refine lv_imul hx hb dX9_places_152 ?_
        refine lv_bipush (v := 10) hx hb dX9_places_153 (by decide) ?_
        refine lv_iload hx hb dX9_places_155 (lv_at hl 9 rfl) ?_
        refine lv_iconst (v := 4) hx hb dX9_places_157 (by decide) ?_
        refine lv_idiv hx hb dX9_places_158 (by decide) ?_
        refine lv_iconst (v := 4) hx hb dX9_places_159 (by decide) ?_
        refine lv_irem hx hb dX9_places_160 (by decide) ?_
        refine lv_imul hx hb dX9_places_161 ?_
        refine lv_iadd hx hb dX9_places_162 ?_
        refine lv_iload hx hb dX9_places_163 (lv_at hl 9 rfl) ?_
        refine lv_iconst (v := 4) hx hb dX9_places_165 (by decide) ?_
        refine lv_irem hx hb dX9_places_166 (by decide) ?_
        refine lv_iadd hx hb dX9_places_167 ?_
        refine lv_istore (lv' := [(7, .int (((100 * (v9 / 16)) + (10 * ((v9 / 4) - (v9 / 4) / 4 * 4))) + (v9 - v9 / 4 * 4))), (10, .int r130), (0, .ref (ad y 0)), (1, .int x1), (2, .int x2), (3, .int x3), (4, .int x4), (5, .int x5), (8, .int v8), (9, .int v9)]) hx hb dX9_places_168 hl (Nat.le_of_ble_eq_true rfl) rfl (fun ls hl => ?_)
        refine lv_iload hx hb dX9_places_170 (lv_at hl 1 rfl) ?_
        refine lv_istore (lv' := [(8, .int r130), (7, .int (((100 * (v9 / 16)) + (10 * ((v9 / 4) - (v9 / 4) / 4 * 4))) + (v9 - v9 / 4 * 4))), (10, .int r130), (0, .ref (ad y 0)), (1, .int x1), (2, .int x2), (3, .int x3), (4, .int x4), (5, .int x5), (9, .int v9)]) hx hb dX9_places_172 hl (Nat.le_of_ble_eq_true rfl) rfl (fun ls hl => ?_)
        exact z_X9_places_b174 l y x1 x2 x3 x4 x5 C (fun v7 v8 v9 st => w_X9_places_L84 x1 x2 x3 x4 x5  K n v7 v8 v9 st) K hc84 (((100 * (v9 / 16)) + (10 * ((v9 / 4) - (v9 / 4) / 4 * 4))) + (v9 - v9 / 4 * 4)) r130 v9 st130 hG (lv_sub hl [3, 4, 5, 6, 7, 8, 1, 0, 9] rfl) hw
      · replace hw := hw.2 hc
        refine lv_goto (tgt := 174) hx hb dX9_places_142 (by decide) ?_
        exact z_X9_places_b174 l y x1 x2 x3 x4 x5 C (fun v7 v8 v9 st => w_X9_places_L84 x1 x2 x3 x4 x5  K n v7 v8 v9 st) K hc84 v7 v8 v9 st130 hG (lv_sub hl [1, 2, 3, 4, 5, 6, 7, 8, 9] rfl) hw
set_option maxRecDepth 100000 in
set_option maxHeartbeats 4000000 in
theorem z_X9_places_b57 {p : Program} {e : Env} {s : State} {m : MethodId} {args : Array Value} {below : List Frame} {meth : Method} {c : Code} (l : Launch) (y : Sy) (x1 : Int32) (x2 : Int32) (x3 : Int32) (x4 : Int32) (x5 : Int32) (C : Sd p s m args meth c cX9_places 11 RX9 (some .int) y)  (K : Int32 → St → Prop)  (v6 : Int32) (st : St) {H : Heap} {locs : List Loc} {ls : Array Slot} (hG : gH 17 enM y st s H locs) (hl : lv_has ls 11 [(0, .ref (ad y 0)), (1, .int x1), (2, .int x2), (3, .int x3), (4, .int x4), (5, .int x5), (6, .int v6)]) (hw : w_X9_places_b57 x1 x2 x3 x4 x5  K v6 st) : W p l e (rmm 6 137) s m args below meth c H locs 0 0 (MQ below (va_Qi K (gB 17 enM y) (gA 17 y)) args s 0 0 (gA 17 y)) (F0 m 57 ls []) := by
  obtain ⟨hx, hb, hml, hown, hts, hr, hlk, hK, hN⟩ := id C
  unfold w_X9_places_b57 at hw
  refine lv_iload hx hb dX9_places_57 (lv_at hl 6 rfl) ?_
  refine lv_if_eq (tgt := 69) hx hb dX9_places_59 (by decide) (fun hc => ?_) (fun hc => ?_)
  · replace hw := hw.1 hc
    refine lv_bipush (v := (-9)) hx hb dX9_places_69 (by decide) ?_
    refine lv_istore (lv' := [(7, .int (-9)), (0, .ref (ad y 0)), (1, .int x1), (2, .int x2), (3, .int x3), (4, .int x4), (5, .int x5), (6, .int v6)]) hx hb dX9_places_71 hl (Nat.le_of_ble_eq_true rfl) rfl (fun ls hl => ?_)
    refine lv_bipush (v := (-9)) hx hb dX9_places_73 (by decide) ?_
    refine lv_istore (lv' := [(8, .int (-9)), (7, .int (-9)), (0, .ref (ad y 0)), (1, .int x1), (2, .int x2), (3, .int x3), (4, .int x4), (5, .int x5), (6, .int v6)]) hx hb dX9_places_75 hl (Nat.le_of_ble_eq_true rfl) rfl (fun ls hl => ?_)
    refine lv_aload_n hx hb dX9_places_77 rfl (lv_at hl 2 rfl) ?_
    refine r_kv (r_run_V (k := 0) (As := []) (rest := []) hx hb hml hown hts hK hN hG (c_X9_changes l y  st _ hw) (by decide) rfl rfl rfl qM_X9_250 qI_X9_changes qS_X9_changes qN_X9 qC_X9_changes hd_X9_changes ⟨Nat.le_of_ble_eq_true rfl, Nat.le_of_ble_eq_true rfl⟩ hl.1 rfl (Nat.le_of_ble_eq_true rfl) dX9_places_78) hG (fun st78 H locs hw hG => ?_)
    refine lv_iconst (v := 0) hx hb dX9_places_81 (by decide) ?_
    refine lv_istore (lv' := [(9, .int 0), (8, .int (-9)), (7, .int (-9)), (0, .ref (ad y 0)), (1, .int x1), (2, .int x2), (3, .int x3), (4, .int x4), (5, .int x5), (6, .int v6)]) hx hb dX9_places_82 hl (Nat.le_of_ble_eq_true rfl) rfl (fun ls hl => ?_)
    obtain ⟨n84, hw⟩ := hw
    exact z_X9_places_L84 l y x1 x2 x3 x4 x5 C  K  n84 (-9) (-9) 0 st78 H locs _ hG (lv_sub hl [3, 4, 5, 6, 7, 8, 2, 1, 0] rfl) hw
  · replace hw := hw.2 hc
    refine lv_aload_n hx hb dX9_places_62 rfl (lv_at hl 0 rfl) ?_
    refine lv_iload hx hb dX9_places_63 (lv_at hl 6 rfl) ?_
    refine r_ki (r_run_V (k := 0) (As := [.int v6]) (rest := []) hx hb hml hown hts hK hN hG (c_X9_no l y v6 st _ hw) (by decide) rfl rfl rfl qM_X9_79 qI_X9_no qS_X9_no qN_X9 qC_X9_no hd_X9_no ⟨Nat.le_of_ble_eq_true rfl, Nat.le_of_ble_eq_true rfl⟩ hl.1 rfl (Nat.le_of_ble_eq_true rfl) dX9_places_65) hG (fun r65 st65 H locs hw hG => ?_)
    exact r_iret hx hb hr hlk hK hG rfl hw dX9_places_68
set_option maxRecDepth 100000 in
set_option maxHeartbeats 4000000 in
theorem z_X9_places_b36 {p : Program} {e : Env} {s : State} {m : MethodId} {args : Array Value} {below : List Frame} {meth : Method} {c : Code} (l : Launch) (y : Sy) (x1 : Int32) (x2 : Int32) (x3 : Int32) (x4 : Int32) (x5 : Int32) (C : Sd p s m args meth c cX9_places 11 RX9 (some .int) y)  (K : Int32 → St → Prop)  (s0 : Int32) (st : St) {H : Heap} {locs : List Loc} {ls : Array Slot} (hG : gH 17 enM y st s H locs) (hl : lv_has ls 11 [(0, .ref (ad y 0)), (1, .int x1), (2, .int x2), (3, .int x3), (4, .int x4), (5, .int x5)]) (hw : w_X9_places_b36 x1 x2 x3 x4 x5  K s0 st) : W p l e (rmm 6 137) s m args below meth c H locs 0 0 (MQ below (va_Qi K (gB 17 enM y) (gA 17 y)) args s 0 0 (gA 17 y)) (F0 m 36 ls [.int s0]) := by
  obtain ⟨hx, hb, hml, hown, hts, hr, hlk, hK, hN⟩ := id C
  unfold w_X9_places_b36 at hw
  refine lv_istore (lv' := [(6, .int s0), (0, .ref (ad y 0)), (1, .int x1), (2, .int x2), (3, .int x3), (4, .int x4), (5, .int x5)]) hx hb dX9_places_36 hl (Nat.le_of_ble_eq_true rfl) rfl (fun ls hl => ?_)
  refine lv_iload hx hb dX9_places_38 (lv_at hl 0 rfl) ?_
  refine lv_if_ne (tgt := 57) hx hb dX9_places_40 (by decide) (fun hc => ?_) (fun hc => ?_)
  · replace hw := hw.1 hc
    exact z_X9_places_b57 l y x1 x2 x3 x4 x5 C  K  s0 st hG (lv_sub hl [1, 2, 3, 4, 5, 6, 0] rfl) hw
  · replace hw := hw.2 hc
    refine lv_iload hx hb dX9_places_43 (lv_at hl 6 rfl) ?_
    refine lv_iconst (v := 0) hx hb dX9_places_45 (by decide) ?_
    refine lv_iconst (v := 1) hx hb dX9_places_46 (by decide) ?_
    refine r_ki (r_run_S (As := [.int x5, .int 0, .int 1]) (rest := []) hx hb hml hown hts hK hN hG (c_X9_isIn l y x5 0 1 st _ hw) qM_X9_90 qT_X9_isIn qN_X9 qC_X9_isIn hd_X9_isIn ⟨Nat.le_of_ble_eq_true rfl, Nat.le_of_ble_eq_true rfl⟩ hl.1 rfl (Nat.le_of_ble_eq_true rfl) dX9_places_47) hG (fun r47 st47 H locs hw hG => ?_)
    refine lv_if_ne (tgt := 57) hx hb dX9_places_50 (by decide) (fun hc => ?_) (fun hc => ?_)
    · replace hw := hw.1 hc
      exact z_X9_places_b57 l y x1 x2 x3 x4 x5 C  K  s0 st47 hG (lv_sub hl [1, 2, 3, 4, 5, 6, 0] rfl) hw
    · replace hw := hw.2 hc
      refine lv_bipush (v := (-2)) hx hb dX9_places_53 (by decide) ?_
      refine lv_istore (lv' := [(6, .int (-2)), (0, .ref (ad y 0)), (1, .int x1), (2, .int x2), (3, .int x3), (4, .int x4), (5, .int x5)]) hx hb dX9_places_55 hl (Nat.le_of_ble_eq_true rfl) rfl (fun ls hl => ?_)
      exact z_X9_places_b57 l y x1 x2 x3 x4 x5 C  K  (-2) st47 hG (lv_sub hl [1, 2, 3, 4, 5, 6, 0] rfl) hw
set_option maxRecDepth 100000 in
set_option maxHeartbeats 4000000 in
theorem z_X9_places_b27 {p : Program} {e : Env} {s : State} {m : MethodId} {args : Array Value} {below : List Frame} {meth : Method} {c : Code} (l : Launch) (y : Sy) (x1 : Int32) (x2 : Int32) (x3 : Int32) (x4 : Int32) (x5 : Int32) (C : Sd p s m args meth c cX9_places 11 RX9 (some .int) y)  (K : Int32 → St → Prop)   (st : St) {H : Heap} {locs : List Loc} {ls : Array Slot} (hG : gH 17 enM y st s H locs) (hl : lv_has ls 11 [(0, .ref (ad y 0)), (1, .int x1), (2, .int x2), (3, .int x3), (4, .int x4), (5, .int x5)]) (hw : w_X9_places_b27 x1 x2 x3 x4 x5  K  st) : W p l e (rmm 6 137) s m args below meth c H locs 0 0 (MQ below (va_Qi K (gB 17 enM y) (gA 17 y)) args s 0 0 (gA 17 y)) (F0 m 27 ls []) := by
  obtain ⟨hx, hb, hml, hown, hts, hr, hlk, hK, hN⟩ := id C
  unfold w_X9_places_b27 at hw
  refine lv_iconst (v := (-1)) hx hb dX9_places_27 (by decide) ?_
  refine lv_goto (tgt := 36) hx hb dX9_places_28 (by decide) ?_
  exact z_X9_places_b36 l y x1 x2 x3 x4 x5 C  K  (-1) st hG (lv_sub hl [0, 1, 2, 3, 4, 5] rfl) hw
theorem hd_X9_places : yX9_places.cls ≠ "java/lang/invoke/MethodHandle" ∧ yX9_places.cls ≠ "java/lang/invoke/VarHandle" ∧ (parseMethodDescriptor yX9_places.desc).map (fun d => d.parameters.length) = some 5 := by decide +kernel
set_option maxRecDepth 100000 in
set_option maxHeartbeats 4000000 in
theorem c_X9_places (l : Launch) (y : Sy) (x1 : Int32) (x2 : Int32) (x3 : Int32) (x4 : Int32) (x5 : Int32) (st : St) (K : Int32 → St → Prop) (hw : w_X9_places x1 x2 x3 x4 x5 st K) : Ci 17 enM l yX9_places cX9_places 11 (some .int) 6 137 y [.ref (ad y 0), .int x1, .int x2, .int x3, .int x4, .int x5] st K := by
  refine ent (by decide) (Nat.le_of_ble_eq_true rfl) ?_
  intro p e s m below meth c C hG ls hl
  have hl : lv_has ls 11 [(0, .ref (ad y 0)), (1, .int x1), (2, .int x2), (3, .int x3), (4, .int x4), (5, .int x5)] := hl
  generalize ([.ref (ad y 0), .int x1, .int x2, .int x3, .int x4, .int x5] : List Value).toArray = args at C ⊢
  have C : Sd p s m args meth c cX9_places 11 RX9 (some .int) y := C
  obtain ⟨hx, hb, hml, hown, hts, hr, hlk, hK, hN⟩ := id C
  generalize s.heap = H at hG ⊢
  generalize ([] : List Loc) = locs at hG ⊢
  unfold w_X9_places at hw
  refine lv_aload_n hx hb dX9_places_0 rfl (lv_at hl 0 rfl) ?_
  refine lv_iload_n hx hb dX9_places_1 rfl (lv_at hl 1 rfl) ?_
  refine lv_iload_n hx hb dX9_places_2 rfl (lv_at hl 2 rfl) ?_
  refine r_ki (r_run_V (k := 0) (As := [.int x1, .int x2]) (rest := []) hx hb hml hown hts hK hN hG (c_X9_areTwo l y x1 x2 st _ hw) (by decide) rfl rfl rfl qM_X9_125 qI_X9_areTwo qS_X9_areTwo qN_X9 qC_X9_areTwo hd_X9_areTwo ⟨Nat.le_of_ble_eq_true rfl, Nat.le_of_ble_eq_true rfl⟩ hl.1 rfl (Nat.le_of_ble_eq_true rfl) dX9_places_3) hG (fun r3 st3 H locs hw hG => ?_)
  refine lv_if_eq (tgt := 27) hx hb dX9_places_6 (by decide) (fun hc => ?_) (fun hc => ?_)
  · replace hw := hw.1 hc
    exact z_X9_places_b27 l y x1 x2 x3 x4 x5 C  K  st3 hG (lv_sub hl [0, 1, 2, 3, 4, 5] rfl) hw
  · replace hw := hw.2 hc
    refine lv_aload_n hx hb dX9_places_9 rfl (lv_at hl 0 rfl) ?_
    refine lv_iload_n hx hb dX9_places_10 rfl (lv_at hl 1 rfl) ?_
    refine lv_iload_n hx hb dX9_places_11 rfl (lv_at hl 3 rfl) ?_
    refine r_ki (r_run_V (k := 0) (As := [.int x1, .int x3]) (rest := []) hx hb hml hown hts hK hN hG (c_X9_areTwo l y x1 x3 st3 _ hw) (by decide) rfl rfl rfl qM_X9_125 qI_X9_areTwo qS_X9_areTwo qN_X9 qC_X9_areTwo hd_X9_areTwo ⟨Nat.le_of_ble_eq_true rfl, Nat.le_of_ble_eq_true rfl⟩ hl.1 rfl (Nat.le_of_ble_eq_true rfl) dX9_places_12) hG (fun r12 st12 H locs hw hG => ?_)
    refine lv_if_eq (tgt := 27) hx hb dX9_places_15 (by decide) (fun hc => ?_) (fun hc => ?_)
    · replace hw := hw.1 hc
      exact z_X9_places_b27 l y x1 x2 x3 x4 x5 C  K  st12 hG (lv_sub hl [0, 1, 2, 3, 4, 5] rfl) hw
    · replace hw := hw.2 hc
      refine lv_aload_n hx hb dX9_places_18 rfl (lv_at hl 0 rfl) ?_
      refine lv_iload_n hx hb dX9_places_19 rfl (lv_at hl 2 rfl) ?_
      refine lv_iload_n hx hb dX9_places_20 rfl (lv_at hl 3 rfl) ?_
      refine r_ki (r_run_V (k := 0) (As := [.int x2, .int x3]) (rest := []) hx hb hml hown hts hK hN hG (c_X9_areTwo l y x2 x3 st12 _ hw) (by decide) rfl rfl rfl qM_X9_125 qI_X9_areTwo qS_X9_areTwo qN_X9 qC_X9_areTwo hd_X9_areTwo ⟨Nat.le_of_ble_eq_true rfl, Nat.le_of_ble_eq_true rfl⟩ hl.1 rfl (Nat.le_of_ble_eq_true rfl) dX9_places_21) hG (fun r21 st21 H locs hw hG => ?_)
      refine lv_if_ne (tgt := 31) hx hb dX9_places_24 (by decide) (fun hc => ?_) (fun hc => ?_)
      · replace hw := hw.1 hc
        refine lv_iload hx hb dX9_places_31 (lv_at hl 4 rfl) ?_
        refine r_ki (r_run_S (As := [.int x4]) (rest := []) hx hb hml hown hts hK hN hG (c_X9_notWeeks l y x4 st21 _ hw) qM_X9_223 qT_X9_notWeeks qN_X9 qC_X9_notWeeks hd_X9_notWeeks ⟨Nat.le_of_ble_eq_true rfl, Nat.le_of_ble_eq_true rfl⟩ hl.1 rfl (Nat.le_of_ble_eq_true rfl) dX9_places_33) hG (fun r33 st33 H locs hw hG => ?_)
        exact z_X9_places_b36 l y x1 x2 x3 x4 x5 C  K  r33 st33 hG (lv_sub hl [0, 1, 2, 3, 4, 5] rfl) hw
      · replace hw := hw.2 hc
        exact z_X9_places_b27 l y x1 x2 x3 x4 x5 C  K  st21 hG (lv_sub hl [0, 1, 2, 3, 4, 5] rfl) hw
