set_option maxRecDepth 100000 in
set_option maxHeartbeats 4000000 in
theorem z_X4_meetingWays_b68 {p : Program} {e : Env} {s : State} {m : MethodId} {args : Array Value} {below : List Frame} {meth : Method} {c : Code} (l : Launch) (y : Sy) (x1 : Int32) (x2 : Int32) (x3 : Int32) (x4 : Int32) (x5 : Int32) (C : Sd p s m args meth c cX4_meetingWays 10 RX4 (some .long) y) (c6 : Int64 → Int32 → St → Prop) (c29 : Int64 → Int32 → Int32 → St → Prop) (K : Int64 → St → Prop) (hc6 : ∀ (v6 : Int64) (v8 : Int32) (st : St) (H : Heap) (locs : List Loc) (ls : Array Slot), gH 107 enX y st s H locs → lv_has ls 10 [(0, .ref (ad y 10)), (1, .int x1), (2, .int x2), (3, .int x3), (4, .int x4), (5, .int x5), (6, .long v6), (8, .int v8)] → c6 v6 v8 st → W p l e (rmm 4 95) s m args below meth c H locs 0 0 (MQ below (va_Ql K (gB 107 enX y) (gA 107 y)) args s 0 0 (gA 107 y)) (F0 m 6 ls [])) (hc29 : ∀ (v6 : Int64) (v8 : Int32) (v9 : Int32) (st : St) (H : Heap) (locs : List Loc) (ls : Array Slot), gH 107 enX y st s H locs → lv_has ls 10 [(0, .ref (ad y 10)), (1, .int x1), (2, .int x2), (3, .int x3), (4, .int x4), (5, .int x5), (6, .long v6), (8, .int v8), (9, .int v9)] → c29 v6 v8 v9 st → W p l e (rmm 4 95) s m args below meth c H locs 0 0 (MQ below (va_Ql K (gB 107 enX y) (gA 107 y)) args s 0 0 (gA 107 y)) (F0 m 29 ls [])) (v6 : Int64) (v8 : Int32) (v9 : Int32) (st : St) {H : Heap} {locs : List Loc} {ls : Array Slot} (hG : gH 107 enX y st s H locs) (hl : lv_has ls 10 [(0, .ref (ad y 10)), (1, .int x1), (2, .int x2), (3, .int x3), (4, .int x4), (5, .int x5), (6, .long v6), (8, .int v8), (9, .int v9)]) (hw : w_X4_meetingWays_b68 x1 x2 x3 x4 x5 c6 c29 K v6 v8 v9 st) : W p l e (rmm 4 95) s m args below meth c H locs 0 0 (MQ below (va_Ql K (gB 107 enX y) (gA 107 y)) args s 0 0 (gA 107 y)) (F0 m 68 ls []) := by
  obtain ⟨hx, hb, hml, hown, hts, hr, hlk, hK, hN⟩ := id C
  unfold w_X4_meetingWays_b68 at hw
  refine lv_aload_n hx hb dX4_meetingWays_68 rfl (lv_at hl 0 rfl) ?_
  refine r_get (C := RX4) (T := TX4) (Nf := 2) hx hb hts hown hK hG (by decide) rfl rfl inX4 1 (by decide) qF_X4_12 rfl dX4_meetingWays_69 ?_
  refine r_ki (r_run_V (k := 99) (As := []) (rest := []) hx hb hml hown hts hK hN hG (c_X1_passWeek l y 99 isC_99 st _ hw) (isC.lt isC_99) (isC.e isC_99 y _) rfl rfl qM_X4_44 qI_X1_passWeek qS_X1_passWeek qN_X1 qC_X1_passWeek hd_X1_passWeek ⟨Nat.le_of_ble_eq_true rfl, Nat.le_of_ble_eq_true rfl⟩ hl.1 rfl (Nat.le_of_ble_eq_true rfl) dX4_meetingWays_72) hG (fun r72 st72 H locs hw hG => ?_)
  refine lv_pop hx hb dX4_meetingWays_75 rfl ?_
  refine lv_iinc (v := (v9 + 1)) (lv' := [(9, .int (v9 + 1)), (0, .ref (ad y 10)), (1, .int x1), (2, .int x2), (3, .int x3), (4, .int x4), (5, .int x5), (6, .long v6), (8, .int v8)]) hx hb dX4_meetingWays_76 hl (k := 8) rfl rfl (Nat.le_of_ble_eq_true rfl) rfl (fun ls hl => ?_)
  refine lv_goto (tgt := 29) hx hb dX4_meetingWays_79 (by decide) ?_
  exact hc29 v6 v8 (v9 + 1) st72 H locs _ hG (lv_sub hl [1, 2, 3, 4, 5, 6, 7, 8, 0] rfl) hw
set_option maxRecDepth 100000 in
set_option maxHeartbeats 4000000 in
theorem z_X4_meetingWays_b113 {p : Program} {e : Env} {s : State} {m : MethodId} {args : Array Value} {below : List Frame} {meth : Method} {c : Code} (l : Launch) (y : Sy) (x1 : Int32) (x2 : Int32) (x3 : Int32) (x4 : Int32) (x5 : Int32) (C : Sd p s m args meth c cX4_meetingWays 10 RX4 (some .long) y) (c6 : Int64 → Int32 → St → Prop) (K : Int64 → St → Prop) (hc6 : ∀ (v6 : Int64) (v8 : Int32) (st : St) (H : Heap) (locs : List Loc) (ls : Array Slot), gH 107 enX y st s H locs → lv_has ls 10 [(0, .ref (ad y 10)), (1, .int x1), (2, .int x2), (3, .int x3), (4, .int x4), (5, .int x5), (6, .long v6), (8, .int v8)] → c6 v6 v8 st → W p l e (rmm 4 95) s m args below meth c H locs 0 0 (MQ below (va_Ql K (gB 107 enX y) (gA 107 y)) args s 0 0 (gA 107 y)) (F0 m 6 ls [])) (v6 : Int64) (v8 : Int32) (st : St) {H : Heap} {locs : List Loc} {ls : Array Slot} (hG : gH 107 enX y st s H locs) (hl : lv_has ls 10 [(0, .ref (ad y 10)), (1, .int x1), (2, .int x2), (3, .int x3), (4, .int x4), (5, .int x5), (6, .long v6), (8, .int v8)]) (hw : w_X4_meetingWays_b113 x1 x2 x3 x4 x5 c6 K v6 v8 st) : W p l e (rmm 4 95) s m args below meth c H locs 0 0 (MQ below (va_Ql K (gB 107 enX y) (gA 107 y)) args s 0 0 (gA 107 y)) (F0 m 113 ls []) := by
  obtain ⟨hx, hb, hml, hown, hts, hr, hlk, hK, hN⟩ := id C
  unfold w_X4_meetingWays_b113 at hw
  refine lv_iinc (v := (v8 + 1)) (lv' := [(8, .int (v8 + 1)), (0, .ref (ad y 10)), (1, .int x1), (2, .int x2), (3, .int x3), (4, .int x4), (5, .int x5), (6, .long v6)]) hx hb dX4_meetingWays_113 hl (k := 7) rfl rfl (Nat.le_of_ble_eq_true rfl) rfl (fun ls hl => ?_)
  refine lv_goto (tgt := 6) hx hb dX4_meetingWays_116 (by decide) ?_
  exact hc6 v6 (v8 + 1) st H locs _ hG (lv_sub hl [1, 2, 3, 4, 5, 6, 7, 0] rfl) hw
set_option maxRecDepth 100000 in
set_option maxHeartbeats 4000000 in
theorem z_X4_meetingWays_b82 {p : Program} {e : Env} {s : State} {m : MethodId} {args : Array Value} {below : List Frame} {meth : Method} {c : Code} (l : Launch) (y : Sy) (x1 : Int32) (x2 : Int32) (x3 : Int32) (x4 : Int32) (x5 : Int32) (C : Sd p s m args meth c cX4_meetingWays 10 RX4 (some .long) y) (c6 : Int64 → Int32 → St → Prop) (K : Int64 → St → Prop) (hc6 : ∀ (v6 : Int64) (v8 : Int32) (st : St) (H : Heap) (locs : List Loc) (ls : Array Slot), gH 107 enX y st s H locs → lv_has ls 10 [(0, .ref (ad y 10)), (1, .int x1), (2, .int x2), (3, .int x3), (4, .int x4), (5, .int x5), (6, .long v6), (8, .int v8)] → c6 v6 v8 st → W p l e (rmm 4 95) s m args below meth c H locs 0 0 (MQ below (va_Ql K (gB 107 enX y) (gA 107 y)) args s 0 0 (gA 107 y)) (F0 m 6 ls [])) (v6 : Int64) (v8 : Int32) (st : St) {H : Heap} {locs : List Loc} {ls : Array Slot} (hG : gH 107 enX y st s H locs) (hl : lv_has ls 10 [(0, .ref (ad y 10)), (1, .int x1), (2, .int x2), (3, .int x3), (4, .int x4), (5, .int x5), (6, .long v6), (8, .int v8)]) (hw : w_X4_meetingWays_b82 x1 x2 x3 x4 x5 c6 K v6 v8 st) : W p l e (rmm 4 95) s m args below meth c H locs 0 0 (MQ below (va_Ql K (gB 107 enX y) (gA 107 y)) args s 0 0 (gA 107 y)) (F0 m 82 ls []) := by
  obtain ⟨hx, hb, hml, hown, hts, hr, hlk, hK, hN⟩ := id C
  unfold w_X4_meetingWays_b82 at hw
  refine lv_aload_n hx hb dX4_meetingWays_82 rfl (lv_at hl 0 rfl) ?_
  refine r_get (C := RX4) (T := TX4) (Nf := 2) hx hb hts hown hK hG (by decide) rfl rfl inX4 1 (by decide) qF_X4_12 rfl dX4_meetingWays_83 ?_
  refine lv_iload_n hx hb dX4_meetingWays_86 rfl (lv_at hl 3 rfl) ?_
  refine r_ki (r_run_V (k := 99) (As := [.int x3]) (rest := []) hx hb hml hown hts hK hN hG (c_X1_isOpen l y 99 isC_99 x3 st _ hw) (isC.lt isC_99) (isC.e isC_99 y _) rfl rfl qM_X4_40 qI_X1_isOpen qS_X1_isOpen qN_X1 qC_X1_isOpen hd_X1_isOpen ⟨Nat.le_of_ble_eq_true rfl, Nat.le_of_ble_eq_true rfl⟩ hl.1 rfl (Nat.le_of_ble_eq_true rfl) dX4_meetingWays_87) hG (fun r87 st87 H locs hw hG => ?_)
  refine lv_if_eq (tgt := 113) hx hb dX4_meetingWays_90 (by decide) (fun hc => ?_) (fun hc => ?_)
  · replace hw := hw.1 hc
    exact z_X4_meetingWays_b113 l y x1 x2 x3 x4 x5 C c6 K hc6 v6 v8 st87 hG (lv_sub hl [0, 1, 2, 3, 4, 5, 6, 7] rfl) hw
  · replace hw := hw.2 hc
    refine lv_lload hx hb dX4_meetingWays_93 (lv_at hl 6 rfl) ?_
    refine lv_iload hx hb dX4_meetingWays_95 (lv_at hl 5 rfl) ?_
    refine lv_iconst (v := 1) hx hb dX4_meetingWays_97 (by decide) ?_
    refine lv_isub hx hb dX4_meetingWays_98 ?_
    refine lv_iload hx hb dX4_meetingWays_99 (lv_at hl 4 rfl) ?_
    refine lv_iload hx hb dX4_meetingWays_101 (lv_at hl 7 rfl) ?_
    refine r_ki (r_run_S (As := [.int v8]) (rest := [.int x4, .int (x5 - 1), .long v6]) hx hb hml hown hts hK hN hG (c_J6_bitCount_0f7a4 l y v8 st87 _ hw) qM_X4_83 qT_J6_bitCount_0f7a4 qN_J6 qC_J6_bitCount_0f7a4 hd_J6_bitCount_0f7a4 ⟨Nat.le_of_ble_eq_true rfl, Nat.le_of_ble_eq_true rfl⟩ hl.1 rfl (Nat.le_of_ble_eq_true rfl) dX4_meetingWays_103) hG (fun r103 st103 H locs hw hG => ?_)
    refine lv_isub hx hb dX4_meetingWays_106 ?_
    refine r_kl (r_run_S (As := [.int (x5 - 1), .int (x4 - r103)]) (rest := [.long v6]) hx hb hml hown hts hK hN hG (c_X0_power l y (x5 - 1) (x4 - r103) st103 _ hw) qM_X4_129 qT_X0_power qN_X0 qC_X0_power hd_X0_power ⟨Nat.le_of_ble_eq_true rfl, Nat.le_of_ble_eq_true rfl⟩ hl.1 rfl (Nat.le_of_ble_eq_true rfl) dX4_meetingWays_107) hG (fun r107 st107 H locs hw hG => ?_)
    refine lv_ladd hx hb dX4_meetingWays_110 ?_
    refine lv_lstore (lv' := [(6, .long (v6 + r107)), (0, .ref (ad y 10)), (1, .int x1), (2, .int x2), (3, .int x3), (4, .int x4), (5, .int x5), (8, .int v8)]) hx hb dX4_meetingWays_111 hl (Nat.le_of_ble_eq_true rfl) rfl (fun ls hl => ?_)
    exact z_X4_meetingWays_b113 l y x1 x2 x3 x4 x5 C c6 K hc6 (v6 + r107) v8 st107 hG (lv_sub hl [1, 2, 3, 4, 5, 6, 0, 7] rfl) hw
set_option maxRecDepth 100000 in
set_option maxHeartbeats 4000000 in
theorem z_X4_meetingWays_L29 {p : Program} {e : Env} {s : State} {m : MethodId} {args : Array Value} {below : List Frame} {meth : Method} {c : Code} (l : Launch) (y : Sy) (x1 : Int32) (x2 : Int32) (x3 : Int32) (x4 : Int32) (x5 : Int32) (C : Sd p s m args meth c cX4_meetingWays 10 RX4 (some .long) y) (c6 : Int64 → Int32 → St → Prop) (K : Int64 → St → Prop) (hc6 : ∀ (v6 : Int64) (v8 : Int32) (st : St) (H : Heap) (locs : List Loc) (ls : Array Slot), gH 107 enX y st s H locs → lv_has ls 10 [(0, .ref (ad y 10)), (1, .int x1), (2, .int x2), (3, .int x3), (4, .int x4), (5, .int x5), (6, .long v6), (8, .int v8)] → c6 v6 v8 st → W p l e (rmm 4 95) s m args below meth c H locs 0 0 (MQ below (va_Ql K (gB 107 enX y) (gA 107 y)) args s 0 0 (gA 107 y)) (F0 m 6 ls [])) : ∀ (n : Nat) (v6 : Int64) (v8 : Int32) (v9 : Int32) (st : St) (H : Heap) (locs : List Loc) (ls : Array Slot), gH 107 enX y st s H locs → lv_has ls 10 [(0, .ref (ad y 10)), (1, .int x1), (2, .int x2), (3, .int x3), (4, .int x4), (5, .int x5), (6, .long v6), (8, .int v8), (9, .int v9)] → w_X4_meetingWays_L29 x1 x2 x3 x4 x5 c6 K n v6 v8 v9 st → W p l e (rmm 4 95) s m args below meth c H locs 0 0 (MQ below (va_Ql K (gB 107 enX y) (gA 107 y)) args s 0 0 (gA 107 y)) (F0 m 29 ls []) := by
  obtain ⟨hx, hb, hml, hown, hts, hr, hlk, hK, hN⟩ := id C
  intro n
  induction n with
  | zero => intro v6 v8 v9 st H locs ls hG hl hw; exact False.elim hw
  | succ n hc29 =>
    intro v6 v8 v9 st H locs ls hG hl hw
    have hw : w_X4_meetingWays_L29q x1 x2 x3 x4 x5 c6 K (fun v6 v8 v9 st => w_X4_meetingWays_L29 x1 x2 x3 x4 x5 c6 K n v6 v8 v9 st) v6 v8 v9 st := hw
    unfold w_X4_meetingWays_L29q at hw
    refine lv_iload hx hb dX4_meetingWays_29 (lv_at hl 8 rfl) ?_
    refine lv_iload hx hb dX4_meetingWays_31 (lv_at hl 4 rfl) ?_
    refine lv_icmp_ge (tgt := 82) hx hb dX4_meetingWays_33 (by decide) (fun hc => ?_) (fun hc => ?_)
    · replace hw := hw.1 hc
      exact z_X4_meetingWays_b82 l y x1 x2 x3 x4 x5 C c6 K hc6 v6 v8 st hG (lv_sub hl [0, 1, 2, 3, 4, 5, 6, 7] rfl) hw
    · replace hw := hw.2 hc
      refine lv_iload hx hb dX4_meetingWays_36 (lv_at hl 7 rfl) ?_
      refine lv_iload hx hb dX4_meetingWays_38 (lv_at hl 8 rfl) ?_
      refine r_ki (r_run_N (As := [.int v8, .int v9]) (rest := []) hx hb hml hown hts hK hN hG (c_X8_bit l y v8 v9 st _ hw) qM_X4_56 qT_X8_bit qN_X8 qC_X8_bit hd_X8_bit ⟨Nat.le_of_ble_eq_true rfl, Nat.le_of_ble_eq_true rfl⟩ hl.1 rfl (Nat.le_of_ble_eq_true rfl) dX4_meetingWays_40) hG (fun r40 st40 H locs hw hG => ?_)
      refine lv_iconst (v := 1) hx hb dX4_meetingWays_43 (by decide) ?_
      refine lv_icmp_ne (tgt := 68) hx hb dX4_meetingWays_44 (by decide) (fun hc => ?_) (fun hc => ?_)
      · replace hw := hw.1 hc
        exact z_X4_meetingWays_b68 l y x1 x2 x3 x4 x5 C c6 (fun v6 v8 v9 st => w_X4_meetingWays_L29 x1 x2 x3 x4 x5 c6 K n v6 v8 v9 st) K hc6 hc29 v6 v8 v9 st40 hG (lv_sub hl [0, 1, 2, 3, 4, 5, 6, 7, 8] rfl) hw
      · replace hw := hw.2 hc
        refine lv_aload_n hx hb dX4_meetingWays_47 rfl (lv_at hl 0 rfl) ?_
        refine r_get (C := RX4) (T := TX4) (Nf := 2) hx hb hts hown hK hG (by decide) rfl rfl inX4 1 (by decide) qF_X4_12 rfl dX4_meetingWays_48 ?_
        refine lv_iload_n hx hb dX4_meetingWays_51 rfl (lv_at hl 1 rfl) ?_
        refine lv_iload_n hx hb dX4_meetingWays_52 rfl (lv_at hl 2 rfl) ?_
        refine lv_aload_n hx hb dX4_meetingWays_53 rfl (lv_at hl 0 rfl) ?_
        refine r_get (C := RX4) (T := TX4) (Nf := 2) hx hb hts hown hK hG (by decide) rfl rfl inX4 1 (by decide) qF_X4_12 rfl dX4_meetingWays_54 ?_
        refine lv_iload_n hx hb dX4_meetingWays_57 rfl (lv_at hl 1 rfl) ?_
        refine lv_iload_n hx hb dX4_meetingWays_58 rfl (lv_at hl 2 rfl) ?_
        refine r_ki (r_run_V (k := 99) (As := [.int x1, .int x2]) (rest := [.int x2, .int x1, .ref (ad y 99)]) hx hb hml hown hts hK hN hG (c_X1_hateOf l y 99 isC_99 x1 x2 st40 _ hw) (isC.lt isC_99) (isC.e isC_99 y _) rfl rfl qM_X4_29 qI_X1_hateOf qS_X1_hateOf qN_X1 qC_X1_hateOf hd_X1_hateOf ⟨Nat.le_of_ble_eq_true rfl, Nat.le_of_ble_eq_true rfl⟩ hl.1 rfl (Nat.le_of_ble_eq_true rfl) dX4_meetingWays_59) hG (fun r59 st59 H locs hw hG => ?_)
        refine lv_bipush (v := 10) hx hb dX4_meetingWays_62 (by decide) ?_
        refine lv_isub hx hb dX4_meetingWays_64 ?_
        refine r_kv (r_run_V (k := 99) (As := [.int x1, .int x2, .int (r59 - 10)]) (rest := []) hx hb hml hown hts hK hN hG (c_X1_setHate l y 99 isC_99 x1 x2 (r59 - 10) st59 _ hw) (isC.lt isC_99) (isC.e isC_99 y _) rfl rfl qM_X4_59 qI_X1_setHate qS_X1_setHate qN_X1 qC_X1_setHate hd_X1_setHate ⟨Nat.le_of_ble_eq_true rfl, Nat.le_of_ble_eq_true rfl⟩ hl.1 rfl (Nat.le_of_ble_eq_true rfl) dX4_meetingWays_65) hG (fun st65 H locs hw hG => ?_)
        exact z_X4_meetingWays_b68 l y x1 x2 x3 x4 x5 C c6 (fun v6 v8 v9 st => w_X4_meetingWays_L29 x1 x2 x3 x4 x5 c6 K n v6 v8 v9 st) K hc6 hc29 v6 v8 v9 st65 hG (lv_sub hl [0, 1, 2, 3, 4, 5, 6, 7, 8] rfl) hw
set_option maxRecDepth 100000 in
set_option maxHeartbeats 4000000 in
theorem z_X4_meetingWays_L6 {p : Program} {e : Env} {s : State} {m : MethodId} {args : Array Value} {below : List Frame} {meth : Method} {c : Code} (l : Launch) (y : Sy) (x1 : Int32) (x2 : Int32) (x3 : Int32) (x4 : Int32) (x5 : Int32) (C : Sd p s m args meth c cX4_meetingWays 10 RX4 (some .long) y)  (K : Int64 → St → Prop)  : ∀ (n : Nat) (v6 : Int64) (v8 : Int32) (st : St) (H : Heap) (locs : List Loc) (ls : Array Slot), gH 107 enX y st s H locs → lv_has ls 10 [(0, .ref (ad y 10)), (1, .int x1), (2, .int x2), (3, .int x3), (4, .int x4), (5, .int x5), (6, .long v6), (8, .int v8)] → w_X4_meetingWays_L6 x1 x2 x3 x4 x5  K n v6 v8 st → W p l e (rmm 4 95) s m args below meth c H locs 0 0 (MQ below (va_Ql K (gB 107 enX y) (gA 107 y)) args s 0 0 (gA 107 y)) (F0 m 6 ls []) := by
  obtain ⟨hx, hb, hml, hown, hts, hr, hlk, hK, hN⟩ := id C
  intro n
  induction n with
  | zero => intro v6 v8 st H locs ls hG hl hw; exact False.elim hw
  | succ n hc6 =>
    intro v6 v8 st H locs ls hG hl hw
    have hw : w_X4_meetingWays_L6q x1 x2 x3 x4 x5  K (fun v6 v8 st => w_X4_meetingWays_L6 x1 x2 x3 x4 x5  K n v6 v8 st) v6 v8 st := hw
    unfold w_X4_meetingWays_L6q at hw
    refine lv_iload hx hb dX4_meetingWays_6 (lv_at hl 7 rfl) ?_
    refine lv_iconst (v := 1) hx hb dX4_meetingWays_8 (by decide) ?_
    refine lv_iload hx hb dX4_meetingWays_9 (lv_at hl 4 rfl) ?_
    refine lv_ishl hx hb dX4_meetingWays_11 ?_
    refine lv_icmp_ge (tgt := 119) hx hb dX4_meetingWays_12 (by decide) (fun hc => ?_) (fun hc => ?_)
    · replace hw := hw.1 hc
      refine lv_lload hx hb dX4_meetingWays_119 (lv_at hl 6 rfl) ?_
      exact r_lret hx hb hr hlk hK hG hw dX4_meetingWays_121
    · replace hw := hw.2 hc
      refine lv_aload_n hx hb dX4_meetingWays_15 rfl (lv_at hl 0 rfl) ?_
      refine r_get (C := RX4) (T := TX4) (Nf := 2) hx hb hts hown hK hG (by decide) rfl rfl inX4 1 (by decide) qF_X4_12 rfl dX4_meetingWays_16 ?_
      refine lv_aload_n hx hb dX4_meetingWays_19 rfl (lv_at hl 0 rfl) ?_
      refine r_get (C := RX4) (T := TX4) (Nf := 2) hx hb hts hown hK hG (by decide) rfl rfl inX4 0 (by decide) qF_X4_18 rfl dX4_meetingWays_20 ?_
      refine r_kv (r_run_V (k := 99) (As := [.ref (ad y 11)]) (rest := []) hx hb hml hown hts hK hN hG (c_X1_become l y 99 isC_99 11 isC_11 st _ hw) (isC.lt isC_99) (isC.e isC_99 y _) rfl rfl qM_X4_21 qI_X1_become qS_X1_become qN_X1 qC_X1_become hd_X1_become ⟨Nat.le_of_ble_eq_true rfl, Nat.le_of_ble_eq_true rfl⟩ hl.1 rfl (Nat.le_of_ble_eq_true rfl) dX4_meetingWays_23) hG (fun st23 H locs hw hG => ?_)
      refine lv_iconst (v := 0) hx hb dX4_meetingWays_26 (by decide) ?_
      refine lv_istore (lv' := [(9, .int 0), (0, .ref (ad y 10)), (1, .int x1), (2, .int x2), (3, .int x3), (4, .int x4), (5, .int x5), (6, .long v6), (8, .int v8)]) hx hb dX4_meetingWays_27 hl (Nat.le_of_ble_eq_true rfl) rfl (fun ls hl => ?_)
      obtain ⟨n29, hw⟩ := hw
      exact z_X4_meetingWays_L29 l y x1 x2 x3 x4 x5 C (fun v6 v8 st => w_X4_meetingWays_L6 x1 x2 x3 x4 x5  K n v6 v8 st) K hc6 n29 v6 v8 0 st23 H locs _ hG (lv_sub hl [1, 2, 3, 4, 5, 6, 7, 8, 0] rfl) hw
theorem hd_X4_meetingWays : yX4_meetingWays.cls ≠ "java/lang/invoke/MethodHandle" ∧ yX4_meetingWays.cls ≠ "java/lang/invoke/VarHandle" ∧ (parseMethodDescriptor yX4_meetingWays.desc).map (fun d => d.parameters.length) = some 5 := by decide +kernel
set_option maxRecDepth 100000 in
set_option maxHeartbeats 4000000 in
theorem c_X4_meetingWays (l : Launch) (y : Sy) (x1 : Int32) (x2 : Int32) (x3 : Int32) (x4 : Int32) (x5 : Int32) (st : St) (K : Int64 → St → Prop) (hw : w_X4_meetingWays x1 x2 x3 x4 x5 st K) : Cl 107 enX l yX4_meetingWays cX4_meetingWays 10 (some .long) 4 95 y [.ref (ad y 10), .int x1, .int x2, .int x3, .int x4, .int x5] st K := by
  refine ent (by decide) (Nat.le_of_ble_eq_true rfl) ?_
  intro p e s m below meth c C hG ls hl
  have hl : lv_has ls 10 [(0, .ref (ad y 10)), (1, .int x1), (2, .int x2), (3, .int x3), (4, .int x4), (5, .int x5)] := hl
  generalize ([.ref (ad y 10), .int x1, .int x2, .int x3, .int x4, .int x5] : List Value).toArray = args at C ⊢
  have C : Sd p s m args meth c cX4_meetingWays 10 RX4 (some .long) y := C
  obtain ⟨hx, hb, hml, hown, hts, hr, hlk, hK, hN⟩ := id C
  generalize s.heap = H at hG ⊢
  generalize ([] : List Loc) = locs at hG ⊢
  unfold w_X4_meetingWays at hw
  refine lv_lconst (v := 0) hx hb dX4_meetingWays_0 (by decide) ?_
  refine lv_lstore (lv' := [(6, .long 0), (0, .ref (ad y 10)), (1, .int x1), (2, .int x2), (3, .int x3), (4, .int x4), (5, .int x5)]) hx hb dX4_meetingWays_1 hl (Nat.le_of_ble_eq_true rfl) rfl (fun ls hl => ?_)
  refine lv_iconst (v := 0) hx hb dX4_meetingWays_3 (by decide) ?_
  refine lv_istore (lv' := [(8, .int 0), (6, .long 0), (0, .ref (ad y 10)), (1, .int x1), (2, .int x2), (3, .int x3), (4, .int x4), (5, .int x5)]) hx hb dX4_meetingWays_4 hl (Nat.le_of_ble_eq_true rfl) rfl (fun ls hl => ?_)
  obtain ⟨n6, hw⟩ := hw
  exact z_X4_meetingWays_L6 l y x1 x2 x3 x4 x5 C  K  n6 0 0 st H locs _ hG (lv_sub hl [2, 3, 4, 5, 6, 7, 1, 0] rfl) hw
set_option maxRecDepth 100000 in
set_option maxHeartbeats 4000000 in
theorem z_X4_byLot_b101 {p : Program} {e : Env} {s : State} {m : MethodId} {args : Array Value} {below : List Frame} {meth : Method} {c : Code} (l : Launch) (y : Sy) (x1 : Int32) (x2 : Int32) (x3 : Int32) (C : Sd p s m args meth c cX4_byLot 10 RX4 (some .int) y) (c12 : Int32 → Int32 → Int32 → Int32 → St → Prop) (c32 : Int32 → Int32 → Int32 → Int32 → Int32 → St → Prop) (K : Int32 → St → Prop) (hc12 : ∀ (v4 : Int32) (v5 : Int32) (v6 : Int32) (v7 : Int32) (st : St) (H : Heap) (locs : List Loc) (ls : Array Slot), gH 107 enX y st s H locs → lv_has ls 10 [(0, .ref (ad y 10)), (1, .int x1), (3, .int x3), (4, .int v4), (5, .int v5), (6, .int v6), (7, .int v7)] → c12 v4 v5 v6 v7 st → W p l e (rmm 5 117) s m args below meth c H locs 0 0 (MQ below (va_Qi K (gB 107 enX y) (gA 107 y)) args s 0 0 (gA 107 y)) (F0 m 12 ls [])) (hc32 : ∀ (v4 : Int32) (v5 : Int32) (v6 : Int32) (v7 : Int32) (v8 : Int32) (st : St) (H : Heap) (locs : List Loc) (ls : Array Slot), gH 107 enX y st s H locs → lv_has ls 10 [(0, .ref (ad y 10)), (1, .int x1), (3, .int x3), (4, .int v4), (5, .int v5), (6, .int v6), (7, .int v7), (8, .int v8)] → c32 v4 v5 v6 v7 v8 st → W p l e (rmm 5 117) s m args below meth c H locs 0 0 (MQ below (va_Qi K (gB 107 enX y) (gA 107 y)) args s 0 0 (gA 107 y)) (F0 m 32 ls [])) (v4 : Int32) (v5 : Int32) (v6 : Int32) (v7 : Int32) (v8 : Int32) (st : St) {H : Heap} {locs : List Loc} {ls : Array Slot} (hG : gH 107 enX y st s H locs) (hl : lv_has ls 10 [(0, .ref (ad y 10)), (1, .int x1), (3, .int x3), (4, .int v4), (5, .int v5), (6, .int v6), (7, .int v7), (8, .int v8)]) (hw : w_X4_byLot_b101 x1 x2 x3 c12 c32 K v4 v5 v6 v7 v8 st) : W p l e (rmm 5 117) s m args below meth c H locs 0 0 (MQ below (va_Qi K (gB 107 enX y) (gA 107 y)) args s 0 0 (gA 107 y)) (F0 m 101 ls []) := by
  obtain ⟨hx, hb, hml, hown, hts, hr, hlk, hK, hN⟩ := id C
  unfold w_X4_byLot_b101 at hw
  refine lv_iinc (v := (v8 + 1)) (lv' := [(8, .int (v8 + 1)), (0, .ref (ad y 10)), (1, .int x1), (3, .int x3), (4, .int v4), (5, .int v5), (6, .int v6), (7, .int v7)]) hx hb dX4_byLot_101 hl (k := 7) rfl rfl (Nat.le_of_ble_eq_true rfl) rfl (fun ls hl => ?_)
  refine lv_goto (tgt := 32) hx hb dX4_byLot_104 (by decide) ?_
  exact hc32 v4 v5 v6 v7 (v8 + 1) st H locs _ hG (lv_sub hl [1, 2, 3, 4, 5, 6, 7, 0] rfl) hw
set_option maxRecDepth 100000 in
set_option maxHeartbeats 4000000 in
theorem z_X4_byLot_L50 {p : Program} {e : Env} {s : State} {m : MethodId} {args : Array Value} {below : List Frame} {meth : Method} {c : Code} (l : Launch) (y : Sy) (x1 : Int32) (x2 : Int32) (x3 : Int32) (C : Sd p s m args meth c cX4_byLot 10 RX4 (some .int) y) (c12 : Int32 → Int32 → Int32 → Int32 → St → Prop) (c32 : Int32 → Int32 → Int32 → Int32 → Int32 → St → Prop) (K : Int32 → St → Prop) (hc12 : ∀ (v4 : Int32) (v5 : Int32) (v6 : Int32) (v7 : Int32) (st : St) (H : Heap) (locs : List Loc) (ls : Array Slot), gH 107 enX y st s H locs → lv_has ls 10 [(0, .ref (ad y 10)), (1, .int x1), (3, .int x3), (4, .int v4), (5, .int v5), (6, .int v6), (7, .int v7)] → c12 v4 v5 v6 v7 st → W p l e (rmm 5 117) s m args below meth c H locs 0 0 (MQ below (va_Qi K (gB 107 enX y) (gA 107 y)) args s 0 0 (gA 107 y)) (F0 m 12 ls [])) (hc32 : ∀ (v4 : Int32) (v5 : Int32) (v6 : Int32) (v7 : Int32) (v8 : Int32) (st : St) (H : Heap) (locs : List Loc) (ls : Array Slot), gH 107 enX y st s H locs → lv_has ls 10 [(0, .ref (ad y 10)), (1, .int x1), (3, .int x3), (4, .int v4), (5, .int v5), (6, .int v6), (7, .int v7), (8, .int v8)] → c32 v4 v5 v6 v7 v8 st → W p l e (rmm 5 117) s m args below meth c H locs 0 0 (MQ below (va_Qi K (gB 107 enX y) (gA 107 y)) args s 0 0 (gA 107 y)) (F0 m 32 ls [])) : ∀ (n : Nat) (v4 : Int32) (v5 : Int32) (v6 : Int32) (v7 : Int32) (v8 : Int32) (v9 : Int32) (st : St) (H : Heap) (locs : List Loc) (ls : Array Slot), gH 107 enX y st s H locs → lv_has ls 10 [(0, .ref (ad y 10)), (1, .int x1), (3, .int x3), (4, .int v4), (5, .int v5), (6, .int v6), (7, .int v7), (8, .int v8), (9, .int v9)] → w_X4_byLot_L50 x1 x2 x3 c12 c32 K n v4 v5 v6 v7 v8 v9 st → W p l e (rmm 5 117) s m args below meth c H locs 0 0 (MQ below (va_Qi K (gB 107 enX y) (gA 107 y)) args s 0 0 (gA 107 y)) (F0 m 50 ls []) := by
  obtain ⟨hx, hb, hml, hown, hts, hr, hlk, hK, hN⟩ := id C
  intro n
  induction n with
  | zero => intro v4 v5 v6 v7 v8 v9 st H locs ls hG hl hw; exact False.elim hw
  | succ n hc50 =>
    intro v4 v5 v6 v7 v8 v9 st H locs ls hG hl hw
    have hw : w_X4_byLot_L50q x1 x2 x3 c12 c32 K (fun v4 v5 v6 v7 v8 v9 st => w_X4_byLot_L50 x1 x2 x3 c12 c32 K n v4 v5 v6 v7 v8 v9 st) v4 v5 v6 v7 v8 v9 st := hw
    unfold w_X4_byLot_L50q at hw
    refine lv_iload hx hb dX4_byLot_50 (lv_at hl 8 rfl) ?_
    refine lv_aload_n hx hb dX4_byLot_52 rfl (lv_at hl 0 rfl) ?_
    refine r_get (C := RX4) (T := TX4) (Nf := 2) hx hb hts hown hK hG (by decide) rfl rfl inX4 0 (by decide) qF_X4_18 rfl dX4_byLot_53 ?_
    refine r_ki (r_run_V (k := 11) (As := []) (rest := [.int v9]) hx hb hml hown hts hK hN hG (c_X1_keeperCount l y 11 isC_11 st _ hw) (isC.lt isC_11) (isC.e isC_11 y _) rfl rfl qM_X4_69 qI_X1_keeperCount qS_X1_keeperCount qN_X1 qC_X1_keeperCount hd_X1_keeperCount ⟨Nat.le_of_ble_eq_true rfl, Nat.le_of_ble_eq_true rfl⟩ hl.1 rfl (Nat.le_of_ble_eq_true rfl) dX4_byLot_56) hG (fun r56 st56 H locs hw hG => ?_)
    refine lv_icmp_ge (tgt := 101) hx hb dX4_byLot_59 (by decide) (fun hc => ?_) (fun hc => ?_)
    · replace hw := hw.1 hc
      exact z_X4_byLot_b101 l y x1 x2 x3 C c12 c32 K hc12 hc32 v4 v5 v6 v7 v8 st56 hG (lv_sub hl [0, 1, 2, 3, 4, 5, 6, 7] rfl) hw
    · replace hw := hw.2 hc
      refine lv_iload hx hb dX4_byLot_62 (lv_at hl 3 rfl) ?_
      refine lv_ldc (v := 1103515245) hx hb hown (hts _ qK_X4_135) dX4_byLot_64 ?_
      refine lv_imul hx hb dX4_byLot_66 ?_
      refine lv_sipush (v := 12345) hx hb dX4_byLot_67 (by decide) ?_
      refine lv_iadd hx hb dX4_byLot_70 ?_
      refine lv_istore (lv' := [(4, .int ((v4 * 1103515245) + 12345)), (0, .ref (ad y 10)), (1, .int x1), (3, .int x3), (5, .int v5), (6, .int v6), (7, .int v7), (8, .int v8), (9, .int v9)]) hx hb dX4_byLot_71 hl (Nat.le_of_ble_eq_true rfl) rfl (fun ls hl => ?_)
      refine lv_aload_n hx hb dX4_byLot_73 rfl (lv_at hl 1 rfl) ?_
      refine r_get (C := RX4) (T := TX4) (Nf := 2) hx hb hts hown hK hG (by decide) rfl rfl inX4 1 (by decide) qF_X4_12 rfl dX4_byLot_74 ?_
      refine lv_iload hx hb dX4_byLot_77 (lv_at hl 7 rfl) ?_
      refine lv_iload hx hb dX4_byLot_79 (lv_at hl 8 rfl) ?_
      refine lv_iload hx hb dX4_byLot_81 (lv_at hl 0 rfl) ?_
      refine lv_ldc (v := 2147483647) hx hb hown (hts _ qK_X4_136) dX4_byLot_83 ?_
      refine lv_iand hx hb dX4_byLot_85 ?_
      refine lv_ldc (v := 65536) hx hb hown (hts _ qK_X4_137) dX4_byLot_86 ?_
      refine lv_idiv hx hb dX4_byLot_88 (by decide) ?_
      refine lv_bipush (v := 60) hx hb dX4_byLot_89 (by decide) ?_
      refine lv_irem hx hb dX4_byLot_91 (by decide) ?_
      refine r_kv (r_run_V (k := 99) (As := [.int v8, .int v9, .int (((((v4 * 1103515245) + 12345) &&& 2147483647) / 65536) - ((((v4 * 1103515245) + 12345) &&& 2147483647) / 65536) / 60 * 60)]) (rest := []) hx hb hml hown hts hK hN hG (c_X1_setHate l y 99 isC_99 v8 v9 (((((v4 * 1103515245) + 12345) &&& 2147483647) / 65536) - ((((v4 * 1103515245) + 12345) &&& 2147483647) / 65536) / 60 * 60) st56 _ hw) (isC.lt isC_99) (isC.e isC_99 y _) rfl rfl qM_X4_59 qI_X1_setHate qS_X1_setHate qN_X1 qC_X1_setHate hd_X1_setHate ⟨Nat.le_of_ble_eq_true rfl, Nat.le_of_ble_eq_true rfl⟩ hl.1 rfl (Nat.le_of_ble_eq_true rfl) dX4_byLot_92) hG (fun st92 H locs hw hG => ?_)
      refine lv_iinc (v := (v9 + 1)) (lv' := [(9, .int (v9 + 1)), (4, .int ((v4 * 1103515245) + 12345)), (0, .ref (ad y 10)), (1, .int x1), (3, .int x3), (5, .int v5), (6, .int v6), (7, .int v7), (8, .int v8)]) hx hb dX4_byLot_95 hl (k := 8) rfl rfl (Nat.le_of_ble_eq_true rfl) rfl (fun ls hl => ?_)
      refine lv_goto (tgt := 50) hx hb dX4_byLot_98 (by decide) ?_
      exact hc50 ((v4 * 1103515245) + 12345) v5 v6 v7 v8 (v9 + 1) st92 H locs _ hG (lv_sub hl [2, 3, 4, 1, 5, 6, 7, 8, 0] rfl) hw
set_option maxRecDepth 100000 in
set_option maxHeartbeats 4000000 in
theorem z_X4_byLot_b107 {p : Program} {e : Env} {s : State} {m : MethodId} {args : Array Value} {below : List Frame} {meth : Method} {c : Code} (l : Launch) (y : Sy) (x1 : Int32) (x2 : Int32) (x3 : Int32) (C : Sd p s m args meth c cX4_byLot 10 RX4 (some .int) y) (c12 : Int32 → Int32 → Int32 → Int32 → St → Prop) (K : Int32 → St → Prop) (hc12 : ∀ (v4 : Int32) (v5 : Int32) (v6 : Int32) (v7 : Int32) (st : St) (H : Heap) (locs : List Loc) (ls : Array Slot), gH 107 enX y st s H locs → lv_has ls 10 [(0, .ref (ad y 10)), (1, .int x1), (3, .int x3), (4, .int v4), (5, .int v5), (6, .int v6), (7, .int v7)] → c12 v4 v5 v6 v7 st → W p l e (rmm 5 117) s m args below meth c H locs 0 0 (MQ below (va_Qi K (gB 107 enX y) (gA 107 y)) args s 0 0 (gA 107 y)) (F0 m 12 ls [])) (v4 : Int32) (v5 : Int32) (v6 : Int32) (v7 : Int32) (st : St) {H : Heap} {locs : List Loc} {ls : Array Slot} (hG : gH 107 enX y st s H locs) (hl : lv_has ls 10 [(0, .ref (ad y 10)), (1, .int x1), (3, .int x3), (4, .int v4), (5, .int v5), (6, .int v6), (7, .int v7)]) (hw : w_X4_byLot_b107 x1 x2 x3 c12 K v4 v5 v6 v7 st) : W p l e (rmm 5 117) s m args below meth c H locs 0 0 (MQ below (va_Qi K (gB 107 enX y) (gA 107 y)) args s 0 0 (gA 107 y)) (F0 m 107 ls []) := by
  obtain ⟨hx, hb, hml, hown, hts, hr, hlk, hK, hN⟩ := id C
  unfold w_X4_byLot_b107 at hw
  refine lv_iload hx hb dX4_byLot_107 (lv_at hl 4 rfl) ?_
  refine lv_aload_n hx hb dX4_byLot_109 rfl (lv_at hl 0 rfl) ?_
  refine r_get (C := RX4) (T := TX4) (Nf := 2) hx hb hts hown hK hG (by decide) rfl rfl inX4 1 (by decide) qF_X4_12 rfl dX4_byLot_110 ?_
  refine lv_bipush (v := 10) hx hb dX4_byLot_113 (by decide) ?_
  refine r_ki (r_run_V (k := 99) (As := [.int 10]) (rest := [.int v5]) hx hb hml hown hts hK hN hG (c_X1_passWeeks l y 99 isC_99 10 st _ hw) (isC.lt isC_99) (isC.e isC_99 y _) rfl rfl qM_X4_25 qI_X1_passWeeks qS_X1_passWeeks qN_X1 qC_X1_passWeeks hd_X1_passWeeks ⟨Nat.le_of_ble_eq_true rfl, Nat.le_of_ble_eq_true rfl⟩ hl.1 rfl (Nat.le_of_ble_eq_true rfl) dX4_byLot_115) hG (fun r115 st115 H locs hw hG => ?_)
  refine lv_aload_n hx hb dX4_byLot_118 rfl (lv_at hl 0 rfl) ?_
  refine r_get (C := RX4) (T := TX4) (Nf := 2) hx hb hts hown hK hG (by decide) rfl rfl inX4 0 (by decide) qF_X4_18 rfl dX4_byLot_119 ?_
  refine r_ki (r_run_V (k := 11) (As := []) (rest := [.int r115, .int v5]) hx hb hml hown hts hK hN hG (c_X1_openCount l y 11 isC_11 st115 _ hw) (isC.lt isC_11) (isC.e isC_11 y _) rfl rfl qM_X4_100 qI_X1_openCount qS_X1_openCount qN_X1 qC_X1_openCount hd_X1_openCount ⟨Nat.le_of_ble_eq_true rfl, Nat.le_of_ble_eq_true rfl⟩ hl.1 rfl (Nat.le_of_ble_eq_true rfl) dX4_byLot_122) hG (fun r122 st122 H locs hw hG => ?_)
  refine lv_isub hx hb dX4_byLot_125 ?_
  refine lv_iadd hx hb dX4_byLot_126 ?_
  refine lv_istore (lv' := [(5, .int (v5 + (r115 - r122))), (0, .ref (ad y 10)), (1, .int x1), (3, .int x3), (4, .int v4), (6, .int v6), (7, .int v7)]) hx hb dX4_byLot_127 hl (Nat.le_of_ble_eq_true rfl) rfl (fun ls hl => ?_)
  refine lv_iload hx hb dX4_byLot_129 (lv_at hl 5 rfl) ?_
  refine lv_aload_n hx hb dX4_byLot_131 rfl (lv_at hl 1 rfl) ?_
  refine r_get (C := RX4) (T := TX4) (Nf := 2) hx hb hts hown hK hG (by decide) rfl rfl inX4 1 (by decide) qF_X4_12 rfl dX4_byLot_132 ?_
  refine r_ki (r_run_V (k := 99) (As := []) (rest := [.int v6]) hx hb hml hown hts hK hN hG (c_X1_allHate l y 99 isC_99 st122 _ hw) (isC.lt isC_99) (isC.e isC_99 y _) rfl rfl qM_X4_37 qI_X1_allHate qS_X1_allHate qN_X1 qC_X1_allHate hd_X1_allHate ⟨Nat.le_of_ble_eq_true rfl, Nat.le_of_ble_eq_true rfl⟩ hl.1 rfl (Nat.le_of_ble_eq_true rfl) dX4_byLot_135) hG (fun r135 st135 H locs hw hG => ?_)
  refine lv_iadd hx hb dX4_byLot_138 ?_
  refine lv_istore (lv' := [(6, .int (v6 + r135)), (5, .int (v5 + (r115 - r122))), (0, .ref (ad y 10)), (1, .int x1), (3, .int x3), (4, .int v4), (7, .int v7)]) hx hb dX4_byLot_139 hl (Nat.le_of_ble_eq_true rfl) rfl (fun ls hl => ?_)
  refine lv_iinc (v := (v7 + 1)) (lv' := [(7, .int (v7 + 1)), (6, .int (v6 + r135)), (5, .int (v5 + (r115 - r122))), (0, .ref (ad y 10)), (1, .int x1), (3, .int x3), (4, .int v4)]) hx hb dX4_byLot_141 hl (k := 6) rfl rfl (Nat.le_of_ble_eq_true rfl) rfl (fun ls hl => ?_)
  refine lv_goto (tgt := 12) hx hb dX4_byLot_144 (by decide) ?_
  exact hc12 v4 (v5 + (r115 - r122)) (v6 + r135) (v7 + 1) st135 H locs _ hG (lv_sub hl [3, 4, 5, 6, 2, 1, 0] rfl) hw
set_option maxRecDepth 100000 in
set_option maxHeartbeats 4000000 in
theorem z_X4_byLot_L32 {p : Program} {e : Env} {s : State} {m : MethodId} {args : Array Value} {below : List Frame} {meth : Method} {c : Code} (l : Launch) (y : Sy) (x1 : Int32) (x2 : Int32) (x3 : Int32) (C : Sd p s m args meth c cX4_byLot 10 RX4 (some .int) y) (c12 : Int32 → Int32 → Int32 → Int32 → St → Prop) (K : Int32 → St → Prop) (hc12 : ∀ (v4 : Int32) (v5 : Int32) (v6 : Int32) (v7 : Int32) (st : St) (H : Heap) (locs : List Loc) (ls : Array Slot), gH 107 enX y st s H locs → lv_has ls 10 [(0, .ref (ad y 10)), (1, .int x1), (3, .int x3), (4, .int v4), (5, .int v5), (6, .int v6), (7, .int v7)] → c12 v4 v5 v6 v7 st → W p l e (rmm 5 117) s m args below meth c H locs 0 0 (MQ below (va_Qi K (gB 107 enX y) (gA 107 y)) args s 0 0 (gA 107 y)) (F0 m 12 ls [])) : ∀ (n : Nat) (v4 : Int32) (v5 : Int32) (v6 : Int32) (v7 : Int32) (v8 : Int32) (st : St) (H : Heap) (locs : List Loc) (ls : Array Slot), gH 107 enX y st s H locs → lv_has ls 10 [(0, .ref (ad y 10)), (1, .int x1), (3, .int x3), (4, .int v4), (5, .int v5), (6, .int v6), (7, .int v7), (8, .int v8)] → w_X4_byLot_L32 x1 x2 x3 c12 K n v4 v5 v6 v7 v8 st → W p l e (rmm 5 117) s m args below meth c H locs 0 0 (MQ below (va_Qi K (gB 107 enX y) (gA 107 y)) args s 0 0 (gA 107 y)) (F0 m 32 ls []) := by
  obtain ⟨hx, hb, hml, hown, hts, hr, hlk, hK, hN⟩ := id C
  intro n
  induction n with
  | zero => intro v4 v5 v6 v7 v8 st H locs ls hG hl hw; exact False.elim hw
  | succ n hc32 =>
    intro v4 v5 v6 v7 v8 st H locs ls hG hl hw
    have hw : w_X4_byLot_L32q x1 x2 x3 c12 K (fun v4 v5 v6 v7 v8 st => w_X4_byLot_L32 x1 x2 x3 c12 K n v4 v5 v6 v7 v8 st) v4 v5 v6 v7 v8 st := hw
    unfold w_X4_byLot_L32q at hw
    refine lv_iload hx hb dX4_byLot_32 (lv_at hl 7 rfl) ?_
    refine lv_aload_n hx hb dX4_byLot_34 rfl (lv_at hl 0 rfl) ?_
    refine r_get (C := RX4) (T := TX4) (Nf := 2) hx hb hts hown hK hG (by decide) rfl rfl inX4 0 (by decide) qF_X4_18 rfl dX4_byLot_35 ?_
    refine r_ki (r_run_V (k := 11) (As := []) (rest := [.int v8]) hx hb hml hown hts hK hN hG (c_X1_keeperCount l y 11 isC_11 st _ hw) (isC.lt isC_11) (isC.e isC_11 y _) rfl rfl qM_X4_69 qI_X1_keeperCount qS_X1_keeperCount qN_X1 qC_X1_keeperCount hd_X1_keeperCount ⟨Nat.le_of_ble_eq_true rfl, Nat.le_of_ble_eq_true rfl⟩ hl.1 rfl (Nat.le_of_ble_eq_true rfl) dX4_byLot_38) hG (fun r38 st38 H locs hw hG => ?_)
    refine lv_icmp_ge (tgt := 107) hx hb dX4_byLot_41 (by decide) (fun hc => ?_) (fun hc => ?_)
    · replace hw := hw.1 hc
      exact z_X4_byLot_b107 l y x1 x2 x3 C c12 K hc12 v4 v5 v6 v7 st38 hG (lv_sub hl [0, 1, 2, 3, 4, 5, 6] rfl) hw
    · replace hw := hw.2 hc
      refine lv_iload hx hb dX4_byLot_44 (lv_at hl 7 rfl) ?_
      refine lv_iconst (v := 1) hx hb dX4_byLot_46 (by decide) ?_
      refine lv_iadd hx hb dX4_byLot_47 ?_
      refine lv_istore (lv' := [(9, .int (v8 + 1)), (0, .ref (ad y 10)), (1, .int x1), (3, .int x3), (4, .int v4), (5, .int v5), (6, .int v6), (7, .int v7), (8, .int v8)]) hx hb dX4_byLot_48 hl (Nat.le_of_ble_eq_true rfl) rfl (fun ls hl => ?_)
      obtain ⟨n50, hw⟩ := hw
      exact z_X4_byLot_L50 l y x1 x2 x3 C c12 (fun v4 v5 v6 v7 v8 st => w_X4_byLot_L32 x1 x2 x3 c12 K n v4 v5 v6 v7 v8 st) K hc12 hc32 n50 v4 v5 v6 v7 v8 (v8 + 1) st38 H locs _ hG (lv_sub hl [1, 2, 3, 4, 5, 6, 7, 8, 0] rfl) hw
set_option maxRecDepth 100000 in
set_option maxHeartbeats 4000000 in
theorem z_X4_byLot_b147 {p : Program} {e : Env} {s : State} {m : MethodId} {args : Array Value} {below : List Frame} {meth : Method} {c : Code} (l : Launch) (y : Sy) (x1 : Int32) (x2 : Int32) (x3 : Int32) (C : Sd p s m args meth c cX4_byLot 10 RX4 (some .int) y)  (K : Int32 → St → Prop)  (v5 : Int32) (v6 : Int32) (st : St) {H : Heap} {locs : List Loc} {ls : Array Slot} (hG : gH 107 enX y st s H locs) (hl : lv_has ls 10 [(3, .int x3), (5, .int v5), (6, .int v6)]) (hw : w_X4_byLot_b147 x1 x2 x3  K v5 v6 st) : W p l e (rmm 5 117) s m args below meth c H locs 0 0 (MQ below (va_Qi K (gB 107 enX y) (gA 107 y)) args s 0 0 (gA 107 y)) (F0 m 147 ls []) := by
  obtain ⟨hx, hb, hml, hown, hts, hr, hlk, hK, hN⟩ := id C
  unfold w_X4_byLot_b147 at hw
  refine lv_iload_n hx hb dX4_byLot_147 rfl (lv_at hl 0 rfl) ?_
  refine lv_if_ne (tgt := 156) hx hb dX4_byLot_148 (by decide) (fun hc => ?_) (fun hc => ?_)
  · replace hw := hw.1 hc
    refine lv_iload hx hb dX4_byLot_156 (lv_at hl 2 rfl) ?_
    exact r_iret hx hb hr hlk hK hG rfl hw dX4_byLot_158
  · replace hw := hw.2 hc
    refine lv_iload hx hb dX4_byLot_151 (lv_at hl 1 rfl) ?_
    refine lv_goto (tgt := 158) hx hb dX4_byLot_153 (by decide) ?_
    exact r_iret hx hb hr hlk hK hG rfl hw dX4_byLot_158
set_option maxRecDepth 100000 in
set_option maxHeartbeats 4000000 in
theorem z_X4_byLot_L12 {p : Program} {e : Env} {s : State} {m : MethodId} {args : Array Value} {below : List Frame} {meth : Method} {c : Code} (l : Launch) (y : Sy) (x1 : Int32) (x2 : Int32) (x3 : Int32) (C : Sd p s m args meth c cX4_byLot 10 RX4 (some .int) y)  (K : Int32 → St → Prop)  : ∀ (n : Nat) (v4 : Int32) (v5 : Int32) (v6 : Int32) (v7 : Int32) (st : St) (H : Heap) (locs : List Loc) (ls : Array Slot), gH 107 enX y st s H locs → lv_has ls 10 [(0, .ref (ad y 10)), (1, .int x1), (3, .int x3), (4, .int v4), (5, .int v5), (6, .int v6), (7, .int v7)] → w_X4_byLot_L12 x1 x2 x3  K n v4 v5 v6 v7 st → W p l e (rmm 5 117) s m args below meth c H locs 0 0 (MQ below (va_Qi K (gB 107 enX y) (gA 107 y)) args s 0 0 (gA 107 y)) (F0 m 12 ls []) := by
  obtain ⟨hx, hb, hml, hown, hts, hr, hlk, hK, hN⟩ := id C
  intro n
  induction n with
  | zero => intro v4 v5 v6 v7 st H locs ls hG hl hw; exact False.elim hw
  | succ n hc12 =>
    intro v4 v5 v6 v7 st H locs ls hG hl hw
    have hw : w_X4_byLot_L12q x1 x2 x3  K (fun v4 v5 v6 v7 st => w_X4_byLot_L12 x1 x2 x3  K n v4 v5 v6 v7 st) v4 v5 v6 v7 st := hw
    unfold w_X4_byLot_L12q at hw
    refine lv_iload hx hb dX4_byLot_12 (lv_at hl 6 rfl) ?_
    refine lv_iload_n hx hb dX4_byLot_14 rfl (lv_at hl 1 rfl) ?_
    refine lv_icmp_ge (tgt := 147) hx hb dX4_byLot_15 (by decide) (fun hc => ?_) (fun hc => ?_)
    · replace hw := hw.1 hc
      exact z_X4_byLot_b147 l y x1 x2 x3 C  K  v5 v6 st hG (lv_sub hl [2, 4, 5] rfl) hw
    · replace hw := hw.2 hc
      refine lv_aload_n hx hb dX4_byLot_18 rfl (lv_at hl 0 rfl) ?_
      refine r_get (C := RX4) (T := TX4) (Nf := 2) hx hb hts hown hK hG (by decide) rfl rfl inX4 1 (by decide) qF_X4_12 rfl dX4_byLot_19 ?_
      refine lv_aload_n hx hb dX4_byLot_22 rfl (lv_at hl 0 rfl) ?_
      refine r_get (C := RX4) (T := TX4) (Nf := 2) hx hb hts hown hK hG (by decide) rfl rfl inX4 0 (by decide) qF_X4_18 rfl dX4_byLot_23 ?_
      refine r_kv (r_run_V (k := 99) (As := [.ref (ad y 11)]) (rest := []) hx hb hml hown hts hK hN hG (c_X1_become l y 99 isC_99 11 isC_11 st _ hw) (isC.lt isC_99) (isC.e isC_99 y _) rfl rfl qM_X4_21 qI_X1_become qS_X1_become qN_X1 qC_X1_become hd_X1_become ⟨Nat.le_of_ble_eq_true rfl, Nat.le_of_ble_eq_true rfl⟩ hl.1 rfl (Nat.le_of_ble_eq_true rfl) dX4_byLot_26) hG (fun st26 H locs hw hG => ?_)
      refine lv_iconst (v := 0) hx hb dX4_byLot_29 (by decide) ?_
      refine lv_istore (lv' := [(8, .int 0), (0, .ref (ad y 10)), (1, .int x1), (3, .int x3), (4, .int v4), (5, .int v5), (6, .int v6), (7, .int v7)]) hx hb dX4_byLot_30 hl (Nat.le_of_ble_eq_true rfl) rfl (fun ls hl => ?_)
      obtain ⟨n32, hw⟩ := hw
      exact z_X4_byLot_L32 l y x1 x2 x3 C (fun v4 v5 v6 v7 st => w_X4_byLot_L12 x1 x2 x3  K n v4 v5 v6 v7 st) K hc12 n32 v4 v5 v6 v7 0 st26 H locs _ hG (lv_sub hl [1, 2, 3, 4, 5, 6, 7, 0] rfl) hw
theorem hd_X4_byLot : yX4_byLot.cls ≠ "java/lang/invoke/MethodHandle" ∧ yX4_byLot.cls ≠ "java/lang/invoke/VarHandle" ∧ (parseMethodDescriptor yX4_byLot.desc).map (fun d => d.parameters.length) = some 3 := by decide +kernel
set_option maxRecDepth 100000 in
set_option maxHeartbeats 4000000 in
theorem c_X4_byLot (l : Launch) (y : Sy) (x1 : Int32) (x2 : Int32) (x3 : Int32) (st : St) (K : Int32 → St → Prop) (hw : w_X4_byLot x1 x2 x3 st K) : Ci 107 enX l yX4_byLot cX4_byLot 10 (some .int) 5 117 y [.ref (ad y 10), .int x1, .int x2, .int x3] st K := by
  refine ent (by decide) (Nat.le_of_ble_eq_true rfl) ?_
  intro p e s m below meth c C hG ls hl
  have hl : lv_has ls 10 [(0, .ref (ad y 10)), (1, .int x1), (2, .int x2), (3, .int x3)] := hl
  generalize ([.ref (ad y 10), .int x1, .int x2, .int x3] : List Value).toArray = args at C ⊢
  have C : Sd p s m args meth c cX4_byLot 10 RX4 (some .int) y := C
  obtain ⟨hx, hb, hml, hown, hts, hr, hlk, hK, hN⟩ := id C
  generalize s.heap = H at hG ⊢
  generalize ([] : List Loc) = locs at hG ⊢
  unfold w_X4_byLot at hw
  refine lv_iload_n hx hb dX4_byLot_0 rfl (lv_at hl 2 rfl) ?_
  refine lv_istore (lv' := [(4, .int x2), (0, .ref (ad y 10)), (1, .int x1), (2, .int x2), (3, .int x3)]) hx hb dX4_byLot_1 hl (Nat.le_of_ble_eq_true rfl) rfl (fun ls hl => ?_)
  refine lv_iconst (v := 0) hx hb dX4_byLot_3 (by decide) ?_
  refine lv_istore (lv' := [(5, .int 0), (4, .int x2), (0, .ref (ad y 10)), (1, .int x1), (2, .int x2), (3, .int x3)]) hx hb dX4_byLot_4 hl (Nat.le_of_ble_eq_true rfl) rfl (fun ls hl => ?_)
  refine lv_iconst (v := 0) hx hb dX4_byLot_6 (by decide) ?_
  refine lv_istore (lv' := [(6, .int 0), (5, .int 0), (4, .int x2), (0, .ref (ad y 10)), (1, .int x1), (2, .int x2), (3, .int x3)]) hx hb dX4_byLot_7 hl (Nat.le_of_ble_eq_true rfl) rfl (fun ls hl => ?_)
  refine lv_iconst (v := 0) hx hb dX4_byLot_9 (by decide) ?_
  refine lv_istore (lv' := [(7, .int 0), (6, .int 0), (5, .int 0), (4, .int x2), (0, .ref (ad y 10)), (1, .int x1), (2, .int x2), (3, .int x3)]) hx hb dX4_byLot_10 hl (Nat.le_of_ble_eq_true rfl) rfl (fun ls hl => ?_)
  obtain ⟨n12, hw⟩ := hw
  exact z_X4_byLot_L12 l y x1 x2 x3 C  K  n12 x2 0 0 0 st H locs _ hG (lv_sub hl [4, 5, 7, 3, 2, 1, 0] rfl) hw
theorem hd_X5_size : yX5_size.cls ≠ "java/lang/invoke/MethodHandle" ∧ yX5_size.cls ≠ "java/lang/invoke/VarHandle" ∧ (parseMethodDescriptor yX5_size.desc).map (fun d => d.parameters.length) = some 0 := by decide +kernel
set_option maxRecDepth 100000 in
set_option maxHeartbeats 4000000 in
theorem c_X5_size (l : Launch) (y : Sy)  (st : St) (K : Int32 → St → Prop) (hw : w_X5_size  st K) : Ci 107 enX l yX5_size cX5_size 1 (some .int) 0 0 y [.ref (ad y 2)] st K := by
  refine ent (by decide) (Nat.le_of_ble_eq_true rfl) ?_
  intro p e s m below meth c C hG ls hl
  have hl : lv_has ls 1 [(0, .ref (ad y 2))] := hl
  generalize ([.ref (ad y 2)] : List Value).toArray = args at C ⊢
  have C : Sd p s m args meth c cX5_size 1 RX5 (some .int) y := C
  obtain ⟨hx, hb, hml, hown, hts, hr, hlk, hK, hN⟩ := id C
  generalize s.heap = H at hG ⊢
  generalize ([] : List Loc) = locs at hG ⊢
  unfold w_X5_size at hw
  refine lv_aload_n hx hb dX5_size_0 rfl (lv_at hl 0 rfl) ?_
  refine r_get (C := RX5) (T := TX5) (Nf := 3) hx hb hts hown hK hG (by decide) rfl rfl inX5 2 (by decide) qF_X5_16 rfl dX5_size_1 ?_
  exact r_iret hx hb hr hlk hK hG rfl hw dX5_size_4
theorem hd_X5_forget : yX5_forget.cls ≠ "java/lang/invoke/MethodHandle" ∧ yX5_forget.cls ≠ "java/lang/invoke/VarHandle" ∧ (parseMethodDescriptor yX5_forget.desc).map (fun d => d.parameters.length) = some 0 := by decide +kernel
set_option maxRecDepth 100000 in
set_option maxHeartbeats 4000000 in
theorem c_X5_forget (l : Launch) (y : Sy)  (st : St) (K : St → Prop) (hw : w_X5_forget  st K) : Cv 107 enX l yX5_forget cX5_forget 1 none 0 0 y [.ref (ad y 2)] st K := by
  refine ent (by decide) (Nat.le_of_ble_eq_true rfl) ?_
  intro p e s m below meth c C hG ls hl
  have hl : lv_has ls 1 [(0, .ref (ad y 2))] := hl
  generalize ([.ref (ad y 2)] : List Value).toArray = args at C ⊢
  have C : Sd p s m args meth c cX5_forget 1 RX5 none y := C
  obtain ⟨hx, hb, hml, hown, hts, hr, hlk, hK, hN⟩ := id C
  generalize s.heap = H at hG ⊢
  generalize ([] : List Loc) = locs at hG ⊢
  unfold w_X5_forget at hw
  refine lv_aload_n hx hb dX5_forget_0 rfl (lv_at hl 0 rfl) ?_
  refine lv_iconst (v := 0) hx hb dX5_forget_1 (by decide) ?_
  refine r_put (C := RX5) (T := TX5) (Nf := 3) hx hb hts hown hK hG (by decide) rfl rfl inX5 tyX5_ok nmX5 2 (by decide) qF_X5_16 rfl 0 rfl rfl rfl (Nat.le_of_ble_eq_true rfl) dX5_forget_2 (fun H locs hG => ?_)
  exact r_vret hx hb hr hlk hK hG hw dX5_forget_5
theorem hd_X5_country : yX5_country.cls ≠ "java/lang/invoke/MethodHandle" ∧ yX5_country.cls ≠ "java/lang/invoke/VarHandle" ∧ (parseMethodDescriptor yX5_country.desc).map (fun d => d.parameters.length) = some 1 := by decide +kernel
set_option maxRecDepth 100000 in
set_option maxHeartbeats 4000000 in
theorem c_X5_country (l : Launch) (y : Sy) (x1 : Int32) (st : St) (K : Option Nat → St → Prop) (hw : w_X5_country x1 st K) : Cq 107 enX l yX5_country cX5_country 2 (some (.object "OnlyTwoEnemies$Country")) 0 0 y [.ref (ad y 2), .int x1] st K := by
  refine ent (by decide) (Nat.le_of_ble_eq_true rfl) ?_
  intro p e s m below meth c C hG ls hl
  have hl : lv_has ls 2 [(0, .ref (ad y 2)), (1, .int x1)] := hl
  generalize ([.ref (ad y 2), .int x1] : List Value).toArray = args at C ⊢
  have C : Sd p s m args meth c cX5_country 2 RX5 (some (.object "OnlyTwoEnemies$Country")) y := C
  obtain ⟨hx, hb, hml, hown, hts, hr, hlk, hK, hN⟩ := id C
  generalize s.heap = H at hG ⊢
  generalize ([] : List Loc) = locs at hG ⊢
  unfold w_X5_country at hw
  refine lv_iload_n hx hb dX5_country_0 rfl (lv_at hl 1 rfl) ?_
  refine lv_if_lt (tgt := 22) hx hb dX5_country_1 (by decide) (fun hc => ?_) (fun hc => ?_)
  · replace hw := hw.1 hc
    refine lv_null hx hb dX5_country_22 ?_
    exact r_qretN hx hb hr hlk hK hG hw dX5_country_23
  · replace hw := hw.2 hc
    refine lv_iload_n hx hb dX5_country_4 rfl (lv_at hl 1 rfl) ?_
    refine lv_aload_n hx hb dX5_country_5 rfl (lv_at hl 0 rfl) ?_
    refine r_get (C := RX5) (T := TX5) (Nf := 3) hx hb hts hown hK hG (by decide) rfl rfl inX5 0 (by decide) qF_X5_11 rfl dX5_country_6 ?_
    refine r_elen hx hb hK hG dX5_country_9 ?_
    refine lv_icmp_ge (tgt := 22) hx hb dX5_country_10 (by decide) (fun hc => ?_) (fun hc => ?_)
    · replace hw := hw.1 hc
      refine lv_null hx hb dX5_country_22 ?_
      exact r_qretN hx hb hr hlk hK hG hw dX5_country_23
    · replace hw := hw.2 hc
      refine lv_aload_n hx hb dX5_country_13 rfl (lv_at hl 0 rfl) ?_
      refine r_get (C := RX5) (T := TX5) (Nf := 3) hx hb hts hown hK hG (by decide) rfl rfl inX5 0 (by decide) qF_X5_11 rfl dX5_country_14 ?_
      refine lv_iload_n hx hb dX5_country_17 rfl (lv_at hl 1 rfl) ?_
      obtain ⟨hi, hw⟩ := hw
      refine r_eald hx hb hK hG hi dX5_country_18 ?_
      refine lv_goto (tgt := 23) hx hb dX5_country_19 (by decide) ?_
      exact r_qret hx hb hr hlk hK hG (isC_past (r_in8 hi)) hw dX5_country_23
theorem hd_X5_remember : yX5_remember.cls ≠ "java/lang/invoke/MethodHandle" ∧ yX5_remember.cls ≠ "java/lang/invoke/VarHandle" ∧ (parseMethodDescriptor yX5_remember.desc).map (fun d => d.parameters.length) = some 1 := by decide +kernel
set_option maxRecDepth 100000 in
set_option maxHeartbeats 4000000 in
theorem c_X5_remember (l : Launch) (y : Sy) (k1 : Nat) (h1 : isC k1) (st : St) (K : St → Prop) (hw : w_X5_remember k1 st K) : Cv 107 enX l yX5_remember cX5_remember 3 none 3 68 y [.ref (ad y 2), .ref (ad y k1)] st K := by
  refine ent (by decide) (Nat.le_of_ble_eq_true rfl) ?_
  intro p e s m below meth c C hG ls hl
  have hl : lv_has ls 3 [(0, .ref (ad y 2)), (1, .ref (ad y k1))] := hl
  generalize ([.ref (ad y 2), .ref (ad y k1)] : List Value).toArray = args at C ⊢
  have C : Sd p s m args meth c cX5_remember 3 RX5 none y := C
  obtain ⟨hx, hb, hml, hown, hts, hr, hlk, hK, hN⟩ := id C
  generalize s.heap = H at hG ⊢
  generalize ([] : List Loc) = locs at hG ⊢
  unfold w_X5_remember at hw
  refine lv_aload_n hx hb dX5_remember_0 rfl (lv_at hl 0 rfl) ?_
  refine lv_aload_n hx hb dX5_remember_1 rfl (lv_at hl 0 rfl) ?_
  refine r_get (C := RX5) (T := TX5) (Nf := 3) hx hb hts hown hK hG (by decide) rfl rfl inX5 1 (by decide) qF_X5_20 rfl dX5_remember_2 ?_
  refine r_kq (r_run_V (k := 2) (As := [.int (st 2 1)]) (rest := []) hx hb hml hown hts hK hN hG (c_X5_country l y (st 2 1) st _ hw) (by decide) rfl rfl rfl qM_X5_23 qI_X5_country qS_X5_country qN_X5 qC_X5_country hd_X5_country ⟨Nat.le_of_ble_eq_true rfl, Nat.le_of_ble_eq_true rfl⟩ hl.1 rfl (Nat.le_of_ble_eq_true rfl) dX5_remember_5) hG (fun r5 st5 H locs hq hw hG => ?_)
  cases r5 with
  | none =>
    replace hw := hw.1 rfl
    refine lv_astore_nN (lv' := [(2, .null), (0, .ref (ad y 2)), (1, .ref (ad y k1))]) hx hb dX5_remember_8 rfl hl (Nat.le_of_ble_eq_true rfl) rfl (fun ls hl => ?_)
    refine lv_aload_nN hx hb dX5_remember_9 rfl (lv_at hl 0 rfl) ?_
    refine lv_ifnullN (tgt := 46) hx hb dX5_remember_10 (by decide) ?_
    exact r_vret hx hb hr hlk hK hG hw dX5_remember_46
  | some q5 =>
    replace hw := hw.2 _ rfl
    replace hq := hq _ rfl
    refine lv_astore_n (lv' := [(2, .ref (ad y q5)), (0, .ref (ad y 2)), (1, .ref (ad y k1))]) hx hb dX5_remember_8 rfl hl (Nat.le_of_ble_eq_true rfl) rfl (fun ls hl => ?_)
    refine lv_aload_n hx hb dX5_remember_9 rfl (lv_at hl 0 rfl) ?_
    refine lv_ifnull hx hb dX5_remember_10 ?_
    refine lv_aload_n hx hb dX5_remember_13 rfl (lv_at hl 0 rfl) ?_
    refine lv_aload_n hx hb dX5_remember_14 rfl (lv_at hl 2 rfl) ?_
    refine r_kv (r_run_V (k := q5) (As := [.ref (ad y k1)]) (rest := []) hx hb hml hown hts hK hN hG (c_X1_become l y q5 hq k1 h1 st5 _ hw) (isC.lt hq) (isC.e hq y _) rfl rfl qM_X5_27 qI_X1_become qS_X1_become qN_X1 qC_X1_become hd_X1_become ⟨Nat.le_of_ble_eq_true rfl, Nat.le_of_ble_eq_true rfl⟩ hl.1 rfl (Nat.le_of_ble_eq_true rfl) dX5_remember_15) hG (fun st15 H locs hw hG => ?_)
    refine lv_aload_n hx hb dX5_remember_18 rfl (lv_at hl 1 rfl) ?_
    refine lv_aload_n hx hb dX5_remember_19 rfl (lv_at hl 1 rfl) ?_
    refine r_get (C := RX5) (T := TX5) (Nf := 3) hx hb hts hown hK hG (by decide) rfl rfl inX5 1 (by decide) qF_X5_20 rfl dX5_remember_20 ?_
    refine lv_iconst (v := 1) hx hb dX5_remember_23 (by decide) ?_
    refine lv_iadd hx hb dX5_remember_24 ?_
    refine lv_bipush (v := 8) hx hb dX5_remember_25 (by decide) ?_
    refine lv_irem hx hb dX5_remember_27 (by decide) ?_
    refine r_put (C := RX5) (T := TX5) (Nf := 3) hx hb hts hown hK hG (by decide) rfl rfl inX5 tyX5_ok nmX5 1 (by decide) qF_X5_20 rfl (((st15 2 1) + 1) - ((st15 2 1) + 1) / 8 * 8) rfl rfl rfl (Nat.le_of_ble_eq_true rfl) dX5_remember_28 (fun H locs hG => ?_)
    refine lv_aload_n hx hb dX5_remember_31 rfl (lv_at hl 1 rfl) ?_
    refine lv_bipush (v := 8) hx hb dX5_remember_32 (by decide) ?_
    refine lv_aload_n hx hb dX5_remember_34 rfl (lv_at hl 1 rfl) ?_
    refine r_get (C := RX5) (T := TX5) (Nf := 3) hx hb hts hown hK hG (by decide) rfl rfl inX5 2 (by decide) qF_X5_16 rfl dX5_remember_35 ?_
    refine lv_iconst (v := 1) hx hb dX5_remember_38 (by decide) ?_
    refine lv_iadd hx hb dX5_remember_39 ?_
    refine va_mmin hx hb (hml.trans hl.1.symm) hown (hts _ qM_X5_31) (hts _ qT_Lib_Math_min_name) (hts _ qN_J9) (hts _ qC_Lib_Math_min_name) (Nat.le_of_ble_eq_true rfl) (Nat.le_of_ble_eq_true rfl) (Nat.zero_le _) (Nat.zero_le _) dX5_remember_40 ?_
    refine r_put (C := RX5) (T := TX5) (Nf := 3) hx hb hts hown hK hG (by decide) rfl rfl inX5 tyX5_ok nmX5 2 (by decide) qF_X5_16 rfl (if (((u2 st15 2 1 (((st15 2 1) + 1) - ((st15 2 1) + 1) / 8 * 8)) 2 2) + 1) < 8 then (((u2 st15 2 1 (((st15 2 1) + 1) - ((st15 2 1) + 1) / 8 * 8)) 2 2) + 1) else 8) rfl rfl rfl (Nat.le_of_ble_eq_true rfl) dX5_remember_43 (fun H locs hG => ?_)
    exact r_vret hx hb hr hlk hK hG hw dX5_remember_46
theorem hd_X5_takeBack : yX5_takeBack.cls ≠ "java/lang/invoke/MethodHandle" ∧ yX5_takeBack.cls ≠ "java/lang/invoke/VarHandle" ∧ (parseMethodDescriptor yX5_takeBack.desc).map (fun d => d.parameters.length) = some 1 := by decide +kernel
set_option maxRecDepth 100000 in
set_option maxHeartbeats 4000000 in
theorem c_X5_takeBack (l : Launch) (y : Sy) (k1 : Nat) (h1 : isC k1) (st : St) (K : St → Prop) (hw : w_X5_takeBack k1 st K) : Cv 107 enX l yX5_takeBack cX5_takeBack 4 none 3 68 y [.ref (ad y 2), .ref (ad y k1)] st K := by
  refine ent (by decide) (Nat.le_of_ble_eq_true rfl) ?_
  intro p e s m below meth c C hG ls hl
  have hl : lv_has ls 4 [(0, .ref (ad y 2)), (1, .ref (ad y k1))] := hl
  generalize ([.ref (ad y 2), .ref (ad y k1)] : List Value).toArray = args at C ⊢
  have C : Sd p s m args meth c cX5_takeBack 4 RX5 none y := C
  obtain ⟨hx, hb, hml, hown, hts, hr, hlk, hK, hN⟩ := id C
  generalize s.heap = H at hG ⊢
  generalize ([] : List Loc) = locs at hG ⊢
  unfold w_X5_takeBack at hw
  refine lv_aload_n hx hb dX5_takeBack_0 rfl (lv_at hl 0 rfl) ?_
  refine r_get (C := RX5) (T := TX5) (Nf := 3) hx hb hts hown hK hG (by decide) rfl rfl inX5 1 (by decide) qF_X5_20 rfl dX5_takeBack_1 ?_
  refine lv_bipush (v := 8) hx hb dX5_takeBack_4 (by decide) ?_
  refine lv_iadd hx hb dX5_takeBack_6 ?_
  refine lv_iconst (v := 1) hx hb dX5_takeBack_7 (by decide) ?_
  refine lv_isub hx hb dX5_takeBack_8 ?_
  refine lv_bipush (v := 8) hx hb dX5_takeBack_9 (by decide) ?_
  refine lv_irem hx hb dX5_takeBack_11 (by decide) ?_
  refine lv_istore_n (lv' := [(2, .int ((((st 2 1) + 8) - 1) - (((st 2 1) + 8) - 1) / 8 * 8)), (0, .ref (ad y 2)), (1, .ref (ad y k1))]) hx hb dX5_takeBack_12 rfl hl (Nat.le_of_ble_eq_true rfl) rfl (fun ls hl => ?_)
  refine lv_aload_n hx hb dX5_takeBack_13 rfl (lv_at hl 1 rfl) ?_
  refine lv_iload_n hx hb dX5_takeBack_14 rfl (lv_at hl 0 rfl) ?_
  refine r_kq (r_run_V (k := 2) (As := [.int ((((st 2 1) + 8) - 1) - (((st 2 1) + 8) - 1) / 8 * 8)]) (rest := []) hx hb hml hown hts hK hN hG (c_X5_country l y ((((st 2 1) + 8) - 1) - (((st 2 1) + 8) - 1) / 8 * 8) st _ hw) (by decide) rfl rfl rfl qM_X5_23 qI_X5_country qS_X5_country qN_X5 qC_X5_country hd_X5_country ⟨Nat.le_of_ble_eq_true rfl, Nat.le_of_ble_eq_true rfl⟩ hl.1 rfl (Nat.le_of_ble_eq_true rfl) dX5_takeBack_15) hG (fun r15 st15 H locs hq hw hG => ?_)
  cases r15 with
  | none =>
    replace hw := hw.1 rfl
    refine lv_astore_nN (lv' := [(3, .null), (2, .int ((((st 2 1) + 8) - 1) - (((st 2 1) + 8) - 1) / 8 * 8)), (0, .ref (ad y 2)), (1, .ref (ad y k1))]) hx hb dX5_takeBack_18 rfl hl (Nat.le_of_ble_eq_true rfl) rfl (fun ls hl => ?_)
    refine lv_aload_n hx hb dX5_takeBack_19 rfl (lv_at hl 2 rfl) ?_
    refine r_get (C := RX5) (T := TX5) (Nf := 3) hx hb hts hown hK hG (by decide) rfl rfl inX5 2 (by decide) qF_X5_16 rfl dX5_takeBack_20 ?_
    refine lv_if_le (tgt := 54) hx hb dX5_takeBack_23 (by decide) (fun hc => ?_) (fun hc => ?_)
    · replace hw := hw.1 hc
      exact r_vret hx hb hr hlk hK hG hw dX5_takeBack_54
    · replace hw := hw.2 hc
      refine lv_aload_n hx hb dX5_takeBack_26 rfl (lv_at hl 3 rfl) ?_
      refine lv_ifnull hx hb dX5_takeBack_27 ?_
      refine lv_aload_nN hx hb dX5_takeBack_30 rfl (lv_at hl 0 rfl) ?_
      refine lv_ifnullN (tgt := 54) hx hb dX5_takeBack_31 (by decide) ?_
      exact r_vret hx hb hr hlk hK hG hw dX5_takeBack_54
  | some q15 =>
    replace hw := hw.2 _ rfl
    replace hq := hq _ rfl
    refine lv_astore_n (lv' := [(3, .ref (ad y q15)), (2, .int ((((st 2 1) + 8) - 1) - (((st 2 1) + 8) - 1) / 8 * 8)), (0, .ref (ad y 2)), (1, .ref (ad y k1))]) hx hb dX5_takeBack_18 rfl hl (Nat.le_of_ble_eq_true rfl) rfl (fun ls hl => ?_)
    refine lv_aload_n hx hb dX5_takeBack_19 rfl (lv_at hl 2 rfl) ?_
    refine r_get (C := RX5) (T := TX5) (Nf := 3) hx hb hts hown hK hG (by decide) rfl rfl inX5 2 (by decide) qF_X5_16 rfl dX5_takeBack_20 ?_
    refine lv_if_le (tgt := 54) hx hb dX5_takeBack_23 (by decide) (fun hc => ?_) (fun hc => ?_)
    · replace hw := hw.1 hc
      exact r_vret hx hb hr hlk hK hG hw dX5_takeBack_54
    · replace hw := hw.2 hc
      refine lv_aload_n hx hb dX5_takeBack_26 rfl (lv_at hl 3 rfl) ?_
      refine lv_ifnull hx hb dX5_takeBack_27 ?_
      refine lv_aload_n hx hb dX5_takeBack_30 rfl (lv_at hl 0 rfl) ?_
      refine lv_ifnull hx hb dX5_takeBack_31 ?_
      refine lv_aload_n hx hb dX5_takeBack_34 rfl (lv_at hl 3 rfl) ?_
      refine lv_aload_n hx hb dX5_takeBack_35 rfl (lv_at hl 0 rfl) ?_
      refine r_kv (r_run_V (k := k1) (As := [.ref (ad y q15)]) (rest := []) hx hb hml hown hts hK hN hG (c_X1_become l y k1 h1 q15 hq st15 _ hw) (isC.lt h1) (isC.e h1 y _) rfl rfl qM_X5_27 qI_X1_become qS_X1_become qN_X1 qC_X1_become hd_X1_become ⟨Nat.le_of_ble_eq_true rfl, Nat.le_of_ble_eq_true rfl⟩ hl.1 rfl (Nat.le_of_ble_eq_true rfl) dX5_takeBack_36) hG (fun st36 H locs hw hG => ?_)
      refine lv_aload_n hx hb dX5_takeBack_39 rfl (lv_at hl 2 rfl) ?_
      refine lv_iload_n hx hb dX5_takeBack_40 rfl (lv_at hl 1 rfl) ?_
      refine r_put (C := RX5) (T := TX5) (Nf := 3) hx hb hts hown hK hG (by decide) rfl rfl inX5 tyX5_ok nmX5 1 (by decide) qF_X5_20 rfl ((((st 2 1) + 8) - 1) - (((st 2 1) + 8) - 1) / 8 * 8) rfl rfl rfl (Nat.le_of_ble_eq_true rfl) dX5_takeBack_41 (fun H locs hG => ?_)
      refine lv_aload_n hx hb dX5_takeBack_44 rfl (lv_at hl 2 rfl) ?_
      refine lv_dup hx hb dX5_takeBack_45 rfl ?_
      refine r_get (C := RX5) (T := TX5) (Nf := 3) hx hb hts hown hK hG (by decide) rfl rfl inX5 2 (by decide) qF_X5_16 rfl dX5_takeBack_46 ?_
      refine lv_iconst (v := 1) hx hb dX5_takeBack_49 (by decide) ?_
      refine lv_isub hx hb dX5_takeBack_50 ?_
      refine r_put (C := RX5) (T := TX5) (Nf := 3) hx hb hts hown hK hG (by decide) rfl rfl inX5 tyX5_ok nmX5 2 (by decide) qF_X5_16 rfl (((u2 st36 2 1 ((((st 2 1) + 8) - 1) - (((st 2 1) + 8) - 1) / 8 * 8)) 2 2) - 1) rfl rfl rfl (Nat.le_of_ble_eq_true rfl) dX5_takeBack_51 (fun H locs hG => ?_)
      exact r_vret hx hb hr hlk hK hG hw dX5_takeBack_54
theorem hd_X6_isFull : yX6_isFull.cls ≠ "java/lang/invoke/MethodHandle" ∧ yX6_isFull.cls ≠ "java/lang/invoke/VarHandle" ∧ (parseMethodDescriptor yX6_isFull.desc).map (fun d => d.parameters.length) = some 0 := by decide +kernel
set_option maxRecDepth 100000 in
set_option maxHeartbeats 4000000 in
theorem c_X6_isFull (l : Launch) (y : Sy)  (st : St) (K : Int32 → St → Prop) (hw : w_X6_isFull  st K) : Ci 107 enX l yX6_isFull cX6_isFull 1 (some .boolean) 0 0 y [.ref (ad y 6)] st K := by
  refine ent (by decide) (Nat.le_of_ble_eq_true rfl) ?_
  intro p e s m below meth c C hG ls hl
  have hl : lv_has ls 1 [(0, .ref (ad y 6))] := hl
  generalize ([.ref (ad y 6)] : List Value).toArray = args at C ⊢
  have C : Sd p s m args meth c cX6_isFull 1 RX6 (some .boolean) y := C
  obtain ⟨hx, hb, hml, hown, hts, hr, hlk, hK, hN⟩ := id C
  generalize s.heap = H at hG ⊢
  generalize ([] : List Loc) = locs at hG ⊢
  unfold w_X6_isFull at hw
  refine lv_aload_n hx hb dX6_isFull_0 rfl (lv_at hl 0 rfl) ?_
  refine r_get (C := RX6) (T := TX6) (Nf := 2) hx hb hts hown hK hG (by decide) rfl rfl inX6 1 (by decide) qF_X6_13 rfl dX6_isFull_1 ?_
  refine lv_bipush (v := 12) hx hb dX6_isFull_4 (by decide) ?_
  refine lv_icmp_lt (tgt := 13) hx hb dX6_isFull_6 (by decide) (fun hc => ?_) (fun hc => ?_)
  · replace hw := hw.1 hc
    refine lv_iconst (v := 0) hx hb dX6_isFull_13 (by decide) ?_
    exact r_iret hx hb hr hlk hK hG rfl hw dX6_isFull_14
  · replace hw := hw.2 hc
    refine lv_iconst (v := 1) hx hb dX6_isFull_9 (by decide) ?_
    refine lv_goto (tgt := 14) hx hb dX6_isFull_10 (by decide) ?_
    exact r_iret hx hb hr hlk hK hG rfl hw dX6_isFull_14
theorem hd_X6_add : yX6_add.cls ≠ "java/lang/invoke/MethodHandle" ∧ yX6_add.cls ≠ "java/lang/invoke/VarHandle" ∧ (parseMethodDescriptor yX6_add.desc).map (fun d => d.parameters.length) = some 1 := by decide +kernel
set_option maxRecDepth 100000 in
set_option maxHeartbeats 4000000 in
theorem c_X6_add (l : Launch) (y : Sy) (x1 : Int32) (st : St) (K : Int32 → St → Prop) (hw : w_X6_add x1 st K) : Ci 107 enX l yX6_add cX6_add 2 (some .int) 1 22 y [.ref (ad y 6), .int x1] st K := by
  refine ent (by decide) (Nat.le_of_ble_eq_true rfl) ?_
  intro p e s m below meth c C hG ls hl
  have hl : lv_has ls 2 [(0, .ref (ad y 6)), (1, .int x1)] := hl
  generalize ([.ref (ad y 6), .int x1] : List Value).toArray = args at C ⊢
  have C : Sd p s m args meth c cX6_add 2 RX6 (some .int) y := C
  obtain ⟨hx, hb, hml, hown, hts, hr, hlk, hK, hN⟩ := id C
  generalize s.heap = H at hG ⊢
  generalize ([] : List Loc) = locs at hG ⊢
  unfold w_X6_add at hw
  refine lv_aload_n hx hb dX6_add_0 rfl (lv_at hl 0 rfl) ?_
  refine r_get (C := RX6) (T := TX6) (Nf := 2) hx hb hts hown hK hG (by decide) rfl rfl inX6 0 (by decide) qF_X6_9 rfl dX6_add_1 ?_
  refine lv_aload_n hx hb dX6_add_4 rfl (lv_at hl 0 rfl) ?_
  refine r_get (C := RX6) (T := TX6) (Nf := 2) hx hb hts hown hK hG (by decide) rfl rfl inX6 1 (by decide) qF_X6_13 rfl dX6_add_5 ?_
  refine lv_iload_n hx hb dX6_add_8 rfl (lv_at hl 1 rfl) ?_
  refine r_kv (r_run_N (As := [.ref (ad y 7), .int (st 6 1), .int x1]) (rest := []) hx hb hml hown hts hK hN hG (c_X8_put l y 7 12 isA_7 (st 6 1) x1 st _ hw) qM_X6_17 qT_X8_put qN_X8 qC_X8_put hd_X8_put ⟨Nat.le_of_ble_eq_true rfl, Nat.le_of_ble_eq_true rfl⟩ hl.1 rfl (Nat.le_of_ble_eq_true rfl) dX6_add_9) hG (fun st9 H locs hw hG => ?_)
  refine lv_aload_n hx hb dX6_add_12 rfl (lv_at hl 0 rfl) ?_
  refine lv_bipush (v := 12) hx hb dX6_add_13 (by decide) ?_
  refine lv_aload_n hx hb dX6_add_15 rfl (lv_at hl 0 rfl) ?_
  refine r_get (C := RX6) (T := TX6) (Nf := 2) hx hb hts hown hK hG (by decide) rfl rfl inX6 1 (by decide) qF_X6_13 rfl dX6_add_16 ?_
  refine lv_iconst (v := 1) hx hb dX6_add_19 (by decide) ?_
  refine lv_iadd hx hb dX6_add_20 ?_
  refine va_mmin hx hb (hml.trans hl.1.symm) hown (hts _ qM_X6_23) (hts _ qT_Lib_Math_min_name) (hts _ qN_J9) (hts _ qC_Lib_Math_min_name) (Nat.le_of_ble_eq_true rfl) (Nat.le_of_ble_eq_true rfl) (Nat.zero_le _) (Nat.zero_le _) dX6_add_21 ?_
  refine r_put (C := RX6) (T := TX6) (Nf := 2) hx hb hts hown hK hG (by decide) rfl rfl inX6 tyX6_ok nmX6 1 (by decide) qF_X6_13 rfl (if ((st9 6 1) + 1) < 12 then ((st9 6 1) + 1) else 12) rfl rfl rfl (Nat.le_of_ble_eq_true rfl) dX6_add_24 (fun H locs hG => ?_)
  refine lv_aload_n hx hb dX6_add_27 rfl (lv_at hl 0 rfl) ?_
  refine r_get (C := RX6) (T := TX6) (Nf := 2) hx hb hts hown hK hG (by decide) rfl rfl inX6 1 (by decide) qF_X6_13 rfl dX6_add_28 ?_
  exact r_iret hx hb hr hlk hK hG rfl hw dX6_add_31
theorem hd_X6_empty : yX6_empty.cls ≠ "java/lang/invoke/MethodHandle" ∧ yX6_empty.cls ≠ "java/lang/invoke/VarHandle" ∧ (parseMethodDescriptor yX6_empty.desc).map (fun d => d.parameters.length) = some 0 := by decide +kernel
set_option maxRecDepth 100000 in
set_option maxHeartbeats 4000000 in
theorem c_X6_empty (l : Launch) (y : Sy)  (st : St) (K : St → Prop) (hw : w_X6_empty  st K) : Cv 107 enX l yX6_empty cX6_empty 1 none 0 0 y [.ref (ad y 6)] st K := by
  refine ent (by decide) (Nat.le_of_ble_eq_true rfl) ?_
  intro p e s m below meth c C hG ls hl
  have hl : lv_has ls 1 [(0, .ref (ad y 6))] := hl
  generalize ([.ref (ad y 6)] : List Value).toArray = args at C ⊢
  have C : Sd p s m args meth c cX6_empty 1 RX6 none y := C
  obtain ⟨hx, hb, hml, hown, hts, hr, hlk, hK, hN⟩ := id C
  generalize s.heap = H at hG ⊢
  generalize ([] : List Loc) = locs at hG ⊢
  unfold w_X6_empty at hw
  refine lv_aload_n hx hb dX6_empty_0 rfl (lv_at hl 0 rfl) ?_
  refine lv_iconst (v := 0) hx hb dX6_empty_1 (by decide) ?_
  refine r_put (C := RX6) (T := TX6) (Nf := 2) hx hb hts hown hK hG (by decide) rfl rfl inX6 tyX6_ok nmX6 1 (by decide) qF_X6_13 rfl 0 rfl rfl rfl (Nat.le_of_ble_eq_true rfl) dX6_empty_2 (fun H locs hG => ?_)
  exact r_vret hx hb hr hlk hK hG hw dX6_empty_5
theorem hd_X7_size : yX7_size.cls ≠ "java/lang/invoke/MethodHandle" ∧ yX7_size.cls ≠ "java/lang/invoke/VarHandle" ∧ (parseMethodDescriptor yX7_size.desc).map (fun d => d.parameters.length) = some 0 := by decide +kernel
set_option maxRecDepth 100000 in
set_option maxHeartbeats 4000000 in
theorem c_X7_size (l : Launch) (y : Sy)  (st : St) (K : Int32 → St → Prop) (hw : w_X7_size  st K) : Ci 107 enX l yX7_size cX7_size 1 (some .int) 0 0 y [.ref (ad y 4)] st K := by
  refine ent (by decide) (Nat.le_of_ble_eq_true rfl) ?_
  intro p e s m below meth c C hG ls hl
  have hl : lv_has ls 1 [(0, .ref (ad y 4))] := hl
  generalize ([.ref (ad y 4)] : List Value).toArray = args at C ⊢
  have C : Sd p s m args meth c cX7_size 1 RX7 (some .int) y := C
  obtain ⟨hx, hb, hml, hown, hts, hr, hlk, hK, hN⟩ := id C
  generalize s.heap = H at hG ⊢
  generalize ([] : List Loc) = locs at hG ⊢
  unfold w_X7_size at hw
  refine lv_aload_n hx hb dX7_size_0 rfl (lv_at hl 0 rfl) ?_
  refine r_get (C := RX7) (T := TX7) (Nf := 2) hx hb hts hown hK hG (by decide) rfl rfl inX7 1 (by decide) qF_X7_15 rfl dX7_size_1 ?_
  exact r_iret hx hb hr hlk hK hG rfl hw dX7_size_4
theorem hd_X7_isFull : yX7_isFull.cls ≠ "java/lang/invoke/MethodHandle" ∧ yX7_isFull.cls ≠ "java/lang/invoke/VarHandle" ∧ (parseMethodDescriptor yX7_isFull.desc).map (fun d => d.parameters.length) = some 0 := by decide +kernel
set_option maxRecDepth 100000 in
set_option maxHeartbeats 4000000 in
theorem c_X7_isFull (l : Launch) (y : Sy)  (st : St) (K : Int32 → St → Prop) (hw : w_X7_isFull  st K) : Ci 107 enX l yX7_isFull cX7_isFull 1 (some .boolean) 0 0 y [.ref (ad y 4)] st K := by
  refine ent (by decide) (Nat.le_of_ble_eq_true rfl) ?_
  intro p e s m below meth c C hG ls hl
  have hl : lv_has ls 1 [(0, .ref (ad y 4))] := hl
  generalize ([.ref (ad y 4)] : List Value).toArray = args at C ⊢
  have C : Sd p s m args meth c cX7_isFull 1 RX7 (some .boolean) y := C
  obtain ⟨hx, hb, hml, hown, hts, hr, hlk, hK, hN⟩ := id C
  generalize s.heap = H at hG ⊢
  generalize ([] : List Loc) = locs at hG ⊢
  unfold w_X7_isFull at hw
  refine lv_aload_n hx hb dX7_isFull_0 rfl (lv_at hl 0 rfl) ?_
  refine r_get (C := RX7) (T := TX7) (Nf := 2) hx hb hts hown hK hG (by decide) rfl rfl inX7 1 (by decide) qF_X7_15 rfl dX7_isFull_1 ?_
  refine lv_bipush (v := 96) hx hb dX7_isFull_4 (by decide) ?_
  refine lv_icmp_lt (tgt := 13) hx hb dX7_isFull_6 (by decide) (fun hc => ?_) (fun hc => ?_)
  · replace hw := hw.1 hc
    refine lv_iconst (v := 0) hx hb dX7_isFull_13 (by decide) ?_
    exact r_iret hx hb hr hlk hK hG rfl hw dX7_isFull_14
  · replace hw := hw.2 hc
    refine lv_iconst (v := 1) hx hb dX7_isFull_9 (by decide) ?_
    refine lv_goto (tgt := 14) hx hb dX7_isFull_10 (by decide) ?_
    exact r_iret hx hb hr hlk hK hG rfl hw dX7_isFull_14
theorem hd_X7_add : yX7_add.cls ≠ "java/lang/invoke/MethodHandle" ∧ yX7_add.cls ≠ "java/lang/invoke/VarHandle" ∧ (parseMethodDescriptor yX7_add.desc).map (fun d => d.parameters.length) = some 1 := by decide +kernel
set_option maxRecDepth 100000 in
set_option maxHeartbeats 4000000 in
theorem c_X7_add (l : Launch) (y : Sy) (x1 : Int32) (st : St) (K : Int32 → St → Prop) (hw : w_X7_add x1 st K) : Ci 107 enX l yX7_add cX7_add 2 (some .int) 1 22 y [.ref (ad y 4), .int x1] st K := by
  refine ent (by decide) (Nat.le_of_ble_eq_true rfl) ?_
  intro p e s m below meth c C hG ls hl
  have hl : lv_has ls 2 [(0, .ref (ad y 4)), (1, .int x1)] := hl
  generalize ([.ref (ad y 4), .int x1] : List Value).toArray = args at C ⊢
  have C : Sd p s m args meth c cX7_add 2 RX7 (some .int) y := C
  obtain ⟨hx, hb, hml, hown, hts, hr, hlk, hK, hN⟩ := id C
  generalize s.heap = H at hG ⊢
  generalize ([] : List Loc) = locs at hG ⊢
  unfold w_X7_add at hw
  refine lv_aload_n hx hb dX7_add_0 rfl (lv_at hl 0 rfl) ?_
  refine r_get (C := RX7) (T := TX7) (Nf := 2) hx hb hts hown hK hG (by decide) rfl rfl inX7 0 (by decide) qF_X7_11 rfl dX7_add_1 ?_
  refine lv_aload_n hx hb dX7_add_4 rfl (lv_at hl 0 rfl) ?_
  refine r_get (C := RX7) (T := TX7) (Nf := 2) hx hb hts hown hK hG (by decide) rfl rfl inX7 1 (by decide) qF_X7_15 rfl dX7_add_5 ?_
  refine lv_iload_n hx hb dX7_add_8 rfl (lv_at hl 1 rfl) ?_
  refine r_kv (r_run_N (As := [.ref (ad y 5), .int (st 4 1), .int x1]) (rest := []) hx hb hml hown hts hK hN hG (c_X8_put l y 5 96 isA_5 (st 4 1) x1 st _ hw) qM_X7_19 qT_X8_put qN_X8 qC_X8_put hd_X8_put ⟨Nat.le_of_ble_eq_true rfl, Nat.le_of_ble_eq_true rfl⟩ hl.1 rfl (Nat.le_of_ble_eq_true rfl) dX7_add_9) hG (fun st9 H locs hw hG => ?_)
  refine lv_aload_n hx hb dX7_add_12 rfl (lv_at hl 0 rfl) ?_
  refine lv_bipush (v := 96) hx hb dX7_add_13 (by decide) ?_
  refine lv_aload_n hx hb dX7_add_15 rfl (lv_at hl 0 rfl) ?_
  refine r_get (C := RX7) (T := TX7) (Nf := 2) hx hb hts hown hK hG (by decide) rfl rfl inX7 1 (by decide) qF_X7_15 rfl dX7_add_16 ?_
  refine lv_iconst (v := 1) hx hb dX7_add_19 (by decide) ?_
  refine lv_iadd hx hb dX7_add_20 ?_
  refine va_mmin hx hb (hml.trans hl.1.symm) hown (hts _ qM_X7_23) (hts _ qT_Lib_Math_min_name) (hts _ qN_J9) (hts _ qC_Lib_Math_min_name) (Nat.le_of_ble_eq_true rfl) (Nat.le_of_ble_eq_true rfl) (Nat.zero_le _) (Nat.zero_le _) dX7_add_21 ?_
  refine r_put (C := RX7) (T := TX7) (Nf := 2) hx hb hts hown hK hG (by decide) rfl rfl inX7 tyX7_ok nmX7 1 (by decide) qF_X7_15 rfl (if ((st9 4 1) + 1) < 96 then ((st9 4 1) + 1) else 96) rfl rfl rfl (Nat.le_of_ble_eq_true rfl) dX7_add_24 (fun H locs hG => ?_)
  refine lv_aload_n hx hb dX7_add_27 rfl (lv_at hl 0 rfl) ?_
  refine r_get (C := RX7) (T := TX7) (Nf := 2) hx hb hts hown hK hG (by decide) rfl rfl inX7 1 (by decide) qF_X7_15 rfl dX7_add_28 ?_
  exact r_iret hx hb hr hlk hK hG rfl hw dX7_add_31
theorem hd_X7_empty : yX7_empty.cls ≠ "java/lang/invoke/MethodHandle" ∧ yX7_empty.cls ≠ "java/lang/invoke/VarHandle" ∧ (parseMethodDescriptor yX7_empty.desc).map (fun d => d.parameters.length) = some 0 := by decide +kernel
set_option maxRecDepth 100000 in
set_option maxHeartbeats 4000000 in
theorem c_X7_empty (l : Launch) (y : Sy)  (st : St) (K : St → Prop) (hw : w_X7_empty  st K) : Cv 107 enX l yX7_empty cX7_empty 1 none 0 0 y [.ref (ad y 4)] st K := by
  refine ent (by decide) (Nat.le_of_ble_eq_true rfl) ?_
  intro p e s m below meth c C hG ls hl
  have hl : lv_has ls 1 [(0, .ref (ad y 4))] := hl
  generalize ([.ref (ad y 4)] : List Value).toArray = args at C ⊢
  have C : Sd p s m args meth c cX7_empty 1 RX7 none y := C
  obtain ⟨hx, hb, hml, hown, hts, hr, hlk, hK, hN⟩ := id C
  generalize s.heap = H at hG ⊢
  generalize ([] : List Loc) = locs at hG ⊢
  unfold w_X7_empty at hw
  refine lv_aload_n hx hb dX7_empty_0 rfl (lv_at hl 0 rfl) ?_
  refine lv_iconst (v := 0) hx hb dX7_empty_1 (by decide) ?_
  refine r_put (C := RX7) (T := TX7) (Nf := 2) hx hb hts hown hK hG (by decide) rfl rfl inX7 tyX7_ok nmX7 1 (by decide) qF_X7_15 rfl 0 rfl rfl rfl (Nat.le_of_ble_eq_true rfl) dX7_empty_2 (fun H locs hG => ?_)
  exact r_vret hx hb hr hlk hK hG hw dX7_empty_5
theorem hd_X7_sign : yX7_sign.cls ≠ "java/lang/invoke/MethodHandle" ∧ yX7_sign.cls ≠ "java/lang/invoke/VarHandle" ∧ (parseMethodDescriptor yX7_sign.desc).map (fun d => d.parameters.length) = some 1 := by decide +kernel
set_option maxRecDepth 100000 in
set_option maxHeartbeats 4000000 in
theorem c_X7_sign (l : Launch) (y : Sy) (x1 : Int32) (st : St) (K : Int32 → St → Prop) (hw : w_X7_sign x1 st K) : Ci 107 enX l yX7_sign cX7_sign 2 (some .int) 1 21 y [.ref (ad y 4), .int x1] st K := by
  refine ent (by decide) (Nat.le_of_ble_eq_true rfl) ?_
  intro p e s m below meth c C hG ls hl
  have hl : lv_has ls 2 [(0, .ref (ad y 4)), (1, .int x1)] := hl
  generalize ([.ref (ad y 4), .int x1] : List Value).toArray = args at C ⊢
  have C : Sd p s m args meth c cX7_sign 2 RX7 (some .int) y := C
  obtain ⟨hx, hb, hml, hown, hts, hr, hlk, hK, hN⟩ := id C
  generalize s.heap = H at hG ⊢
  generalize ([] : List Loc) = locs at hG ⊢
  unfold w_X7_sign at hw
  refine lv_iload_n hx hb dX7_sign_0 rfl (lv_at hl 1 rfl) ?_
  refine lv_aload_n hx hb dX7_sign_1 rfl (lv_at hl 0 rfl) ?_
  refine r_get (C := RX7) (T := TX7) (Nf := 2) hx hb hts hown hK hG (by decide) rfl rfl inX7 1 (by decide) qF_X7_15 rfl dX7_sign_2 ?_
  refine lv_icmp_ge (tgt := 19) hx hb dX7_sign_5 (by decide) (fun hc => ?_) (fun hc => ?_)
  · replace hw := hw.1 hc
    refine lv_iconst (v := (-1)) hx hb dX7_sign_19 (by decide) ?_
    exact r_iret hx hb hr hlk hK hG rfl hw dX7_sign_20
  · replace hw := hw.2 hc
    refine lv_aload_n hx hb dX7_sign_8 rfl (lv_at hl 0 rfl) ?_
    refine r_get (C := RX7) (T := TX7) (Nf := 2) hx hb hts hown hK hG (by decide) rfl rfl inX7 0 (by decide) qF_X7_11 rfl dX7_sign_9 ?_
    refine lv_iload_n hx hb dX7_sign_12 rfl (lv_at hl 1 rfl) ?_
    refine r_ki (r_run_N (As := [.ref (ad y 5), .int x1]) (rest := []) hx hb hml hown hts hK hN hG (c_X8_at l y 5 96 isA_5 x1 st _ hw) qM_X7_105 qT_X8_at qN_X8 qC_X8_at hd_X8_at ⟨Nat.le_of_ble_eq_true rfl, Nat.le_of_ble_eq_true rfl⟩ hl.1 rfl (Nat.le_of_ble_eq_true rfl) dX7_sign_13) hG (fun r13 st13 H locs hw hG => ?_)
    refine lv_goto (tgt := 20) hx hb dX7_sign_16 (by decide) ?_
    exact r_iret hx hb hr hlk hK hG rfl hw dX7_sign_20
theorem hd_X7_digitsBehind : yX7_digitsBehind.cls ≠ "java/lang/invoke/MethodHandle" ∧ yX7_digitsBehind.cls ≠ "java/lang/invoke/VarHandle" ∧ (parseMethodDescriptor yX7_digitsBehind.desc).map (fun d => d.parameters.length) = some 1 := by decide +kernel
set_option maxRecDepth 100000 in
set_option maxHeartbeats 4000000 in
theorem c_X7_digitsBehind (l : Launch) (y : Sy) (x0 : Int32) (st : St) (K : Int32 → St → Prop) (hw : w_X7_digitsBehind x0 st K) : Ci 107 enX l yX7_digitsBehind cX7_digitsBehind 1 (some .int) 0 0 y [.int x0] st K := by
  refine ent (by decide) (Nat.le_of_ble_eq_true rfl) ?_
  intro p e s m below meth c C hG ls hl
  have hl : lv_has ls 1 [(0, .int x0)] := hl
  generalize ([.int x0] : List Value).toArray = args at C ⊢
  have C : Sd p s m args meth c cX7_digitsBehind 1 RX7 (some .int) y := C
  obtain ⟨hx, hb, hml, hown, hts, hr, hlk, hK, hN⟩ := id C
  generalize s.heap = H at hG ⊢
  generalize ([] : List Loc) = locs at hG ⊢
  unfold w_X7_digitsBehind at hw
  refine lv_iload_n hx hb dX7_digitsBehind_0 rfl (lv_at hl 0 rfl) ?_
  by_cases g103 : x0 = 103
  · replace hw := hw.1 g103
    refine r_tabin (v := 103) (tgt := 90) hx hb dX7_digitsBehind_1 g103 (by decide) (by decide) rfl (by decide) ?_
    refine lv_iconst (v := 2) hx hb dX7_digitsBehind_90 (by decide) ?_
    exact r_iret hx hb hr hlk hK hG rfl hw dX7_digitsBehind_91
  replace hw := hw.2 g103
  by_cases g104 : x0 = 104
  · replace hw := hw.1 g104
    refine r_tabin (v := 104) (tgt := 86) hx hb dX7_digitsBehind_1 g104 (by decide) (by decide) rfl (by decide) ?_
    refine lv_iconst (v := 4) hx hb dX7_digitsBehind_86 (by decide) ?_
    exact r_iret hx hb hr hlk hK hG rfl hw dX7_digitsBehind_87
  replace hw := hw.2 g104
  by_cases g107 : x0 = 107
  · replace hw := hw.1 g107
    refine r_tabin (v := 107) (tgt := 84) hx hb dX7_digitsBehind_1 g107 (by decide) (by decide) rfl (by decide) ?_
    refine lv_iconst (v := 3) hx hb dX7_digitsBehind_84 (by decide) ?_
    exact r_iret hx hb hr hlk hK hG rfl hw dX7_digitsBehind_85
  replace hw := hw.2 g107
  by_cases g108 : x0 = 108
  · replace hw := hw.1 g108
    refine r_tabin (v := 108) (tgt := 88) hx hb dX7_digitsBehind_1 g108 (by decide) (by decide) rfl (by decide) ?_
    refine lv_iconst (v := 3) hx hb dX7_digitsBehind_88 (by decide) ?_
    exact r_iret hx hb hr hlk hK hG rfl hw dX7_digitsBehind_89
  replace hw := hw.2 g108
  by_cases g115 : x0 = 115
  · replace hw := hw.1 g115
    refine r_tabin (v := 115) (tgt := 92) hx hb dX7_digitsBehind_1 g115 (by decide) (by decide) rfl (by decide) ?_
    refine lv_iconst (v := 1) hx hb dX7_digitsBehind_92 (by decide) ?_
    exact r_iret hx hb hr hlk hK hG rfl hw dX7_digitsBehind_93
  replace hw := hw.2 g115
  by_cases g119 : x0 = 119
  · replace hw := hw.1 g119
    refine r_tabin (v := 119) (tgt := 94) hx hb dX7_digitsBehind_1 g119 (by decide) (by decide) rfl (by decide) ?_
    refine lv_iconst (v := 2) hx hb dX7_digitsBehind_94 (by decide) ?_
    exact r_iret hx hb hr hlk hK hG rfl hw dX7_digitsBehind_95
  replace hw := hw.2 g119
  refine r_tabdef (tgt := 96) hx hb dX7_digitsBehind_1 (by decide) (fun v q1 q2 q3 => ?_) ?_
  · rcases (show v = 103 ∨ v = 104 ∨ v = 105 ∨ v = 106 ∨ v = 107 ∨ v = 108 ∨ v = 109 ∨ v = 110 ∨ v = 111 ∨ v = 112 ∨ v = 113 ∨ v = 114 ∨ v = 115 ∨ v = 116 ∨ v = 117 ∨ v = 118 ∨ v = 119 by omega) with rfl | rfl | rfl | rfl | rfl | rfl | rfl | rfl | rfl | rfl | rfl | rfl | rfl | rfl | rfl | rfl | rfl
    · exact absurd (r_toI (v := 103) q3) g103
    · exact absurd (r_toI (v := 104) q3) g104
    · rfl
    · rfl
    · exact absurd (r_toI (v := 107) q3) g107
    · exact absurd (r_toI (v := 108) q3) g108
    · rfl
    · rfl
    · rfl
    · rfl
    · rfl
    · rfl
    · exact absurd (r_toI (v := 115) q3) g115
    · rfl
    · rfl
    · rfl
    · exact absurd (r_toI (v := 119) q3) g119
  refine lv_iconst (v := 0) hx hb dX7_digitsBehind_96 (by decide) ?_
  exact r_iret hx hb hr hlk hK hG rfl hw dX7_digitsBehind_97
theorem hd_X7_isDigit : yX7_isDigit.cls ≠ "java/lang/invoke/MethodHandle" ∧ yX7_isDigit.cls ≠ "java/lang/invoke/VarHandle" ∧ (parseMethodDescriptor yX7_isDigit.desc).map (fun d => d.parameters.length) = some 1 := by decide +kernel
set_option maxRecDepth 100000 in
set_option maxHeartbeats 4000000 in
theorem c_X7_isDigit (l : Launch) (y : Sy) (x1 : Int32) (st : St) (K : Int32 → St → Prop) (hw : w_X7_isDigit x1 st K) : Ci 107 enX l yX7_isDigit cX7_isDigit 2 (some .boolean) 2 42 y [.ref (ad y 4), .int x1] st K := by
  refine ent (by decide) (Nat.le_of_ble_eq_true rfl) ?_
  intro p e s m below meth c C hG ls hl
  have hl : lv_has ls 2 [(0, .ref (ad y 4)), (1, .int x1)] := hl
  generalize ([.ref (ad y 4), .int x1] : List Value).toArray = args at C ⊢
  have C : Sd p s m args meth c cX7_isDigit 2 RX7 (some .boolean) y := C
  obtain ⟨hx, hb, hml, hown, hts, hr, hlk, hK, hN⟩ := id C
  generalize s.heap = H at hG ⊢
  generalize ([] : List Loc) = locs at hG ⊢
  unfold w_X7_isDigit at hw
  refine lv_aload_n hx hb dX7_isDigit_0 rfl (lv_at hl 0 rfl) ?_
  refine lv_iload_n hx hb dX7_isDigit_1 rfl (lv_at hl 1 rfl) ?_
  refine r_ki (r_run_V (k := 4) (As := [.int x1]) (rest := []) hx hb hml hown hts hK hN hG (c_X7_sign l y x1 st _ hw) (by decide) rfl rfl rfl qM_X7_41 qI_X7_sign qS_X7_sign qN_X7 qC_X7_sign hd_X7_sign ⟨Nat.le_of_ble_eq_true rfl, Nat.le_of_ble_eq_true rfl⟩ hl.1 rfl (Nat.le_of_ble_eq_true rfl) dX7_isDigit_2) hG (fun r2 st2 H locs hw hG => ?_)
  refine lv_bipush (v := 48) hx hb dX7_isDigit_5 (by decide) ?_
  refine lv_icmp_lt (tgt := 24) hx hb dX7_isDigit_7 (by decide) (fun hc => ?_) (fun hc => ?_)
  · replace hw := hw.1 hc
    refine lv_iconst (v := 0) hx hb dX7_isDigit_24 (by decide) ?_
    exact r_iret hx hb hr hlk hK hG rfl hw dX7_isDigit_25
  · replace hw := hw.2 hc
    refine lv_aload_n hx hb dX7_isDigit_10 rfl (lv_at hl 0 rfl) ?_
    refine lv_iload_n hx hb dX7_isDigit_11 rfl (lv_at hl 1 rfl) ?_
    refine r_ki (r_run_V (k := 4) (As := [.int x1]) (rest := []) hx hb hml hown hts hK hN hG (c_X7_sign l y x1 st2 _ hw) (by decide) rfl rfl rfl qM_X7_41 qI_X7_sign qS_X7_sign qN_X7 qC_X7_sign hd_X7_sign ⟨Nat.le_of_ble_eq_true rfl, Nat.le_of_ble_eq_true rfl⟩ hl.1 rfl (Nat.le_of_ble_eq_true rfl) dX7_isDigit_12) hG (fun r12 st12 H locs hw hG => ?_)
    refine lv_bipush (v := 57) hx hb dX7_isDigit_15 (by decide) ?_
    refine lv_icmp_gt (tgt := 24) hx hb dX7_isDigit_17 (by decide) (fun hc => ?_) (fun hc => ?_)
    · replace hw := hw.1 hc
      refine lv_iconst (v := 0) hx hb dX7_isDigit_24 (by decide) ?_
      exact r_iret hx hb hr hlk hK hG rfl hw dX7_isDigit_25
    · replace hw := hw.2 hc
      refine lv_iconst (v := 1) hx hb dX7_isDigit_20 (by decide) ?_
      refine lv_goto (tgt := 25) hx hb dX7_isDigit_21 (by decide) ?_
      exact r_iret hx hb hr hlk hK hG rfl hw dX7_isDigit_25
set_option maxRecDepth 100000 in
set_option maxHeartbeats 4000000 in
theorem z_X7_brokenPlace_b79 {p : Program} {e : Env} {s : State} {m : MethodId} {args : Array Value} {below : List Frame} {meth : Method} {c : Code} (l : Launch) (y : Sy)  (C : Sd p s m args meth c cX7_brokenPlace 6 RX7 (some .int) y) (c13 : Int32 → Int32 → St → Prop) (K : Int32 → St → Prop) (hc13 : ∀ (v1 : Int32) (v2 : Int32) (st : St) (H : Heap) (locs : List Loc) (ls : Array Slot), gH 107 enX y st s H locs → lv_has ls 6 [(0, .ref (ad y 4)), (1, .int v1), (2, .int v2)] → c13 v1 v2 st → W p l e (rmm 3 63) s m args below meth c H locs 0 0 (MQ below (va_Qi K (gB 107 enX y) (gA 107 y)) args s 0 0 (gA 107 y)) (F0 m 13 ls [])) (v2 : Int32) (v4 : Int32) (st : St) {H : Heap} {locs : List Loc} {ls : Array Slot} (hG : gH 107 enX y st s H locs) (hl : lv_has ls 6 [(0, .ref (ad y 4)), (2, .int v2), (4, .int v4)]) (hw : w_X7_brokenPlace_b79  c13 K v2 v4 st) : W p l e (rmm 3 63) s m args below meth c H locs 0 0 (MQ below (va_Qi K (gB 107 enX y) (gA 107 y)) args s 0 0 (gA 107 y)) (F0 m 79 ls []) := by
  obtain ⟨hx, hb, hml, hown, hts, hr, hlk, hK, hN⟩ := id C
  unfold w_X7_brokenPlace_b79 at hw
  refine lv_aload_n hx hb dX7_brokenPlace_79 rfl (lv_at hl 0 rfl) ?_
  refine lv_iload hx hb dX7_brokenPlace_80 (lv_at hl 2 rfl) ?_
  refine r_ki (r_run_V (k := 4) (As := [.int v4]) (rest := []) hx hb hml hown hts hK hN hG (c_X7_sign l y v4 st _ hw) (by decide) rfl rfl rfl qM_X7_41 qI_X7_sign qS_X7_sign qN_X7 qC_X7_sign hd_X7_sign ⟨Nat.le_of_ble_eq_true rfl, Nat.le_of_ble_eq_true rfl⟩ hl.1 rfl (Nat.le_of_ble_eq_true rfl) dX7_brokenPlace_82) hG (fun r82 st82 H locs hw hG => ?_)
  refine lv_bipush (v := 59) hx hb dX7_brokenPlace_85 (by decide) ?_
  refine lv_icmp_eq (tgt := 93) hx hb dX7_brokenPlace_87 (by decide) (fun hc => ?_) (fun hc => ?_)
  · replace hw := hw.1 hc
    refine lv_iload hx hb dX7_brokenPlace_93 (lv_at hl 2 rfl) ?_
    refine lv_iconst (v := 1) hx hb dX7_brokenPlace_95 (by decide) ?_
    refine lv_iadd hx hb dX7_brokenPlace_96 ?_
    refine lv_istore_n (lv' := [(1, .int (v4 + 1)), (0, .ref (ad y 4)), (2, .int v2), (4, .int v4)]) hx hb dX7_brokenPlace_97 rfl hl (Nat.le_of_ble_eq_true rfl) rfl (fun ls hl => ?_)
    refine lv_iinc (v := (v2 + 1)) (lv' := [(2, .int (v2 + 1)), (1, .int (v4 + 1)), (0, .ref (ad y 4)), (4, .int v4)]) hx hb dX7_brokenPlace_98 hl (k := 2) rfl rfl (Nat.le_of_ble_eq_true rfl) rfl (fun ls hl => ?_)
    refine lv_goto (tgt := 13) hx hb dX7_brokenPlace_101 (by decide) ?_
    exact hc13 (v4 + 1) (v2 + 1) st82 H locs _ hG (lv_sub hl [2, 1, 0] rfl) hw
  · replace hw := hw.2 hc
    refine lv_iload hx hb dX7_brokenPlace_90 (lv_at hl 2 rfl) ?_
    exact r_iret hx hb hr hlk hK hG rfl hw dX7_brokenPlace_92
set_option maxRecDepth 100000 in
set_option maxHeartbeats 4000000 in
theorem z_X7_brokenPlace_L54 {p : Program} {e : Env} {s : State} {m : MethodId} {args : Array Value} {below : List Frame} {meth : Method} {c : Code} (l : Launch) (y : Sy)  (C : Sd p s m args meth c cX7_brokenPlace 6 RX7 (some .int) y) (c13 : Int32 → Int32 → St → Prop) (K : Int32 → St → Prop) (hc13 : ∀ (v1 : Int32) (v2 : Int32) (st : St) (H : Heap) (locs : List Loc) (ls : Array Slot), gH 107 enX y st s H locs → lv_has ls 6 [(0, .ref (ad y 4)), (1, .int v1), (2, .int v2)] → c13 v1 v2 st → W p l e (rmm 3 63) s m args below meth c H locs 0 0 (MQ below (va_Qi K (gB 107 enX y) (gA 107 y)) args s 0 0 (gA 107 y)) (F0 m 13 ls [])) : ∀ (n : Nat) (v2 : Int32) (v4 : Int32) (v5 : Int32) (st : St) (H : Heap) (locs : List Loc) (ls : Array Slot), gH 107 enX y st s H locs → lv_has ls 6 [(0, .ref (ad y 4)), (2, .int v2), (4, .int v4), (5, .int v5)] → w_X7_brokenPlace_L54  c13 K n v2 v4 v5 st → W p l e (rmm 3 63) s m args below meth c H locs 0 0 (MQ below (va_Qi K (gB 107 enX y) (gA 107 y)) args s 0 0 (gA 107 y)) (F0 m 54 ls []) := by
  obtain ⟨hx, hb, hml, hown, hts, hr, hlk, hK, hN⟩ := id C
  intro n
  induction n with
  | zero => intro v2 v4 v5 st H locs ls hG hl hw; exact False.elim hw
  | succ n hc54 =>
    intro v2 v4 v5 st H locs ls hG hl hw
    have hw : w_X7_brokenPlace_L54q  c13 K (fun v2 v4 v5 st => w_X7_brokenPlace_L54  c13 K n v2 v4 v5 st) v2 v4 v5 st := hw
    unfold w_X7_brokenPlace_L54q at hw
    refine lv_iload hx hb dX7_brokenPlace_54 (lv_at hl 3 rfl) ?_
    refine lv_iload hx hb dX7_brokenPlace_56 (lv_at hl 2 rfl) ?_
    refine lv_icmp_ge (tgt := 79) hx hb dX7_brokenPlace_58 (by decide) (fun hc => ?_) (fun hc => ?_)
    · replace hw := hw.1 hc
      exact z_X7_brokenPlace_b79 l y  C c13 K hc13 v2 v4 st hG (lv_sub hl [0, 1, 2] rfl) hw
    · replace hw := hw.2 hc
      refine lv_aload_n hx hb dX7_brokenPlace_61 rfl (lv_at hl 0 rfl) ?_
      refine lv_iload hx hb dX7_brokenPlace_62 (lv_at hl 3 rfl) ?_
      refine r_ki (r_run_V (k := 4) (As := [.int v5]) (rest := []) hx hb hml hown hts hK hN hG (c_X7_isDigit l y v5 st _ hw) (by decide) rfl rfl rfl qM_X7_48 qI_X7_isDigit qS_X7_isDigit qN_X7 qC_X7_isDigit hd_X7_isDigit ⟨Nat.le_of_ble_eq_true rfl, Nat.le_of_ble_eq_true rfl⟩ hl.1 rfl (Nat.le_of_ble_eq_true rfl) dX7_brokenPlace_64) hG (fun r64 st64 H locs hw hG => ?_)
      refine lv_if_ne (tgt := 73) hx hb dX7_brokenPlace_67 (by decide) (fun hc => ?_) (fun hc => ?_)
      · replace hw := hw.1 hc
        refine lv_iinc (v := (v5 + 1)) (lv' := [(5, .int (v5 + 1)), (0, .ref (ad y 4)), (2, .int v2), (4, .int v4)]) hx hb dX7_brokenPlace_73 hl (k := 3) rfl rfl (Nat.le_of_ble_eq_true rfl) rfl (fun ls hl => ?_)
        refine lv_goto (tgt := 54) hx hb dX7_brokenPlace_76 (by decide) ?_
        exact hc54 v2 v4 (v5 + 1) st64 H locs _ hG (lv_sub hl [1, 2, 3, 0] rfl) hw
      · replace hw := hw.2 hc
        refine lv_iload hx hb dX7_brokenPlace_70 (lv_at hl 3 rfl) ?_
        exact r_iret hx hb hr hlk hK hG rfl hw dX7_brokenPlace_72
set_option maxRecDepth 100000 in
set_option maxHeartbeats 4000000 in
theorem z_X7_brokenPlace_L13 {p : Program} {e : Env} {s : State} {m : MethodId} {args : Array Value} {below : List Frame} {meth : Method} {c : Code} (l : Launch) (y : Sy)  (C : Sd p s m args meth c cX7_brokenPlace 6 RX7 (some .int) y)  (K : Int32 → St → Prop)  : ∀ (n : Nat) (v1 : Int32) (v2 : Int32) (st : St) (H : Heap) (locs : List Loc) (ls : Array Slot), gH 107 enX y st s H locs → lv_has ls 6 [(0, .ref (ad y 4)), (1, .int v1), (2, .int v2)] → w_X7_brokenPlace_L13   K n v1 v2 st → W p l e (rmm 3 63) s m args below meth c H locs 0 0 (MQ below (va_Qi K (gB 107 enX y) (gA 107 y)) args s 0 0 (gA 107 y)) (F0 m 13 ls []) := by
  obtain ⟨hx, hb, hml, hown, hts, hr, hlk, hK, hN⟩ := id C
  intro n
  induction n with
  | zero => intro v1 v2 st H locs ls hG hl hw; exact False.elim hw
  | succ n hc13 =>
    intro v1 v2 st H locs ls hG hl hw
    have hw : w_X7_brokenPlace_L13q   K (fun v1 v2 st => w_X7_brokenPlace_L13   K n v1 v2 st) v1 v2 st := hw
    unfold w_X7_brokenPlace_L13q at hw
    refine lv_iload_n hx hb dX7_brokenPlace_13 rfl (lv_at hl 2 rfl) ?_
    refine lv_bipush (v := 96) hx hb dX7_brokenPlace_14 (by decide) ?_
    refine lv_icmp_ge (tgt := 104) hx hb dX7_brokenPlace_16 (by decide) (fun hc => ?_) (fun hc => ?_)
    · replace hw := hw.1 hc
      refine lv_iconst (v := (-1)) hx hb dX7_brokenPlace_104 (by decide) ?_
      exact r_iret hx hb hr hlk hK hG rfl hw dX7_brokenPlace_105
    · replace hw := hw.2 hc
      refine lv_iload_n hx hb dX7_brokenPlace_19 rfl (lv_at hl 1 rfl) ?_
      refine lv_aload_n hx hb dX7_brokenPlace_20 rfl (lv_at hl 0 rfl) ?_
      refine r_get (C := RX7) (T := TX7) (Nf := 2) hx hb hts hown hK hG (by decide) rfl rfl inX7 1 (by decide) qF_X7_15 rfl dX7_brokenPlace_21 ?_
      refine lv_icmp_ge (tgt := 104) hx hb dX7_brokenPlace_24 (by decide) (fun hc => ?_) (fun hc => ?_)
      · replace hw := hw.1 hc
        refine lv_iconst (v := (-1)) hx hb dX7_brokenPlace_104 (by decide) ?_
        exact r_iret hx hb hr hlk hK hG rfl hw dX7_brokenPlace_105
      · replace hw := hw.2 hc
        refine lv_aload_n hx hb dX7_brokenPlace_27 rfl (lv_at hl 0 rfl) ?_
        refine lv_iload_n hx hb dX7_brokenPlace_28 rfl (lv_at hl 1 rfl) ?_
        refine r_ki (r_run_V (k := 4) (As := [.int v1]) (rest := []) hx hb hml hown hts hK hN hG (c_X7_sign l y v1 st _ hw) (by decide) rfl rfl rfl qM_X7_41 qI_X7_sign qS_X7_sign qN_X7 qC_X7_sign hd_X7_sign ⟨Nat.le_of_ble_eq_true rfl, Nat.le_of_ble_eq_true rfl⟩ hl.1 rfl (Nat.le_of_ble_eq_true rfl) dX7_brokenPlace_29) hG (fun r29 st29 H locs hw hG => ?_)
        refine r_ki (r_run_S (As := [.int r29]) (rest := []) hx hb hml hown hts hK hN hG (c_X7_digitsBehind l y r29 st29 _ hw) qM_X7_45 qT_X7_digitsBehind qN_X7 qC_X7_digitsBehind hd_X7_digitsBehind ⟨Nat.le_of_ble_eq_true rfl, Nat.le_of_ble_eq_true rfl⟩ hl.1 rfl (Nat.le_of_ble_eq_true rfl) dX7_brokenPlace_32) hG (fun r32 st32 H locs hw hG => ?_)
        refine lv_istore_n (lv' := [(3, .int r32), (0, .ref (ad y 4)), (1, .int v1), (2, .int v2)]) hx hb dX7_brokenPlace_35 rfl hl (Nat.le_of_ble_eq_true rfl) rfl (fun ls hl => ?_)
        refine lv_iload_n hx hb dX7_brokenPlace_36 rfl (lv_at hl 0 rfl) ?_
        refine lv_if_ne (tgt := 42) hx hb dX7_brokenPlace_37 (by decide) (fun hc => ?_) (fun hc => ?_)
        · replace hw := hw.1 hc
          refine lv_iload_n hx hb dX7_brokenPlace_42 rfl (lv_at hl 2 rfl) ?_
          refine lv_iload_n hx hb dX7_brokenPlace_43 rfl (lv_at hl 0 rfl) ?_
          refine lv_iadd hx hb dX7_brokenPlace_44 ?_
          refine lv_iconst (v := 1) hx hb dX7_brokenPlace_45 (by decide) ?_
          refine lv_iadd hx hb dX7_brokenPlace_46 ?_
          refine lv_istore (lv' := [(4, .int ((v1 + r32) + 1)), (3, .int r32), (0, .ref (ad y 4)), (1, .int v1), (2, .int v2)]) hx hb dX7_brokenPlace_47 hl (Nat.le_of_ble_eq_true rfl) rfl (fun ls hl => ?_)
          refine lv_iload_n hx hb dX7_brokenPlace_49 rfl (lv_at hl 3 rfl) ?_
          refine lv_iconst (v := 1) hx hb dX7_brokenPlace_50 (by decide) ?_
          refine lv_iadd hx hb dX7_brokenPlace_51 ?_
          refine lv_istore (lv' := [(5, .int (v1 + 1)), (4, .int ((v1 + r32) + 1)), (3, .int r32), (0, .ref (ad y 4)), (1, .int v1), (2, .int v2)]) hx hb dX7_brokenPlace_52 hl (Nat.le_of_ble_eq_true rfl) rfl (fun ls hl => ?_)
          obtain ⟨n54, hw⟩ := hw
          exact z_X7_brokenPlace_L54 l y  C (fun v1 v2 st => w_X7_brokenPlace_L13   K n v1 v2 st) K hc13 n54 v2 ((v1 + r32) + 1) (v1 + 1) st32 H locs _ hG (lv_sub hl [3, 5, 1, 0] rfl) hw
        · replace hw := hw.2 hc
          refine lv_iload_n hx hb dX7_brokenPlace_40 rfl (lv_at hl 2 rfl) ?_
          exact r_iret hx hb hr hlk hK hG rfl hw dX7_brokenPlace_41
theorem hd_X7_brokenPlace : yX7_brokenPlace.cls ≠ "java/lang/invoke/MethodHandle" ∧ yX7_brokenPlace.cls ≠ "java/lang/invoke/VarHandle" ∧ (parseMethodDescriptor yX7_brokenPlace.desc).map (fun d => d.parameters.length) = some 0 := by decide +kernel
set_option maxRecDepth 100000 in
set_option maxHeartbeats 4000000 in
theorem c_X7_brokenPlace (l : Launch) (y : Sy)  (st : St) (K : Int32 → St → Prop) (hw : w_X7_brokenPlace  st K) : Ci 107 enX l yX7_brokenPlace cX7_brokenPlace 6 (some .int) 3 63 y [.ref (ad y 4)] st K := by
  refine ent (by decide) (Nat.le_of_ble_eq_true rfl) ?_
  intro p e s m below meth c C hG ls hl
  have hl : lv_has ls 6 [(0, .ref (ad y 4))] := hl
  generalize ([.ref (ad y 4)] : List Value).toArray = args at C ⊢
  have C : Sd p s m args meth c cX7_brokenPlace 6 RX7 (some .int) y := C
  obtain ⟨hx, hb, hml, hown, hts, hr, hlk, hK, hN⟩ := id C
  generalize s.heap = H at hG ⊢
  generalize ([] : List Loc) = locs at hG ⊢
  unfold w_X7_brokenPlace at hw
  refine lv_aload_n hx hb dX7_brokenPlace_0 rfl (lv_at hl 0 rfl) ?_
  refine r_get (C := RX7) (T := TX7) (Nf := 2) hx hb hts hown hK hG (by decide) rfl rfl inX7 1 (by decide) qF_X7_15 rfl dX7_brokenPlace_1 ?_
  refine lv_if_ne (tgt := 9) hx hb dX7_brokenPlace_4 (by decide) (fun hc => ?_) (fun hc => ?_)
  · replace hw := hw.1 hc
    refine lv_iconst (v := 0) hx hb dX7_brokenPlace_9 (by decide) ?_
    refine lv_istore_n (lv' := [(1, .int 0), (0, .ref (ad y 4))]) hx hb dX7_brokenPlace_10 rfl hl (Nat.le_of_ble_eq_true rfl) rfl (fun ls hl => ?_)
    refine lv_iconst (v := 0) hx hb dX7_brokenPlace_11 (by decide) ?_
    refine lv_istore_n (lv' := [(2, .int 0), (1, .int 0), (0, .ref (ad y 4))]) hx hb dX7_brokenPlace_12 rfl hl (Nat.le_of_ble_eq_true rfl) rfl (fun ls hl => ?_)
    obtain ⟨n13, hw⟩ := hw
    exact z_X7_brokenPlace_L13 l y  C  K  n13 0 0 st H locs _ hG (lv_sub hl [2, 1, 0] rfl) hw
  · replace hw := hw.2 hc
    refine lv_iconst (v := 0) hx hb dX7_brokenPlace_7 (by decide) ?_
    exact r_iret hx hb hr hlk hK hG rfl hw dX7_brokenPlace_8
theorem hd_X7_digit : yX7_digit.cls ≠ "java/lang/invoke/MethodHandle" ∧ yX7_digit.cls ≠ "java/lang/invoke/VarHandle" ∧ (parseMethodDescriptor yX7_digit.desc).map (fun d => d.parameters.length) = some 1 := by decide +kernel
set_option maxRecDepth 100000 in
set_option maxHeartbeats 4000000 in
theorem c_X7_digit (l : Launch) (y : Sy) (x1 : Int32) (st : St) (K : Int32 → St → Prop) (hw : w_X7_digit x1 st K) : Ci 107 enX l yX7_digit cX7_digit 2 (some .int) 2 42 y [.ref (ad y 4), .int x1] st K := by
  refine ent (by decide) (Nat.le_of_ble_eq_true rfl) ?_
  intro p e s m below meth c C hG ls hl
  have hl : lv_has ls 2 [(0, .ref (ad y 4)), (1, .int x1)] := hl
  generalize ([.ref (ad y 4), .int x1] : List Value).toArray = args at C ⊢
  have C : Sd p s m args meth c cX7_digit 2 RX7 (some .int) y := C
  obtain ⟨hx, hb, hml, hown, hts, hr, hlk, hK, hN⟩ := id C
  generalize s.heap = H at hG ⊢
  generalize ([] : List Loc) = locs at hG ⊢
  unfold w_X7_digit at hw
  refine lv_aload_n hx hb dX7_digit_0 rfl (lv_at hl 0 rfl) ?_
  refine lv_iload_n hx hb dX7_digit_1 rfl (lv_at hl 1 rfl) ?_
  refine r_ki (r_run_V (k := 4) (As := [.int x1]) (rest := []) hx hb hml hown hts hK hN hG (c_X7_sign l y x1 st _ hw) (by decide) rfl rfl rfl qM_X7_41 qI_X7_sign qS_X7_sign qN_X7 qC_X7_sign hd_X7_sign ⟨Nat.le_of_ble_eq_true rfl, Nat.le_of_ble_eq_true rfl⟩ hl.1 rfl (Nat.le_of_ble_eq_true rfl) dX7_digit_2) hG (fun r2 st2 H locs hw hG => ?_)
  refine lv_bipush (v := 48) hx hb dX7_digit_5 (by decide) ?_
  refine lv_isub hx hb dX7_digit_7 ?_
  exact r_iret hx hb hr hlk hK hG rfl hw dX7_digit_8
theorem hd_X7_twoDigits : yX7_twoDigits.cls ≠ "java/lang/invoke/MethodHandle" ∧ yX7_twoDigits.cls ≠ "java/lang/invoke/VarHandle" ∧ (parseMethodDescriptor yX7_twoDigits.desc).map (fun d => d.parameters.length) = some 1 := by decide +kernel
set_option maxRecDepth 100000 in
set_option maxHeartbeats 4000000 in
theorem c_X7_twoDigits (l : Launch) (y : Sy) (x1 : Int32) (st : St) (K : Int32 → St → Prop) (hw : w_X7_twoDigits x1 st K) : Ci 107 enX l yX7_twoDigits cX7_twoDigits 2 (some .int) 3 63 y [.ref (ad y 4), .int x1] st K := by
  refine ent (by decide) (Nat.le_of_ble_eq_true rfl) ?_
  intro p e s m below meth c C hG ls hl
  have hl : lv_has ls 2 [(0, .ref (ad y 4)), (1, .int x1)] := hl
  generalize ([.ref (ad y 4), .int x1] : List Value).toArray = args at C ⊢
  have C : Sd p s m args meth c cX7_twoDigits 2 RX7 (some .int) y := C
  obtain ⟨hx, hb, hml, hown, hts, hr, hlk, hK, hN⟩ := id C
  generalize s.heap = H at hG ⊢
  generalize ([] : List Loc) = locs at hG ⊢
  unfold w_X7_twoDigits at hw
  refine lv_bipush (v := 10) hx hb dX7_twoDigits_0 (by decide) ?_
  refine lv_aload_n hx hb dX7_twoDigits_2 rfl (lv_at hl 0 rfl) ?_
  refine lv_iload_n hx hb dX7_twoDigits_3 rfl (lv_at hl 1 rfl) ?_
  refine r_ki (r_run_V (k := 4) (As := [.int x1]) (rest := [.int 10]) hx hb hml hown hts hK hN hG (c_X7_digit l y x1 st _ hw) (by decide) rfl rfl rfl qM_X7_52 qI_X7_digit qS_X7_digit qN_X7 qC_X7_digit hd_X7_digit ⟨Nat.le_of_ble_eq_true rfl, Nat.le_of_ble_eq_true rfl⟩ hl.1 rfl (Nat.le_of_ble_eq_true rfl) dX7_twoDigits_4) hG (fun r4 st4 H locs hw hG => ?_)
  refine lv_imul hx hb dX7_twoDigits_7 ?_
  refine lv_aload_n hx hb dX7_twoDigits_8 rfl (lv_at hl 0 rfl) ?_
  refine lv_iload_n hx hb dX7_twoDigits_9 rfl (lv_at hl 1 rfl) ?_
  refine lv_iconst (v := 1) hx hb dX7_twoDigits_10 (by decide) ?_
  refine lv_iadd hx hb dX7_twoDigits_11 ?_
  refine r_ki (r_run_V (k := 4) (As := [.int (x1 + 1)]) (rest := [.int (10 * r4)]) hx hb hml hown hts hK hN hG (c_X7_digit l y (x1 + 1) st4 _ hw) (by decide) rfl rfl rfl qM_X7_52 qI_X7_digit qS_X7_digit qN_X7 qC_X7_digit hd_X7_digit ⟨Nat.le_of_ble_eq_true rfl, Nat.le_of_ble_eq_true rfl⟩ hl.1 rfl (Nat.le_of_ble_eq_true rfl) dX7_twoDigits_12) hG (fun r12 st12 H locs hw hG => ?_)
  refine lv_iadd hx hb dX7_twoDigits_15 ?_
  exact r_iret hx hb hr hlk hK hG rfl hw dX7_twoDigits_16
theorem hd_X8_isTown : yX8_isTown.cls ≠ "java/lang/invoke/MethodHandle" ∧ yX8_isTown.cls ≠ "java/lang/invoke/VarHandle" ∧ (parseMethodDescriptor yX8_isTown.desc).map (fun d => d.parameters.length) = some 1 := by decide +kernel
set_option maxRecDepth 100000 in
set_option maxHeartbeats 4000000 in
theorem c_X8_isTown (l : Launch) (y : Sy) (x0 : Int32) (st : St) (K : Int32 → St → Prop) (hw : w_X8_isTown x0 st K) : Ci 107 enX l yX8_isTown cX8_isTown 1 (some .boolean) 0 0 y [.int x0] st K := by
  refine ent (by decide) (Nat.le_of_ble_eq_true rfl) ?_
  intro p e s m below meth c C hG ls hl
  have hl : lv_has ls 1 [(0, .int x0)] := hl
  generalize ([.int x0] : List Value).toArray = args at C ⊢
  have C : Sd p s m args meth c cX8_isTown 1 RX8 (some .boolean) y := C
  obtain ⟨hx, hb, hml, hown, hts, hr, hlk, hK, hN⟩ := id C
  generalize s.heap = H at hG ⊢
  generalize ([] : List Loc) = locs at hG ⊢
  unfold w_X8_isTown at hw
  refine lv_iload_n hx hb dX8_isTown_0 rfl (lv_at hl 0 rfl) ?_
  refine lv_if_lt (tgt := 13) hx hb dX8_isTown_1 (by decide) (fun hc => ?_) (fun hc => ?_)
  · replace hw := hw.1 hc
    refine lv_iconst (v := 0) hx hb dX8_isTown_13 (by decide) ?_
    exact r_iret hx hb hr hlk hK hG rfl hw dX8_isTown_14
  · replace hw := hw.2 hc
    refine lv_iload_n hx hb dX8_isTown_4 rfl (lv_at hl 0 rfl) ?_
    refine lv_iconst (v := 4) hx hb dX8_isTown_5 (by decide) ?_
    refine lv_icmp_ge (tgt := 13) hx hb dX8_isTown_6 (by decide) (fun hc => ?_) (fun hc => ?_)
    · replace hw := hw.1 hc
      refine lv_iconst (v := 0) hx hb dX8_isTown_13 (by decide) ?_
      exact r_iret hx hb hr hlk hK hG rfl hw dX8_isTown_14
    · replace hw := hw.2 hc
      refine lv_iconst (v := 1) hx hb dX8_isTown_9 (by decide) ?_
      refine lv_goto (tgt := 14) hx hb dX8_isTown_10 (by decide) ?_
      exact r_iret hx hb hr hlk hK hG rfl hw dX8_isTown_14
theorem hd_X7_isRight : yX7_isRight.cls ≠ "java/lang/invoke/MethodHandle" ∧ yX7_isRight.cls ≠ "java/lang/invoke/VarHandle" ∧ (parseMethodDescriptor yX7_isRight.desc).map (fun d => d.parameters.length) = some 2 := by decide +kernel
set_option maxRecDepth 100000 in
set_option maxHeartbeats 4000000 in
theorem c_X7_isRight (l : Launch) (y : Sy) (x1 : Int32) (k2 : Nat) (h2 : isC k2) (st : St) (K : Int32 → St → Prop) (hw : w_X7_isRight x1 k2 st K) : Ci 107 enX l yX7_isRight cX7_isRight 7 (some .boolean) 4 84 y [.ref (ad y 4), .int x1, .ref (ad y k2)] st K := by
  refine ent (by decide) (Nat.le_of_ble_eq_true rfl) ?_
  intro p e s m below meth c C hG ls hl
  have hl : lv_has ls 7 [(0, .ref (ad y 4)), (1, .int x1), (2, .ref (ad y k2))] := hl
  generalize ([.ref (ad y 4), .int x1, .ref (ad y k2)] : List Value).toArray = args at C ⊢
  have C : Sd p s m args meth c cX7_isRight 7 RX7 (some .boolean) y := C
  obtain ⟨hx, hb, hml, hown, hts, hr, hlk, hK, hN⟩ := id C
  generalize s.heap = H at hG ⊢
  generalize ([] : List Loc) = locs at hG ⊢
  unfold w_X7_isRight at hw
  refine lv_aload_n hx hb dX7_isRight_0 rfl (lv_at hl 0 rfl) ?_
  refine lv_iload_n hx hb dX7_isRight_1 rfl (lv_at hl 1 rfl) ?_
  refine lv_iconst (v := 1) hx hb dX7_isRight_2 (by decide) ?_
  refine lv_iadd hx hb dX7_isRight_3 ?_
  refine r_ki (r_run_V (k := 4) (As := [.int (x1 + 1)]) (rest := []) hx hb hml hown hts hK hN hG (c_X7_digit l y (x1 + 1) st _ hw) (by decide) rfl rfl rfl qM_X7_52 qI_X7_digit qS_X7_digit qN_X7 qC_X7_digit hd_X7_digit ⟨Nat.le_of_ble_eq_true rfl, Nat.le_of_ble_eq_true rfl⟩ hl.1 rfl (Nat.le_of_ble_eq_true rfl) dX7_isRight_4) hG (fun r4 st4 H locs hw hG => ?_)
  refine lv_istore_n (lv' := [(3, .int r4), (0, .ref (ad y 4)), (1, .int x1), (2, .ref (ad y k2))]) hx hb dX7_isRight_7 rfl hl (Nat.le_of_ble_eq_true rfl) rfl (fun ls hl => ?_)
  refine lv_aload_n hx hb dX7_isRight_8 rfl (lv_at hl 1 rfl) ?_
  refine lv_iload_n hx hb dX7_isRight_9 rfl (lv_at hl 2 rfl) ?_
  refine lv_iconst (v := 2) hx hb dX7_isRight_10 (by decide) ?_
  refine lv_iadd hx hb dX7_isRight_11 ?_
  refine r_ki (r_run_V (k := 4) (As := [.int (x1 + 2)]) (rest := []) hx hb hml hown hts hK hN hG (c_X7_digit l y (x1 + 2) st4 _ hw) (by decide) rfl rfl rfl qM_X7_52 qI_X7_digit qS_X7_digit qN_X7 qC_X7_digit hd_X7_digit ⟨Nat.le_of_ble_eq_true rfl, Nat.le_of_ble_eq_true rfl⟩ hl.1 rfl (Nat.le_of_ble_eq_true rfl) dX7_isRight_12) hG (fun r12 st12 H locs hw hG => ?_)
  refine lv_istore (lv' := [(4, .int r12), (3, .int r4), (0, .ref (ad y 4)), (1, .int x1), (2, .ref (ad y k2))]) hx hb dX7_isRight_15 hl (Nat.le_of_ble_eq_true rfl) rfl (fun ls hl => ?_)
  refine lv_aload_n hx hb dX7_isRight_17 rfl (lv_at hl 2 rfl) ?_
  refine lv_iload_n hx hb dX7_isRight_18 rfl (lv_at hl 3 rfl) ?_
  refine lv_iconst (v := 3) hx hb dX7_isRight_19 (by decide) ?_
  refine lv_iadd hx hb dX7_isRight_20 ?_
  refine r_ki (r_run_V (k := 4) (As := [.int (x1 + 3)]) (rest := []) hx hb hml hown hts hK hN hG (c_X7_digit l y (x1 + 3) st12 _ hw) (by decide) rfl rfl rfl qM_X7_52 qI_X7_digit qS_X7_digit qN_X7 qC_X7_digit hd_X7_digit ⟨Nat.le_of_ble_eq_true rfl, Nat.le_of_ble_eq_true rfl⟩ hl.1 rfl (Nat.le_of_ble_eq_true rfl) dX7_isRight_21) hG (fun r21 st21 H locs hw hG => ?_)
  refine lv_istore (lv' := [(5, .int r21), (4, .int r12), (3, .int r4), (0, .ref (ad y 4)), (1, .int x1), (2, .ref (ad y k2))]) hx hb dX7_isRight_24 hl (Nat.le_of_ble_eq_true rfl) rfl (fun ls hl => ?_)
  refine lv_aload_n hx hb dX7_isRight_26 rfl (lv_at hl 3 rfl) ?_
  refine lv_iload_n hx hb dX7_isRight_27 rfl (lv_at hl 4 rfl) ?_
  refine lv_iconst (v := 1) hx hb dX7_isRight_28 (by decide) ?_
  refine lv_iadd hx hb dX7_isRight_29 ?_
  refine r_ki (r_run_V (k := 4) (As := [.int (x1 + 1)]) (rest := []) hx hb hml hown hts hK hN hG (c_X7_twoDigits l y (x1 + 1) st21 _ hw) (by decide) rfl rfl rfl qM_X7_55 qI_X7_twoDigits qS_X7_twoDigits qN_X7 qC_X7_twoDigits hd_X7_twoDigits ⟨Nat.le_of_ble_eq_true rfl, Nat.le_of_ble_eq_true rfl⟩ hl.1 rfl (Nat.le_of_ble_eq_true rfl) dX7_isRight_30) hG (fun r30 st30 H locs hw hG => ?_)
  refine lv_istore (lv' := [(6, .int r30), (5, .int r21), (4, .int r12), (3, .int r4), (0, .ref (ad y 4)), (1, .int x1), (2, .ref (ad y k2))]) hx hb dX7_isRight_33 hl (Nat.le_of_ble_eq_true rfl) rfl (fun ls hl => ?_)
  refine lv_aload_n hx hb dX7_isRight_35 rfl (lv_at hl 4 rfl) ?_
  refine lv_iload_n hx hb dX7_isRight_36 rfl (lv_at hl 5 rfl) ?_
  refine r_ki (r_run_V (k := 4) (As := [.int x1]) (rest := []) hx hb hml hown hts hK hN hG (c_X7_sign l y x1 st30 _ hw) (by decide) rfl rfl rfl qM_X7_41 qI_X7_sign qS_X7_sign qN_X7 qC_X7_sign hd_X7_sign ⟨Nat.le_of_ble_eq_true rfl, Nat.le_of_ble_eq_true rfl⟩ hl.1 rfl (Nat.le_of_ble_eq_true rfl) dX7_isRight_37) hG (fun r37 st37 H locs hw hG => ?_)
  by_cases g103 : r37 = 103
  · replace hw := hw.1 g103
    refine r_tabin (v := 103) (tgt := 164) hx hb dX7_isRight_40 g103 (by decide) (by decide) rfl (by decide) ?_
    refine lv_aload_n hx hb dX7_isRight_164 rfl (lv_at hl 6 rfl) ?_
    refine lv_iload_n hx hb dX7_isRight_165 rfl (lv_at hl 3 rfl) ?_
    refine r_ki (r_run_V (k := k2) (As := [.int r4]) (rest := []) hx hb hml hown hts hK hN hG (c_X1_hasKeeper l y k2 h2 r4 st37 _ hw) (isC.lt h2) (isC.e h2 y _) rfl rfl qM_X7_74 qI_X1_hasKeeper qS_X1_hasKeeper qN_X1 qC_X1_hasKeeper hd_X1_hasKeeper ⟨Nat.le_of_ble_eq_true rfl, Nat.le_of_ble_eq_true rfl⟩ hl.1 rfl (Nat.le_of_ble_eq_true rfl) dX7_isRight_166) hG (fun r166 st166 H locs hw hG => ?_)
    refine lv_if_eq (tgt := 184) hx hb dX7_isRight_169 (by decide) (fun hc => ?_) (fun hc => ?_)
    · replace hw := hw.1 hc
      refine lv_iconst (v := 0) hx hb dX7_isRight_184 (by decide) ?_
      exact r_iret hx hb hr hlk hK hG rfl hw dX7_isRight_185
    · replace hw := hw.2 hc
      refine lv_iload hx hb dX7_isRight_172 (lv_at hl 2 rfl) ?_
      refine r_ki (r_run_N (As := [.int r12]) (rest := []) hx hb hml hown hts hK hN hG (c_X8_isTown l y r12 st166 _ hw) qM_X7_58 qT_X8_isTown qN_X8 qC_X8_isTown hd_X8_isTown ⟨Nat.le_of_ble_eq_true rfl, Nat.le_of_ble_eq_true rfl⟩ hl.1 rfl (Nat.le_of_ble_eq_true rfl) dX7_isRight_174) hG (fun r174 st174 H locs hw hG => ?_)
      refine lv_if_eq (tgt := 184) hx hb dX7_isRight_177 (by decide) (fun hc => ?_) (fun hc => ?_)
      · replace hw := hw.1 hc
        refine lv_iconst (v := 0) hx hb dX7_isRight_184 (by decide) ?_
        exact r_iret hx hb hr hlk hK hG rfl hw dX7_isRight_185
      · replace hw := hw.2 hc
        refine lv_iconst (v := 1) hx hb dX7_isRight_180 (by decide) ?_
        refine lv_goto (tgt := 185) hx hb dX7_isRight_181 (by decide) ?_
        exact r_iret hx hb hr hlk hK hG rfl hw dX7_isRight_185
  replace hw := hw.2 g103
  by_cases g104 : r37 = 104
  · replace hw := hw.1 g104
    refine r_tabin (v := 104) (tgt := 135) hx hb dX7_isRight_40 g104 (by decide) (by decide) rfl (by decide) ?_
    refine lv_aload_n hx hb dX7_isRight_135 rfl (lv_at hl 6 rfl) ?_
    refine lv_iload_n hx hb dX7_isRight_136 rfl (lv_at hl 3 rfl) ?_
    refine lv_iload hx hb dX7_isRight_137 (lv_at hl 2 rfl) ?_
    refine r_ki (r_run_V (k := k2) (As := [.int r4, .int r12]) (rest := []) hx hb hml hown hts hK hN hG (c_X1_areTwo l y k2 h2 r4 r12 st37 _ hw) (isC.lt h2) (isC.e h2 y _) rfl rfl qM_X7_67 qI_X1_areTwo qS_X1_areTwo qN_X1 qC_X1_areTwo hd_X1_areTwo ⟨Nat.le_of_ble_eq_true rfl, Nat.le_of_ble_eq_true rfl⟩ hl.1 rfl (Nat.le_of_ble_eq_true rfl) dX7_isRight_139) hG (fun r139 st139 H locs hw hG => ?_)
    exact r_iret hx hb hr hlk hK hG (r_nb hw.1) hw.2 dX7_isRight_142
  replace hw := hw.2 g104
  by_cases g107 : r37 = 107
  · replace hw := hw.1 g107
    refine r_tabin (v := 107) (tgt := 108) hx hb dX7_isRight_40 g107 (by decide) (by decide) rfl (by decide) ?_
    refine lv_iload_n hx hb dX7_isRight_108 rfl (lv_at hl 3 rfl) ?_
    refine lv_bipush (v := 6) hx hb dX7_isRight_109 (by decide) ?_
    refine lv_icmp_ge (tgt := 133) hx hb dX7_isRight_111 (by decide) (fun hc => ?_) (fun hc => ?_)
    · replace hw := hw.1 hc
      refine lv_iconst (v := 0) hx hb dX7_isRight_133 (by decide) ?_
      exact r_iret hx hb hr hlk hK hG rfl hw dX7_isRight_134
    · replace hw := hw.2 hc
      refine lv_iload hx hb dX7_isRight_114 (lv_at hl 1 rfl) ?_
      refine r_ki (r_run_N (As := [.int r21]) (rest := []) hx hb hml hown hts hK hN hG (c_X8_isTown l y r21 st37 _ hw) qM_X7_58 qT_X8_isTown qN_X8 qC_X8_isTown hd_X8_isTown ⟨Nat.le_of_ble_eq_true rfl, Nat.le_of_ble_eq_true rfl⟩ hl.1 rfl (Nat.le_of_ble_eq_true rfl) dX7_isRight_116) hG (fun r116 st116 H locs hw hG => ?_)
      refine lv_if_eq (tgt := 133) hx hb dX7_isRight_119 (by decide) (fun hc => ?_) (fun hc => ?_)
      · replace hw := hw.1 hc
        refine lv_iconst (v := 0) hx hb dX7_isRight_133 (by decide) ?_
        exact r_iret hx hb hr hlk hK hG rfl hw dX7_isRight_134
      · replace hw := hw.2 hc
        refine lv_aload_n hx hb dX7_isRight_122 rfl (lv_at hl 6 rfl) ?_
        refine r_ki (r_run_V (k := k2) (As := []) (rest := []) hx hb hml hown hts hK hN hG (c_X1_hasKeeperRoom l y k2 h2 st116 _ hw) (isC.lt h2) (isC.e h2 y _) rfl rfl qM_X7_61 qI_X1_hasKeeperRoom qS_X1_hasKeeperRoom qN_X1 qC_X1_hasKeeperRoom hd_X1_hasKeeperRoom ⟨Nat.le_of_ble_eq_true rfl, Nat.le_of_ble_eq_true rfl⟩ hl.1 rfl (Nat.le_of_ble_eq_true rfl) dX7_isRight_123) hG (fun r123 st123 H locs hw hG => ?_)
        refine lv_if_eq (tgt := 133) hx hb dX7_isRight_126 (by decide) (fun hc => ?_) (fun hc => ?_)
        · replace hw := hw.1 hc
          refine lv_iconst (v := 0) hx hb dX7_isRight_133 (by decide) ?_
          exact r_iret hx hb hr hlk hK hG rfl hw dX7_isRight_134
        · replace hw := hw.2 hc
          refine lv_iconst (v := 1) hx hb dX7_isRight_129 (by decide) ?_
          refine lv_goto (tgt := 134) hx hb dX7_isRight_130 (by decide) ?_
          exact r_iret hx hb hr hlk hK hG rfl hw dX7_isRight_134
  replace hw := hw.2 g107
  by_cases g108 : r37 = 108
  · replace hw := hw.1 g108
    refine r_tabin (v := 108) (tgt := 143) hx hb dX7_isRight_40 g108 (by decide) (by decide) rfl (by decide) ?_
    refine lv_iload hx hb dX7_isRight_143 (lv_at hl 1 rfl) ?_
    refine r_ki (r_run_N (As := [.int r21]) (rest := []) hx hb hml hown hts hK hN hG (c_X8_isTown l y r21 st37 _ hw) qM_X7_58 qT_X8_isTown qN_X8 qC_X8_isTown hd_X8_isTown ⟨Nat.le_of_ble_eq_true rfl, Nat.le_of_ble_eq_true rfl⟩ hl.1 rfl (Nat.le_of_ble_eq_true rfl) dX7_isRight_145) hG (fun r145 st145 H locs hw hG => ?_)
    refine lv_if_eq (tgt := 162) hx hb dX7_isRight_148 (by decide) (fun hc => ?_) (fun hc => ?_)
    · replace hw := hw.1 hc
      refine lv_iconst (v := 0) hx hb dX7_isRight_162 (by decide) ?_
      exact r_iret hx hb hr hlk hK hG rfl hw dX7_isRight_163
    · replace hw := hw.2 hc
      refine lv_aload_n hx hb dX7_isRight_151 rfl (lv_at hl 6 rfl) ?_
      refine r_ki (r_run_V (k := k2) (As := []) (rest := []) hx hb hml hown hts hK hN hG (c_X1_hasLetterRoom l y k2 h2 st145 _ hw) (isC.lt h2) (isC.e h2 y _) rfl rfl qM_X7_71 qI_X1_hasLetterRoom qS_X1_hasLetterRoom qN_X1 qC_X1_hasLetterRoom hd_X1_hasLetterRoom ⟨Nat.le_of_ble_eq_true rfl, Nat.le_of_ble_eq_true rfl⟩ hl.1 rfl (Nat.le_of_ble_eq_true rfl) dX7_isRight_152) hG (fun r152 st152 H locs hw hG => ?_)
      refine lv_if_eq (tgt := 162) hx hb dX7_isRight_155 (by decide) (fun hc => ?_) (fun hc => ?_)
      · replace hw := hw.1 hc
        refine lv_iconst (v := 0) hx hb dX7_isRight_162 (by decide) ?_
        exact r_iret hx hb hr hlk hK hG rfl hw dX7_isRight_163
      · replace hw := hw.2 hc
        refine lv_iconst (v := 1) hx hb dX7_isRight_158 (by decide) ?_
        refine lv_goto (tgt := 163) hx hb dX7_isRight_159 (by decide) ?_
        exact r_iret hx hb hr hlk hK hG rfl hw dX7_isRight_163
  replace hw := hw.2 g108
  by_cases g115 : r37 = 115
  · replace hw := hw.1 g115
    refine r_tabin (v := 115) (tgt := 186) hx hb dX7_isRight_40 g115 (by decide) (by decide) rfl (by decide) ?_
    refine lv_aload_n hx hb dX7_isRight_186 rfl (lv_at hl 6 rfl) ?_
    refine lv_iload_n hx hb dX7_isRight_187 rfl (lv_at hl 3 rfl) ?_
    refine r_ki (r_run_V (k := k2) (As := [.int r4]) (rest := []) hx hb hml hown hts hK hN hG (c_X1_hasLetter l y k2 h2 r4 st37 _ hw) (isC.lt h2) (isC.e h2 y _) rfl rfl qM_X7_77 qI_X1_hasLetter qS_X1_hasLetter qN_X1 qC_X1_hasLetter hd_X1_hasLetter ⟨Nat.le_of_ble_eq_true rfl, Nat.le_of_ble_eq_true rfl⟩ hl.1 rfl (Nat.le_of_ble_eq_true rfl) dX7_isRight_188) hG (fun r188 st188 H locs hw hG => ?_)
    exact r_iret hx hb hr hlk hK hG (r_nb hw.1) hw.2 dX7_isRight_191
  replace hw := hw.2 g115
  refine r_tabdef (tgt := 192) hx hb dX7_isRight_40 (by decide) (fun v q1 q2 q3 => ?_) ?_
  · rcases (show v = 103 ∨ v = 104 ∨ v = 105 ∨ v = 106 ∨ v = 107 ∨ v = 108 ∨ v = 109 ∨ v = 110 ∨ v = 111 ∨ v = 112 ∨ v = 113 ∨ v = 114 ∨ v = 115 by omega) with rfl | rfl | rfl | rfl | rfl | rfl | rfl | rfl | rfl | rfl | rfl | rfl | rfl
    · exact absurd (r_toI (v := 103) q3) g103
    · exact absurd (r_toI (v := 104) q3) g104
    · rfl
    · rfl
    · exact absurd (r_toI (v := 107) q3) g107
    · exact absurd (r_toI (v := 108) q3) g108
    · rfl
    · rfl
    · rfl
    · rfl
    · rfl
    · rfl
    · exact absurd (r_toI (v := 115) q3) g115
  refine lv_iload hx hb dX7_isRight_192 (lv_at hl 0 rfl) ?_
  refine lv_iconst (v := 1) hx hb dX7_isRight_194 (by decide) ?_
  refine lv_icmp_lt (tgt := 222) hx hb dX7_isRight_195 (by decide) (fun hc => ?_) (fun hc => ?_)
  · replace hw := hw.1 hc
    refine lv_iconst (v := 0) hx hb dX7_isRight_222 (by decide) ?_
    exact r_iret hx hb hr hlk hK hG rfl hw dX7_isRight_223
  · replace hw := hw.2 hc
    refine lv_iload hx hb dX7_isRight_198 (lv_at hl 0 rfl) ?_
    refine lv_bipush (v := 60) hx hb dX7_isRight_200 (by decide) ?_
    refine lv_icmp_gt (tgt := 222) hx hb dX7_isRight_202 (by decide) (fun hc => ?_) (fun hc => ?_)
    · replace hw := hw.1 hc
      refine lv_iconst (v := 0) hx hb dX7_isRight_222 (by decide) ?_
      exact r_iret hx hb hr hlk hK hG rfl hw dX7_isRight_223
    · replace hw := hw.2 hc
      refine lv_iload hx hb dX7_isRight_205 (lv_at hl 0 rfl) ?_
      refine lv_sipush (v := 999) hx hb dX7_isRight_207 (by decide) ?_
      refine lv_aload_n hx hb dX7_isRight_210 rfl (lv_at hl 6 rfl) ?_
      refine r_ki (r_run_V (k := k2) (As := []) (rest := [.int 999, .int r30]) hx hb hml hown hts hK hN hG (c_X1_weekNow l y k2 h2 st37 _ hw) (isC.lt h2) (isC.e h2 y _) rfl rfl qM_X7_80 qI_X1_weekNow qS_X1_weekNow qN_X1 qC_X1_weekNow hd_X1_weekNow ⟨Nat.le_of_ble_eq_true rfl, Nat.le_of_ble_eq_true rfl⟩ hl.1 rfl (Nat.le_of_ble_eq_true rfl) dX7_isRight_211) hG (fun r211 st211 H locs hw hG => ?_)
      refine lv_isub hx hb dX7_isRight_214 ?_
      refine lv_icmp_gt (tgt := 222) hx hb dX7_isRight_215 (by decide) (fun hc => ?_) (fun hc => ?_)
      · replace hw := hw.1 hc
        refine lv_iconst (v := 0) hx hb dX7_isRight_222 (by decide) ?_
        exact r_iret hx hb hr hlk hK hG rfl hw dX7_isRight_223
      · replace hw := hw.2 hc
        refine lv_iconst (v := 1) hx hb dX7_isRight_218 (by decide) ?_
        refine lv_goto (tgt := 223) hx hb dX7_isRight_219 (by decide) ?_
        exact r_iret hx hb hr hlk hK hG rfl hw dX7_isRight_223
theorem hd_X7_comes : yX7_comes.cls ≠ "java/lang/invoke/MethodHandle" ∧ yX7_comes.cls ≠ "java/lang/invoke/VarHandle" ∧ (parseMethodDescriptor yX7_comes.desc).map (fun d => d.parameters.length) = some 2 := by decide +kernel
set_option maxRecDepth 100000 in
set_option maxHeartbeats 4000000 in
theorem c_X7_comes (l : Launch) (y : Sy) (x1 : Int32) (k2 : Nat) (h2 : isC k2) (st : St) (K : St → Prop) (hw : w_X7_comes x1 k2 st K) : Cv 107 enX l yX7_comes cX7_comes 5 none 5 117 y [.ref (ad y 4), .int x1, .ref (ad y k2)] st K := by
  refine ent (by decide) (Nat.le_of_ble_eq_true rfl) ?_
  intro p e s m below meth c C hG ls hl
  have hl : lv_has ls 5 [(0, .ref (ad y 4)), (1, .int x1), (2, .ref (ad y k2))] := hl
  generalize ([.ref (ad y 4), .int x1, .ref (ad y k2)] : List Value).toArray = args at C ⊢
  have C : Sd p s m args meth c cX7_comes 5 RX7 none y := C
  obtain ⟨hx, hb, hml, hown, hts, hr, hlk, hK, hN⟩ := id C
  generalize s.heap = H at hG ⊢
  generalize ([] : List Loc) = locs at hG ⊢
  unfold w_X7_comes at hw
  refine lv_aload_n hx hb dX7_comes_0 rfl (lv_at hl 0 rfl) ?_
  refine lv_iload_n hx hb dX7_comes_1 rfl (lv_at hl 1 rfl) ?_
  refine lv_iconst (v := 1) hx hb dX7_comes_2 (by decide) ?_
  refine lv_iadd hx hb dX7_comes_3 ?_
  refine r_ki (r_run_V (k := 4) (As := [.int (x1 + 1)]) (rest := []) hx hb hml hown hts hK hN hG (c_X7_digit l y (x1 + 1) st _ hw) (by decide) rfl rfl rfl qM_X7_52 qI_X7_digit qS_X7_digit qN_X7 qC_X7_digit hd_X7_digit ⟨Nat.le_of_ble_eq_true rfl, Nat.le_of_ble_eq_true rfl⟩ hl.1 rfl (Nat.le_of_ble_eq_true rfl) dX7_comes_4) hG (fun r4 st4 H locs hw hG => ?_)
  refine lv_istore_n (lv' := [(3, .int r4), (0, .ref (ad y 4)), (1, .int x1), (2, .ref (ad y k2))]) hx hb dX7_comes_7 rfl hl (Nat.le_of_ble_eq_true rfl) rfl (fun ls hl => ?_)
  refine lv_aload_n hx hb dX7_comes_8 rfl (lv_at hl 1 rfl) ?_
  refine lv_iload_n hx hb dX7_comes_9 rfl (lv_at hl 2 rfl) ?_
  refine lv_iconst (v := 2) hx hb dX7_comes_10 (by decide) ?_
  refine lv_iadd hx hb dX7_comes_11 ?_
  refine r_ki (r_run_V (k := 4) (As := [.int (x1 + 2)]) (rest := []) hx hb hml hown hts hK hN hG (c_X7_digit l y (x1 + 2) st4 _ hw) (by decide) rfl rfl rfl qM_X7_52 qI_X7_digit qS_X7_digit qN_X7 qC_X7_digit hd_X7_digit ⟨Nat.le_of_ble_eq_true rfl, Nat.le_of_ble_eq_true rfl⟩ hl.1 rfl (Nat.le_of_ble_eq_true rfl) dX7_comes_12) hG (fun r12 st12 H locs hw hG => ?_)
  refine lv_istore (lv' := [(4, .int r12), (3, .int r4), (0, .ref (ad y 4)), (1, .int x1), (2, .ref (ad y k2))]) hx hb dX7_comes_15 hl (Nat.le_of_ble_eq_true rfl) rfl (fun ls hl => ?_)
  refine lv_aload_n hx hb dX7_comes_17 rfl (lv_at hl 2 rfl) ?_
  refine lv_iload_n hx hb dX7_comes_18 rfl (lv_at hl 3 rfl) ?_
  refine r_ki (r_run_V (k := 4) (As := [.int x1]) (rest := []) hx hb hml hown hts hK hN hG (c_X7_sign l y x1 st12 _ hw) (by decide) rfl rfl rfl qM_X7_41 qI_X7_sign qS_X7_sign qN_X7 qC_X7_sign hd_X7_sign ⟨Nat.le_of_ble_eq_true rfl, Nat.le_of_ble_eq_true rfl⟩ hl.1 rfl (Nat.le_of_ble_eq_true rfl) dX7_comes_19) hG (fun r19 st19 H locs hw hG => ?_)
  by_cases g103 : r19 = 103
  · replace hw := hw.1 g103
    refine r_tabin (v := 103) (tgt := 145) hx hb dX7_comes_22 g103 (by decide) (by decide) rfl (by decide) ?_
    refine lv_aload_n hx hb dX7_comes_145 rfl (lv_at hl 4 rfl) ?_
    refine lv_iload_n hx hb dX7_comes_146 rfl (lv_at hl 1 rfl) ?_
    refine lv_iload hx hb dX7_comes_147 (lv_at hl 0 rfl) ?_
    refine r_kv (r_run_V (k := k2) (As := [.int r4, .int r12]) (rest := []) hx hb hml hown hts hK hN hG (c_X1_move l y k2 h2 r4 r12 st19 _ hw) (isC.lt h2) (isC.e h2 y _) rfl rfl qM_X7_94 qI_X1_move qS_X1_move qN_X1 qC_X1_move hd_X1_move ⟨Nat.le_of_ble_eq_true rfl, Nat.le_of_ble_eq_true rfl⟩ hl.1 rfl (Nat.le_of_ble_eq_true rfl) dX7_comes_149) hG (fun st149 H locs hw hG => ?_)
    refine lv_goto (tgt := 175) hx hb dX7_comes_152 (by decide) ?_
    exact r_vret hx hb hr hlk hK hG hw dX7_comes_175
  replace hw := hw.2 g103
  by_cases g104 : r19 = 104
  · replace hw := hw.1 g104
    refine r_tabin (v := 104) (tgt := 106) hx hb dX7_comes_22 g104 (by decide) (by decide) rfl (by decide) ?_
    refine lv_aload_n hx hb dX7_comes_106 rfl (lv_at hl 4 rfl) ?_
    refine lv_iload_n hx hb dX7_comes_107 rfl (lv_at hl 1 rfl) ?_
    refine lv_iload hx hb dX7_comes_108 (lv_at hl 0 rfl) ?_
    refine lv_aload_n hx hb dX7_comes_110 rfl (lv_at hl 2 rfl) ?_
    refine lv_iload_n hx hb dX7_comes_111 rfl (lv_at hl 3 rfl) ?_
    refine lv_iconst (v := 3) hx hb dX7_comes_112 (by decide) ?_
    refine lv_iadd hx hb dX7_comes_113 ?_
    refine r_ki (r_run_V (k := 4) (As := [.int (x1 + 3)]) (rest := [.int r12, .int r4, .ref (ad y k2)]) hx hb hml hown hts hK hN hG (c_X7_twoDigits l y (x1 + 3) st19 _ hw) (by decide) rfl rfl rfl qM_X7_55 qI_X7_twoDigits qS_X7_twoDigits qN_X7 qC_X7_twoDigits hd_X7_twoDigits ⟨Nat.le_of_ble_eq_true rfl, Nat.le_of_ble_eq_true rfl⟩ hl.1 rfl (Nat.le_of_ble_eq_true rfl) dX7_comes_114) hG (fun r114 st114 H locs hw hG => ?_)
    refine r_kv (r_run_V (k := k2) (As := [.int r4, .int r12, .int r114]) (rest := []) hx hb hml hown hts hK hN hG (c_X1_setHate l y k2 h2 r4 r12 r114 st114 _ hw) (isC.lt h2) (isC.e h2 y _) rfl rfl qM_X7_87 qI_X1_setHate qS_X1_setHate qN_X1 qC_X1_setHate hd_X1_setHate ⟨Nat.le_of_ble_eq_true rfl, Nat.le_of_ble_eq_true rfl⟩ hl.1 rfl (Nat.le_of_ble_eq_true rfl) dX7_comes_117) hG (fun st117 H locs hw hG => ?_)
    refine lv_goto (tgt := 175) hx hb dX7_comes_120 (by decide) ?_
    exact r_vret hx hb hr hlk hK hG hw dX7_comes_175
  replace hw := hw.2 g104
  by_cases g107 : r19 = 107
  · replace hw := hw.1 g107
    refine r_tabin (v := 107) (tgt := 88) hx hb dX7_comes_22 g107 (by decide) (by decide) rfl (by decide) ?_
    refine lv_aload_n hx hb dX7_comes_88 rfl (lv_at hl 4 rfl) ?_
    refine lv_iload_n hx hb dX7_comes_89 rfl (lv_at hl 1 rfl) ?_
    refine lv_iload hx hb dX7_comes_90 (lv_at hl 0 rfl) ?_
    refine lv_aload_n hx hb dX7_comes_92 rfl (lv_at hl 2 rfl) ?_
    refine lv_iload_n hx hb dX7_comes_93 rfl (lv_at hl 3 rfl) ?_
    refine lv_iconst (v := 3) hx hb dX7_comes_94 (by decide) ?_
    refine lv_iadd hx hb dX7_comes_95 ?_
    refine r_ki (r_run_V (k := 4) (As := [.int (x1 + 3)]) (rest := [.int r12, .int r4, .ref (ad y k2)]) hx hb hml hown hts hK hN hG (c_X7_digit l y (x1 + 3) st19 _ hw) (by decide) rfl rfl rfl qM_X7_52 qI_X7_digit qS_X7_digit qN_X7 qC_X7_digit hd_X7_digit ⟨Nat.le_of_ble_eq_true rfl, Nat.le_of_ble_eq_true rfl⟩ hl.1 rfl (Nat.le_of_ble_eq_true rfl) dX7_comes_96) hG (fun r96 st96 H locs hw hG => ?_)
    refine r_ki (r_run_V (k := k2) (As := [.int r4, .int r12, .int r96]) (rest := []) hx hb hml hown hts hK hN hG (c_X1_addKeeper l y k2 h2 r4 r12 r96 st96 _ hw) (isC.lt h2) (isC.e h2 y _) rfl rfl qM_X7_83 qI_X1_addKeeper qS_X1_addKeeper qN_X1 qC_X1_addKeeper hd_X1_addKeeper ⟨Nat.le_of_ble_eq_true rfl, Nat.le_of_ble_eq_true rfl⟩ hl.1 rfl (Nat.le_of_ble_eq_true rfl) dX7_comes_99) hG (fun r99 st99 H locs hw hG => ?_)
    refine lv_pop hx hb dX7_comes_102 rfl ?_
    refine lv_goto (tgt := 175) hx hb dX7_comes_103 (by decide) ?_
    exact r_vret hx hb hr hlk hK hG hw dX7_comes_175
  replace hw := hw.2 g107
  by_cases g108 : r19 = 108
  · replace hw := hw.1 g108
    refine r_tabin (v := 108) (tgt := 123) hx hb dX7_comes_22 g108 (by decide) (by decide) rfl (by decide) ?_
    refine lv_aload_n hx hb dX7_comes_123 rfl (lv_at hl 4 rfl) ?_
    refine lv_aload_n hx hb dX7_comes_124 rfl (lv_at hl 2 rfl) ?_
    refine lv_iload_n hx hb dX7_comes_125 rfl (lv_at hl 3 rfl) ?_
    refine lv_iconst (v := 3) hx hb dX7_comes_126 (by decide) ?_
    refine lv_iadd hx hb dX7_comes_127 ?_
    refine r_ki (r_run_V (k := 4) (As := [.int (x1 + 3)]) (rest := [.ref (ad y k2)]) hx hb hml hown hts hK hN hG (c_X7_digit l y (x1 + 3) st19 _ hw) (by decide) rfl rfl rfl qM_X7_52 qI_X7_digit qS_X7_digit qN_X7 qC_X7_digit hd_X7_digit ⟨Nat.le_of_ble_eq_true rfl, Nat.le_of_ble_eq_true rfl⟩ hl.1 rfl (Nat.le_of_ble_eq_true rfl) dX7_comes_128) hG (fun r128 st128 H locs hw hG => ?_)
    refine lv_aload_n hx hb dX7_comes_131 rfl (lv_at hl 2 rfl) ?_
    refine lv_iload_n hx hb dX7_comes_132 rfl (lv_at hl 3 rfl) ?_
    refine lv_iconst (v := 1) hx hb dX7_comes_133 (by decide) ?_
    refine lv_iadd hx hb dX7_comes_134 ?_
    refine r_ki (r_run_V (k := 4) (As := [.int (x1 + 1)]) (rest := [.int r128, .ref (ad y k2)]) hx hb hml hown hts hK hN hG (c_X7_twoDigits l y (x1 + 1) st128 _ hw) (by decide) rfl rfl rfl qM_X7_55 qI_X7_twoDigits qS_X7_twoDigits qN_X7 qC_X7_twoDigits hd_X7_twoDigits ⟨Nat.le_of_ble_eq_true rfl, Nat.le_of_ble_eq_true rfl⟩ hl.1 rfl (Nat.le_of_ble_eq_true rfl) dX7_comes_135) hG (fun r135 st135 H locs hw hG => ?_)
    refine r_ki (r_run_V (k := k2) (As := [.int r128, .int r135]) (rest := []) hx hb hml hown hts hK hN hG (c_X1_addLetter l y k2 h2 r128 r135 st135 _ hw) (isC.lt h2) (isC.e h2 y _) rfl rfl qM_X7_91 qI_X1_addLetter qS_X1_addLetter qN_X1 qC_X1_addLetter hd_X1_addLetter ⟨Nat.le_of_ble_eq_true rfl, Nat.le_of_ble_eq_true rfl⟩ hl.1 rfl (Nat.le_of_ble_eq_true rfl) dX7_comes_138) hG (fun r138 st138 H locs hw hG => ?_)
    refine lv_pop hx hb dX7_comes_141 rfl ?_
    refine lv_goto (tgt := 175) hx hb dX7_comes_142 (by decide) ?_
    exact r_vret hx hb hr hlk hK hG hw dX7_comes_175
  replace hw := hw.2 g108
  by_cases g115 : r19 = 115
  · replace hw := hw.1 g115
    refine r_tabin (v := 115) (tgt := 155) hx hb dX7_comes_22 g115 (by decide) (by decide) rfl (by decide) ?_
    refine lv_aload_n hx hb dX7_comes_155 rfl (lv_at hl 4 rfl) ?_
    refine lv_iload_n hx hb dX7_comes_156 rfl (lv_at hl 1 rfl) ?_
    refine r_kv (r_run_V (k := k2) (As := [.int r4]) (rest := []) hx hb hml hown hts hK hN hG (c_X1_turnSeal l y k2 h2 r4 st19 _ hw) (isC.lt h2) (isC.e h2 y _) rfl rfl qM_X7_98 qI_X1_turnSeal qS_X1_turnSeal qN_X1 qC_X1_turnSeal hd_X1_turnSeal ⟨Nat.le_of_ble_eq_true rfl, Nat.le_of_ble_eq_true rfl⟩ hl.1 rfl (Nat.le_of_ble_eq_true rfl) dX7_comes_157) hG (fun st157 H locs hw hG => ?_)
    refine lv_goto (tgt := 175) hx hb dX7_comes_160 (by decide) ?_
    exact r_vret hx hb hr hlk hK hG hw dX7_comes_175
  replace hw := hw.2 g115
  refine r_tabdef (tgt := 163) hx hb dX7_comes_22 (by decide) (fun v q1 q2 q3 => ?_) ?_
  · rcases (show v = 103 ∨ v = 104 ∨ v = 105 ∨ v = 106 ∨ v = 107 ∨ v = 108 ∨ v = 109 ∨ v = 110 ∨ v = 111 ∨ v = 112 ∨ v = 113 ∨ v = 114 ∨ v = 115 by omega) with rfl | rfl | rfl | rfl | rfl | rfl | rfl | rfl | rfl | rfl | rfl | rfl | rfl
    · exact absurd (r_toI (v := 103) q3) g103
    · exact absurd (r_toI (v := 104) q3) g104
    · rfl
    · rfl
    · exact absurd (r_toI (v := 107) q3) g107
    · exact absurd (r_toI (v := 108) q3) g108
    · rfl
    · rfl
    · rfl
    · rfl
    · rfl
    · rfl
    · exact absurd (r_toI (v := 115) q3) g115
  refine lv_aload_n hx hb dX7_comes_163 rfl (lv_at hl 4 rfl) ?_
  refine lv_aload_n hx hb dX7_comes_164 rfl (lv_at hl 2 rfl) ?_
  refine lv_iload_n hx hb dX7_comes_165 rfl (lv_at hl 3 rfl) ?_
  refine lv_iconst (v := 1) hx hb dX7_comes_166 (by decide) ?_
  refine lv_iadd hx hb dX7_comes_167 ?_
  refine r_ki (r_run_V (k := 4) (As := [.int (x1 + 1)]) (rest := [.ref (ad y k2)]) hx hb hml hown hts hK hN hG (c_X7_twoDigits l y (x1 + 1) st19 _ hw) (by decide) rfl rfl rfl qM_X7_55 qI_X7_twoDigits qS_X7_twoDigits qN_X7 qC_X7_twoDigits hd_X7_twoDigits ⟨Nat.le_of_ble_eq_true rfl, Nat.le_of_ble_eq_true rfl⟩ hl.1 rfl (Nat.le_of_ble_eq_true rfl) dX7_comes_168) hG (fun r168 st168 H locs hw hG => ?_)
  refine r_ki (r_run_V (k := k2) (As := [.int r168]) (rest := []) hx hb hml hown hts hK hN hG (c_X1_passWeeks l y k2 h2 r168 st168 _ hw) (isC.lt h2) (isC.e h2 y _) rfl rfl qM_X7_102 qI_X1_passWeeks qS_X1_passWeeks qN_X1 qC_X1_passWeeks hd_X1_passWeeks ⟨Nat.le_of_ble_eq_true rfl, Nat.le_of_ble_eq_true rfl⟩ hl.1 rfl (Nat.le_of_ble_eq_true rfl) dX7_comes_171) hG (fun r171 st171 H locs hw hG => ?_)
  refine lv_pop hx hb dX7_comes_174 rfl ?_
  exact r_vret hx hb hr hlk hK hG hw dX7_comes_175
set_option maxRecDepth 100000 in
set_option maxHeartbeats 4000000 in
theorem z_X7_tellTo_b54 {p : Program} {e : Env} {s : State} {m : MethodId} {args : Array Value} {below : List Frame} {meth : Method} {c : Code} (l : Launch) (y : Sy) (k1 : Nat) (h1 : isC k1) (C : Sd p s m args meth c cX7_tellTo 6 RX7 (some .int) y)  (K : Int32 → St → Prop)  (v4 : Int32) (st : St) {H : Heap} {locs : List Loc} {ls : Array Slot} (hG : gH 107 enX y st s H locs) (hl : lv_has ls 6 [(4, .int v4)]) (hw : w_X7_tellTo_b54 k1  K v4 st) : W p l e (rmm 6 141) s m args below meth c H locs 0 0 (MQ below (va_Qi K (gB 107 enX y) (gA 107 y)) args s 0 0 (gA 107 y)) (F0 m 54 ls []) := by
  obtain ⟨hx, hb, hml, hown, hts, hr, hlk, hK, hN⟩ := id C
  unfold w_X7_tellTo_b54 at hw
  refine lv_sipush (v := (-2000)) hx hb dX7_tellTo_54 (by decide) ?_
  refine lv_iload hx hb dX7_tellTo_57 (lv_at hl 0 rfl) ?_
  refine lv_isub hx hb dX7_tellTo_59 ?_
  exact r_iret hx hb hr hlk hK hG rfl hw dX7_tellTo_60
set_option maxRecDepth 100000 in
set_option maxHeartbeats 4000000 in
theorem z_X7_tellTo_L24 {p : Program} {e : Env} {s : State} {m : MethodId} {args : Array Value} {below : List Frame} {meth : Method} {c : Code} (l : Launch) (y : Sy) (k1 : Nat) (h1 : isC k1) (C : Sd p s m args meth c cX7_tellTo 6 RX7 (some .int) y)  (K : Int32 → St → Prop)  : ∀ (n : Nat) (v3 : Int32) (v4 : Int32) (v5 : Int32) (st : St) (H : Heap) (locs : List Loc) (ls : Array Slot), gH 107 enX y st s H locs → lv_has ls 6 [(0, .ref (ad y 4)), (1, .ref (ad y k1)), (3, .int v3), (4, .int v4), (5, .int v5)] → w_X7_tellTo_L24 k1  K n v3 v4 v5 st → W p l e (rmm 6 141) s m args below meth c H locs 0 0 (MQ below (va_Qi K (gB 107 enX y) (gA 107 y)) args s 0 0 (gA 107 y)) (F0 m 24 ls []) := by
  obtain ⟨hx, hb, hml, hown, hts, hr, hlk, hK, hN⟩ := id C
  intro n
  induction n with
  | zero => intro v3 v4 v5 st H locs ls hG hl hw; exact False.elim hw
  | succ n hc24 =>
    intro v3 v4 v5 st H locs ls hG hl hw
    have hw : w_X7_tellTo_L24q k1  K (fun v3 v4 v5 st => w_X7_tellTo_L24 k1  K n v3 v4 v5 st) v3 v4 v5 st := hw
    unfold w_X7_tellTo_L24q at hw
    refine lv_iload hx hb dX7_tellTo_24 (lv_at hl 4 rfl) ?_
    refine lv_bipush (v := 96) hx hb dX7_tellTo_26 (by decide) ?_
    refine lv_icmp_ge (tgt := 93) hx hb dX7_tellTo_28 (by decide) (fun hc => ?_) (fun hc => ?_)
    · replace hw := hw.1 hc
      refine lv_iload_n hx hb dX7_tellTo_93 rfl (lv_at hl 2 rfl) ?_
      exact r_iret hx hb hr hlk hK hG rfl hw dX7_tellTo_94
    · replace hw := hw.2 hc
      refine lv_iload hx hb dX7_tellTo_31 (lv_at hl 3 rfl) ?_
      refine lv_aload_n hx hb dX7_tellTo_33 rfl (lv_at hl 0 rfl) ?_
      refine r_get (C := RX7) (T := TX7) (Nf := 2) hx hb hts hown hK hG (by decide) rfl rfl inX7 1 (by decide) qF_X7_15 rfl dX7_tellTo_34 ?_
      refine lv_icmp_ge (tgt := 93) hx hb dX7_tellTo_37 (by decide) (fun hc => ?_) (fun hc => ?_)
      · replace hw := hw.1 hc
        refine lv_iload_n hx hb dX7_tellTo_93 rfl (lv_at hl 2 rfl) ?_
        exact r_iret hx hb hr hlk hK hG rfl hw dX7_tellTo_94
      · replace hw := hw.2 hc
        refine lv_aload_n hx hb dX7_tellTo_40 rfl (lv_at hl 1 rfl) ?_
        refine lv_ifnull hx hb dX7_tellTo_41 ?_
        refine lv_aload_n hx hb dX7_tellTo_44 rfl (lv_at hl 0 rfl) ?_
        refine lv_iload hx hb dX7_tellTo_45 (lv_at hl 3 rfl) ?_
        refine lv_aload_n hx hb dX7_tellTo_47 rfl (lv_at hl 1 rfl) ?_
        refine r_ki (r_run_V (k := 4) (As := [.int v4, .ref (ad y k1)]) (rest := []) hx hb hml hown hts hK hN hG (c_X7_isRight l y v4 k1 h1 st _ hw) (by decide) rfl rfl rfl qM_X7_33 qI_X7_isRight qS_X7_isRight qN_X7 qC_X7_isRight hd_X7_isRight ⟨Nat.le_of_ble_eq_true rfl, Nat.le_of_ble_eq_true rfl⟩ hl.1 rfl (Nat.le_of_ble_eq_true rfl) dX7_tellTo_48) hG (fun r48 st48 H locs hw hG => ?_)
        refine lv_if_ne (tgt := 61) hx hb dX7_tellTo_51 (by decide) (fun hc => ?_) (fun hc => ?_)
        · replace hw := hw.1 hc
          refine lv_aload_n hx hb dX7_tellTo_61 rfl (lv_at hl 0 rfl) ?_
          refine lv_iload hx hb dX7_tellTo_62 (lv_at hl 3 rfl) ?_
          refine lv_aload_n hx hb dX7_tellTo_64 rfl (lv_at hl 1 rfl) ?_
          refine r_kv (r_run_V (k := 4) (As := [.int v4, .ref (ad y k1)]) (rest := []) hx hb hml hown hts hK hN hG (c_X7_comes l y v4 k1 h1 st48 _ hw) (by decide) rfl rfl rfl qM_X7_37 qI_X7_comes qS_X7_comes qN_X7 qC_X7_comes hd_X7_comes ⟨Nat.le_of_ble_eq_true rfl, Nat.le_of_ble_eq_true rfl⟩ hl.1 rfl (Nat.le_of_ble_eq_true rfl) dX7_tellTo_65) hG (fun st65 H locs hw hG => ?_)
          refine lv_iinc (v := (v3 + 1)) (lv' := [(3, .int (v3 + 1)), (0, .ref (ad y 4)), (1, .ref (ad y k1)), (4, .int v4), (5, .int v5)]) hx hb dX7_tellTo_68 hl (k := 2) rfl rfl (Nat.le_of_ble_eq_true rfl) rfl (fun ls hl => ?_)
          refine lv_iload hx hb dX7_tellTo_71 (lv_at hl 3 rfl) ?_
          refine lv_aload_n hx hb dX7_tellTo_73 rfl (lv_at hl 1 rfl) ?_
          refine lv_iload hx hb dX7_tellTo_74 (lv_at hl 3 rfl) ?_
          refine r_ki (r_run_V (k := 4) (As := [.int v4]) (rest := [.int v4]) hx hb hml hown hts hK hN hG (c_X7_sign l y v4 st65 _ hw) (by decide) rfl rfl rfl qM_X7_41 qI_X7_sign qS_X7_sign qN_X7 qC_X7_sign hd_X7_sign ⟨Nat.le_of_ble_eq_true rfl, Nat.le_of_ble_eq_true rfl⟩ hl.1 rfl (Nat.le_of_ble_eq_true rfl) dX7_tellTo_76) hG (fun r76 st76 H locs hw hG => ?_)
          refine r_ki (r_run_S (As := [.int r76]) (rest := [.int v4]) hx hb hml hown hts hK hN hG (c_X7_digitsBehind l y r76 st76 _ hw) qM_X7_45 qT_X7_digitsBehind qN_X7 qC_X7_digitsBehind hd_X7_digitsBehind ⟨Nat.le_of_ble_eq_true rfl, Nat.le_of_ble_eq_true rfl⟩ hl.1 rfl (Nat.le_of_ble_eq_true rfl) dX7_tellTo_79) hG (fun r79 st79 H locs hw hG => ?_)
          refine lv_iconst (v := 2) hx hb dX7_tellTo_82 (by decide) ?_
          refine lv_iadd hx hb dX7_tellTo_83 ?_
          refine lv_iadd hx hb dX7_tellTo_84 ?_
          refine lv_istore (lv' := [(4, .int (v4 + (r79 + 2))), (3, .int (v3 + 1)), (0, .ref (ad y 4)), (1, .ref (ad y k1)), (5, .int v5)]) hx hb dX7_tellTo_85 hl (Nat.le_of_ble_eq_true rfl) rfl (fun ls hl => ?_)
          refine lv_iinc (v := (v5 + 1)) (lv' := [(5, .int (v5 + 1)), (4, .int (v4 + (r79 + 2))), (3, .int (v3 + 1)), (0, .ref (ad y 4)), (1, .ref (ad y k1))]) hx hb dX7_tellTo_87 hl (k := 4) rfl rfl (Nat.le_of_ble_eq_true rfl) rfl (fun ls hl => ?_)
          refine lv_goto (tgt := 24) hx hb dX7_tellTo_90 (by decide) ?_
          exact hc24 (v3 + 1) (v4 + (r79 + 2)) (v5 + 1) st79 H locs _ hG (lv_sub hl [3, 4, 2, 1, 0] rfl) hw
        · replace hw := hw.2 hc
          exact z_X7_tellTo_b54 l y k1 h1 C  K  v4 st48 hG (lv_sub hl [3] rfl) hw
theorem hd_X7_tellTo : yX7_tellTo.cls ≠ "java/lang/invoke/MethodHandle" ∧ yX7_tellTo.cls ≠ "java/lang/invoke/VarHandle" ∧ (parseMethodDescriptor yX7_tellTo.desc).map (fun d => d.parameters.length) = some 1 := by decide +kernel
set_option maxRecDepth 100000 in
set_option maxHeartbeats 4000000 in
theorem c_X7_tellTo (l : Launch) (y : Sy) (k1 : Nat) (h1 : isC k1) (st : St) (K : Int32 → St → Prop) (hw : w_X7_tellTo k1 st K) : Ci 107 enX l yX7_tellTo cX7_tellTo 6 (some .int) 6 141 y [.ref (ad y 4), .ref (ad y k1)] st K := by
  refine ent (by decide) (Nat.le_of_ble_eq_true rfl) ?_
  intro p e s m below meth c C hG ls hl
  have hl : lv_has ls 6 [(0, .ref (ad y 4)), (1, .ref (ad y k1))] := hl
  generalize ([.ref (ad y 4), .ref (ad y k1)] : List Value).toArray = args at C ⊢
  have C : Sd p s m args meth c cX7_tellTo 6 RX7 (some .int) y := C
  obtain ⟨hx, hb, hml, hown, hts, hr, hlk, hK, hN⟩ := id C
  generalize s.heap = H at hG ⊢
  generalize ([] : List Loc) = locs at hG ⊢
  unfold w_X7_tellTo at hw
  refine lv_aload_n hx hb dX7_tellTo_0 rfl (lv_at hl 0 rfl) ?_
  refine r_ki (r_run_V (k := 4) (As := []) (rest := []) hx hb hml hown hts hK hN hG (c_X7_brokenPlace l y  st _ hw) (by decide) rfl rfl rfl qM_X7_29 qI_X7_brokenPlace qS_X7_brokenPlace qN_X7 qC_X7_brokenPlace hd_X7_brokenPlace ⟨Nat.le_of_ble_eq_true rfl, Nat.le_of_ble_eq_true rfl⟩ hl.1 rfl (Nat.le_of_ble_eq_true rfl) dX7_tellTo_1) hG (fun r1 st1 H locs hw hG => ?_)
  refine lv_istore_n (lv' := [(2, .int r1), (0, .ref (ad y 4)), (1, .ref (ad y k1))]) hx hb dX7_tellTo_4 rfl hl (Nat.le_of_ble_eq_true rfl) rfl (fun ls hl => ?_)
  refine lv_iload_n hx hb dX7_tellTo_5 rfl (lv_at hl 0 rfl) ?_
  refine lv_iconst (v := (-1)) hx hb dX7_tellTo_6 (by decide) ?_
  refine lv_icmp_eq (tgt := 16) hx hb dX7_tellTo_7 (by decide) (fun hc => ?_) (fun hc => ?_)
  · replace hw := hw.1 hc
    refine lv_iconst (v := 0) hx hb dX7_tellTo_16 (by decide) ?_
    refine lv_istore_n (lv' := [(3, .int 0), (2, .int r1), (0, .ref (ad y 4)), (1, .ref (ad y k1))]) hx hb dX7_tellTo_17 rfl hl (Nat.le_of_ble_eq_true rfl) rfl (fun ls hl => ?_)
    refine lv_iconst (v := 0) hx hb dX7_tellTo_18 (by decide) ?_
    refine lv_istore (lv' := [(4, .int 0), (3, .int 0), (2, .int r1), (0, .ref (ad y 4)), (1, .ref (ad y k1))]) hx hb dX7_tellTo_19 hl (Nat.le_of_ble_eq_true rfl) rfl (fun ls hl => ?_)
    refine lv_iconst (v := 0) hx hb dX7_tellTo_21 (by decide) ?_
    refine lv_istore (lv' := [(5, .int 0), (4, .int 0), (3, .int 0), (2, .int r1), (0, .ref (ad y 4)), (1, .ref (ad y k1))]) hx hb dX7_tellTo_22 hl (Nat.le_of_ble_eq_true rfl) rfl (fun ls hl => ?_)
    obtain ⟨n24, hw⟩ := hw
    exact z_X7_tellTo_L24 l y k1 h1 C  K  n24 0 0 0 st1 H locs _ hG (lv_sub hl [4, 5, 2, 1, 0] rfl) hw
  · replace hw := hw.2 hc
    refine lv_sipush (v := (-1000)) hx hb dX7_tellTo_10 (by decide) ?_
    refine lv_iload_n hx hb dX7_tellTo_13 rfl (lv_at hl 0 rfl) ?_
    refine lv_isub hx hb dX7_tellTo_14 ?_
    exact r_iret hx hb hr hlk hK hG rfl hw dX7_tellTo_15
theorem hd_X8_range : yX8_range.cls ≠ "java/lang/invoke/MethodHandle" ∧ yX8_range.cls ≠ "java/lang/invoke/VarHandle" ∧ (parseMethodDescriptor yX8_range.desc).map (fun d => d.parameters.length) = some 3 := by decide +kernel
set_option maxRecDepth 100000 in
set_option maxHeartbeats 4000000 in
theorem c_X8_range (l : Launch) (y : Sy) (x0 : Int32) (x1 : Int32) (x2 : Int32) (st : St) (K : Int32 → St → Prop) (hw : w_X8_range x0 x1 x2 st K) : Ci 107 enX l yX8_range cX8_range 3 (some .int) 0 0 y [.int x0, .int x1, .int x2] st K := by
  refine ent (by decide) (Nat.le_of_ble_eq_true rfl) ?_
  intro p e s m below meth c C hG ls hl
  have hl : lv_has ls 3 [(0, .int x0), (1, .int x1), (2, .int x2)] := hl
  generalize ([.int x0, .int x1, .int x2] : List Value).toArray = args at C ⊢
  have C : Sd p s m args meth c cX8_range 3 RX8 (some .int) y := C
  obtain ⟨hx, hb, hml, hown, hts, hr, hlk, hK, hN⟩ := id C
  generalize s.heap = H at hG ⊢
  generalize ([] : List Loc) = locs at hG ⊢
  unfold w_X8_range at hw
  refine lv_iload_n hx hb dX8_range_0 rfl (lv_at hl 0 rfl) ?_
  refine lv_iload_n hx hb dX8_range_1 rfl (lv_at hl 1 rfl) ?_
  refine lv_icmp_ge (tgt := 10) hx hb dX8_range_2 (by decide) (fun hc => ?_) (fun hc => ?_)
  · replace hw := hw.1 hc
    refine lv_iload_n hx hb dX8_range_10 rfl (lv_at hl 0 rfl) ?_
    refine lv_iload_n hx hb dX8_range_11 rfl (lv_at hl 2 rfl) ?_
    refine lv_icmp_le (tgt := 20) hx hb dX8_range_12 (by decide) (fun hc => ?_) (fun hc => ?_)
    · replace hw := hw.1 hc
      refine lv_iconst (v := 0) hx hb dX8_range_20 (by decide) ?_
      exact r_iret hx hb hr hlk hK hG rfl hw dX8_range_21
    · replace hw := hw.2 hc
      refine lv_bipush (v := (-6)) hx hb dX8_range_15 (by decide) ?_
      refine lv_goto (tgt := 21) hx hb dX8_range_17 (by decide) ?_
      exact r_iret hx hb hr hlk hK hG rfl hw dX8_range_21
  · replace hw := hw.2 hc
    refine lv_bipush (v := (-4)) hx hb dX8_range_5 (by decide) ?_
    refine lv_goto (tgt := 21) hx hb dX8_range_7 (by decide) ?_
    exact r_iret hx hb hr hlk hK hG rfl hw dX8_range_21
theorem hd_X8_firstOf : yX8_firstOf.cls ≠ "java/lang/invoke/MethodHandle" ∧ yX8_firstOf.cls ≠ "java/lang/invoke/VarHandle" ∧ (parseMethodDescriptor yX8_firstOf.desc).map (fun d => d.parameters.length) = some 3 := by decide +kernel
set_option maxRecDepth 100000 in
set_option maxHeartbeats 4000000 in
theorem c_X8_firstOf (l : Launch) (y : Sy) (x0 : Int32) (x1 : Int32) (x2 : Int32) (st : St) (K : Int32 → St → Prop) (hw : w_X8_firstOf x0 x1 x2 st K) : Ci 107 enX l yX8_firstOf cX8_firstOf 3 (some .int) 0 0 y [.int x0, .int x1, .int x2] st K := by
  refine ent (by decide) (Nat.le_of_ble_eq_true rfl) ?_
  intro p e s m below meth c C hG ls hl
  have hl : lv_has ls 3 [(0, .int x0), (1, .int x1), (2, .int x2)] := hl
  generalize ([.int x0, .int x1, .int x2] : List Value).toArray = args at C ⊢
  have C : Sd p s m args meth c cX8_firstOf 3 RX8 (some .int) y := C
  obtain ⟨hx, hb, hml, hown, hts, hr, hlk, hK, hN⟩ := id C
  generalize s.heap = H at hG ⊢
  generalize ([] : List Loc) = locs at hG ⊢
  unfold w_X8_firstOf at hw
  refine lv_iload_n hx hb dX8_firstOf_0 rfl (lv_at hl 0 rfl) ?_
  refine lv_if_eq (tgt := 8) hx hb dX8_firstOf_1 (by decide) (fun hc => ?_) (fun hc => ?_)
  · replace hw := hw.1 hc
    refine lv_iload_n hx hb dX8_firstOf_8 rfl (lv_at hl 1 rfl) ?_
    refine lv_if_eq (tgt := 16) hx hb dX8_firstOf_9 (by decide) (fun hc => ?_) (fun hc => ?_)
    · replace hw := hw.1 hc
      refine lv_iload_n hx hb dX8_firstOf_16 rfl (lv_at hl 2 rfl) ?_
      exact r_iret hx hb hr hlk hK hG rfl hw dX8_firstOf_17
    · replace hw := hw.2 hc
      refine lv_iload_n hx hb dX8_firstOf_12 rfl (lv_at hl 1 rfl) ?_
      refine lv_goto (tgt := 17) hx hb dX8_firstOf_13 (by decide) ?_
      exact r_iret hx hb hr hlk hK hG rfl hw dX8_firstOf_17
  · replace hw := hw.2 hc
    refine lv_iload_n hx hb dX8_firstOf_4 rfl (lv_at hl 0 rfl) ?_
    refine lv_goto (tgt := 17) hx hb dX8_firstOf_5 (by decide) ?_
    exact r_iret hx hb hr hlk hK hG rfl hw dX8_firstOf_17
theorem hd_X8_refused : yX8_refused.cls ≠ "java/lang/invoke/MethodHandle" ∧ yX8_refused.cls ≠ "java/lang/invoke/VarHandle" ∧ (parseMethodDescriptor yX8_refused.desc).map (fun d => d.parameters.length) = some 1 := by decide +kernel
set_option maxRecDepth 100000 in
set_option maxHeartbeats 4000000 in
theorem c_X8_refused (l : Launch) (y : Sy) (x1 : Int32) (st : St) (K : Int32 → St → Prop) (hw : w_X8_refused x1 st K) : Ci 107 enX l yX8_refused cX8_refused 2 (some .int) 1 22 y [.ref (ad y 0), .int x1] st K := by
  refine ent (by decide) (Nat.le_of_ble_eq_true rfl) ?_
  intro p e s m below meth c C hG ls hl
  have hl : lv_has ls 2 [(0, .ref (ad y 0)), (1, .int x1)] := hl
  generalize ([.ref (ad y 0), .int x1] : List Value).toArray = args at C ⊢
  have C : Sd p s m args meth c cX8_refused 2 RX8 (some .int) y := C
  obtain ⟨hx, hb, hml, hown, hts, hr, hlk, hK, hN⟩ := id C
  generalize s.heap = H at hG ⊢
  generalize ([] : List Loc) = locs at hG ⊢
  unfold w_X8_refused at hw
  refine lv_aload_n hx hb dX8_refused_0 rfl (lv_at hl 0 rfl) ?_
  refine r_get (C := RX8) (T := TX8) (Nf := 10) hx hb hts hown hK hG (by decide) rfl rfl inX8 9 (by decide) qF_X8_40 rfl dX8_refused_1 ?_
  refine lv_iload_n hx hb dX8_refused_4 rfl (lv_at hl 1 rfl) ?_
  refine lv_ineg hx hb dX8_refused_5 ?_
  refine lv_aload_n hx hb dX8_refused_6 rfl (lv_at hl 0 rfl) ?_
  refine r_get (C := RX8) (T := TX8) (Nf := 10) hx hb hts hown hK hG (by decide) rfl rfl inX8 9 (by decide) qF_X8_40 rfl dX8_refused_7 ?_
  refine lv_iload_n hx hb dX8_refused_10 rfl (lv_at hl 1 rfl) ?_
  refine lv_ineg hx hb dX8_refused_11 ?_
  refine r_ki (r_run_S (As := [.ref (ad y 1), .int (-x1)]) (rest := [.int (-x1), .ref (ad y 1)]) hx hb hml hown hts hK hN hG (c_X8_at l y 1 7 isA_1 (-x1) st _ hw) qM_X8_162 qT_X8_at qN_X8 qC_X8_at hd_X8_at ⟨Nat.le_of_ble_eq_true rfl, Nat.le_of_ble_eq_true rfl⟩ hl.1 rfl (Nat.le_of_ble_eq_true rfl) dX8_refused_12) hG (fun r12 st12 H locs hw hG => ?_)
  refine lv_iconst (v := 1) hx hb dX8_refused_15 (by decide) ?_
  refine lv_iadd hx hb dX8_refused_16 ?_
  refine r_kv (r_run_S (As := [.ref (ad y 1), .int (-x1), .int (r12 + 1)]) (rest := []) hx hb hml hown hts hK hN hG (c_X8_put l y 1 7 isA_1 (-x1) (r12 + 1) st12 _ hw) qM_X8_343 qT_X8_put qN_X8 qC_X8_put hd_X8_put ⟨Nat.le_of_ble_eq_true rfl, Nat.le_of_ble_eq_true rfl⟩ hl.1 rfl (Nat.le_of_ble_eq_true rfl) dX8_refused_17) hG (fun st17 H locs hw hG => ?_)
  refine lv_iload_n hx hb dX8_refused_20 rfl (lv_at hl 1 rfl) ?_
  exact r_iret hx hb hr hlk hK hG rfl hw dX8_refused_21
set_option maxRecDepth 100000 in
set_option maxHeartbeats 4000000 in
theorem z_X8_feed_b24 {p : Program} {e : Env} {s : State} {m : MethodId} {args : Array Value} {below : List Frame} {meth : Method} {c : Code} (l : Launch) (y : Sy) (x1 : Int32) (C : Sd p s m args meth c cX8_feed 3 RX8 (some .int) y)  (K : Int32 → St → Prop)  (s0 : Int32) (s1 : Int32) (st : St) {H : Heap} {locs : List Loc} {ls : Array Slot} (hG : gH 107 enX y st s H locs) (hl : lv_has ls 3 [(0, .ref (ad y 0)), (1, .int x1)]) (hw : w_X8_feed_b24 x1  K s0 s1 st) : W p l e (rmm 2 43) s m args below meth c H locs 0 0 (MQ below (va_Qi K (gB 107 enX y) (gA 107 y)) args s 0 0 (gA 107 y)) (F0 m 24 ls [.int s0, .int s1]) := by
  obtain ⟨hx, hb, hml, hown, hts, hr, hlk, hK, hN⟩ := id C
  unfold w_X8_feed_b24 at hw
  refine lv_iconst (v := 0) hx hb dX8_feed_24 (by decide) ?_
  refine r_ki (r_run_S (As := [.int s1, .int s0, .int 0]) (rest := []) hx hb hml hown hts hK hN hG (c_X8_firstOf l y s1 s0 0 st _ hw) qM_X8_71 qT_X8_firstOf qN_X8 qC_X8_firstOf hd_X8_firstOf ⟨Nat.le_of_ble_eq_true rfl, Nat.le_of_ble_eq_true rfl⟩ hl.1 rfl (Nat.le_of_ble_eq_true rfl) dX8_feed_25) hG (fun r25 st25 H locs hw hG => ?_)
  refine lv_istore_n (lv' := [(2, .int r25), (0, .ref (ad y 0)), (1, .int x1)]) hx hb dX8_feed_28 rfl hl (Nat.le_of_ble_eq_true rfl) rfl (fun ls hl => ?_)
  refine lv_iload_n hx hb dX8_feed_29 rfl (lv_at hl 0 rfl) ?_
  refine lv_if_eq (tgt := 41) hx hb dX8_feed_30 (by decide) (fun hc => ?_) (fun hc => ?_)
  · replace hw := hw.1 hc
    refine lv_aload_n hx hb dX8_feed_41 rfl (lv_at hl 1 rfl) ?_
    refine r_get (C := RX8) (T := TX8) (Nf := 10) hx hb hts hown hK hG (by decide) rfl rfl inX8 5 (by decide) qF_X8_29 rfl dX8_feed_42 ?_
    refine lv_iload_n hx hb dX8_feed_45 rfl (lv_at hl 2 rfl) ?_
    refine r_ki (r_run_V (k := 4) (As := [.int x1]) (rest := []) hx hb hml hown hts hK hN hG (c_X7_add l y x1 st25 _ hw) (by decide) rfl rfl rfl qM_X8_78 qI_X7_add qS_X7_add qN_X7 qC_X7_add hd_X7_add ⟨Nat.le_of_ble_eq_true rfl, Nat.le_of_ble_eq_true rfl⟩ hl.1 rfl (Nat.le_of_ble_eq_true rfl) dX8_feed_46) hG (fun r46 st46 H locs hw hG => ?_)
    exact r_iret hx hb hr hlk hK hG rfl hw dX8_feed_49
  · replace hw := hw.2 hc
    refine lv_aload_n hx hb dX8_feed_33 rfl (lv_at hl 1 rfl) ?_
    refine lv_iload_n hx hb dX8_feed_34 rfl (lv_at hl 0 rfl) ?_
    refine r_ki (r_run_V (k := 0) (As := [.int r25]) (rest := []) hx hb hml hown hts hK hN hG (c_X8_refused l y r25 st25 _ hw) (by decide) rfl rfl rfl qM_X8_74 qI_X8_refused qS_X8_refused qN_X8 qC_X8_refused hd_X8_refused ⟨Nat.le_of_ble_eq_true rfl, Nat.le_of_ble_eq_true rfl⟩ hl.1 rfl (Nat.le_of_ble_eq_true rfl) dX8_feed_35) hG (fun r35 st35 H locs hw hG => ?_)
    refine lv_goto (tgt := 49) hx hb dX8_feed_38 (by decide) ?_
    exact r_iret hx hb hr hlk hK hG rfl hw dX8_feed_49
theorem hd_X8_feed : yX8_feed.cls ≠ "java/lang/invoke/MethodHandle" ∧ yX8_feed.cls ≠ "java/lang/invoke/VarHandle" ∧ (parseMethodDescriptor yX8_feed.desc).map (fun d => d.parameters.length) = some 1 := by decide +kernel
set_option maxRecDepth 100000 in
set_option maxHeartbeats 4000000 in
theorem c_X8_feed (l : Launch) (y : Sy) (x1 : Int32) (st : St) (K : Int32 → St → Prop) (hw : w_X8_feed x1 st K) : Ci 107 enX l yX8_feed cX8_feed 3 (some .int) 2 43 y [.ref (ad y 0), .int x1] st K := by
  refine ent (by decide) (Nat.le_of_ble_eq_true rfl) ?_
  intro p e s m below meth c C hG ls hl
  have hl : lv_has ls 3 [(0, .ref (ad y 0)), (1, .int x1)] := hl
  generalize ([.ref (ad y 0), .int x1] : List Value).toArray = args at C ⊢
  have C : Sd p s m args meth c cX8_feed 3 RX8 (some .int) y := C
  obtain ⟨hx, hb, hml, hown, hts, hr, hlk, hK, hN⟩ := id C
  generalize s.heap = H at hG ⊢
  generalize ([] : List Loc) = locs at hG ⊢
  unfold w_X8_feed at hw
  refine lv_iload_n hx hb dX8_feed_0 rfl (lv_at hl 1 rfl) ?_
  refine lv_iconst (v := 0) hx hb dX8_feed_1 (by decide) ?_
  refine lv_sipush (v := 255) hx hb dX8_feed_2 (by decide) ?_
  refine r_ki (r_run_S (As := [.int x1, .int 0, .int 255]) (rest := []) hx hb hml hown hts hK hN hG (c_X8_range l y x1 0 255 st _ hw) qM_X8_63 qT_X8_range qN_X8 qC_X8_range hd_X8_range ⟨Nat.le_of_ble_eq_true rfl, Nat.le_of_ble_eq_true rfl⟩ hl.1 rfl (Nat.le_of_ble_eq_true rfl) dX8_feed_5) hG (fun r5 st5 H locs hw hG => ?_)
  refine lv_aload_n hx hb dX8_feed_8 rfl (lv_at hl 0 rfl) ?_
  refine r_get (C := RX8) (T := TX8) (Nf := 10) hx hb hts hown hK hG (by decide) rfl rfl inX8 5 (by decide) qF_X8_29 rfl dX8_feed_9 ?_
  refine r_ki (r_run_V (k := 4) (As := []) (rest := [.int r5]) hx hb hml hown hts hK hN hG (c_X7_isFull l y  st5 _ hw) (by decide) rfl rfl rfl qM_X8_67 qI_X7_isFull qS_X7_isFull qN_X7 qC_X7_isFull hd_X7_isFull ⟨Nat.le_of_ble_eq_true rfl, Nat.le_of_ble_eq_true rfl⟩ hl.1 rfl (Nat.le_of_ble_eq_true rfl) dX8_feed_12) hG (fun r12 st12 H locs hw hG => ?_)
  refine lv_if_eq (tgt := 23) hx hb dX8_feed_15 (by decide) (fun hc => ?_) (fun hc => ?_)
  · replace hw := hw.1 hc
    refine lv_iconst (v := 0) hx hb dX8_feed_23 (by decide) ?_
    exact z_X8_feed_b24 l y x1 C  K  0 r5 st12 hG (lv_sub hl [0, 1] rfl) hw
  · replace hw := hw.2 hc
    refine lv_bipush (v := (-6)) hx hb dX8_feed_18 (by decide) ?_
    refine lv_goto (tgt := 24) hx hb dX8_feed_20 (by decide) ?_
    exact z_X8_feed_b24 l y x1 C  K  (-6) r5 st12 hG (lv_sub hl [0, 1] rfl) hw
theorem hd_X8_land : yX8_land.cls ≠ "java/lang/invoke/MethodHandle" ∧ yX8_land.cls ≠ "java/lang/invoke/VarHandle" ∧ (parseMethodDescriptor yX8_land.desc).map (fun d => d.parameters.length) = some 0 := by decide +kernel
set_option maxRecDepth 100000 in
set_option maxHeartbeats 4000000 in
theorem c_X8_land (l : Launch) (y : Sy)  (st : St) (K : Int32 → St → Prop) (hw : w_X8_land  st K) : Ci 107 enX l yX8_land cX8_land 2 (some .int) 7 166 y [.ref (ad y 0)] st K := by
  refine ent (by decide) (Nat.le_of_ble_eq_true rfl) ?_
  intro p e s m below meth c C hG ls hl
  have hl : lv_has ls 2 [(0, .ref (ad y 0))] := hl
  generalize ([.ref (ad y 0)] : List Value).toArray = args at C ⊢
  have C : Sd p s m args meth c cX8_land 2 RX8 (some .int) y := C
  obtain ⟨hx, hb, hml, hown, hts, hr, hlk, hK, hN⟩ := id C
  generalize s.heap = H at hG ⊢
  generalize ([] : List Loc) = locs at hG ⊢
  unfold w_X8_land at hw
  refine lv_aload_n hx hb dX8_land_0 rfl (lv_at hl 0 rfl) ?_
  refine r_get (C := RX8) (T := TX8) (Nf := 10) hx hb hts hown hK hG (by decide) rfl rfl inX8 1 (by decide) qF_X8_10 rfl dX8_land_1 ?_
  refine lv_aload_n hx hb dX8_land_4 rfl (lv_at hl 0 rfl) ?_
  refine r_get (C := RX8) (T := TX8) (Nf := 10) hx hb hts hown hK hG (by decide) rfl rfl inX8 0 (by decide) qF_X8_44 rfl dX8_land_5 ?_
  refine r_kv (r_run_V (k := 19) (As := [.ref (ad y 11)]) (rest := []) hx hb hml hown hts hK hN hG (c_X1_become l y 19 isC_19 11 isC_11 st _ hw) (isC.lt isC_19) (isC.e isC_19 y _) rfl rfl qM_X8_81 qI_X1_become qS_X1_become qN_X1 qC_X1_become hd_X1_become ⟨Nat.le_of_ble_eq_true rfl, Nat.le_of_ble_eq_true rfl⟩ hl.1 rfl (Nat.le_of_ble_eq_true rfl) dX8_land_8) hG (fun st8 H locs hw hG => ?_)
  refine lv_aload_n hx hb dX8_land_11 rfl (lv_at hl 0 rfl) ?_
  refine r_get (C := RX8) (T := TX8) (Nf := 10) hx hb hts hown hK hG (by decide) rfl rfl inX8 5 (by decide) qF_X8_29 rfl dX8_land_12 ?_
  refine lv_aload_n hx hb dX8_land_15 rfl (lv_at hl 0 rfl) ?_
  refine r_get (C := RX8) (T := TX8) (Nf := 10) hx hb hts hown hK hG (by decide) rfl rfl inX8 1 (by decide) qF_X8_10 rfl dX8_land_16 ?_
  refine r_ki (r_run_V (k := 4) (As := [.ref (ad y 19)]) (rest := []) hx hb hml hown hts hK hN hG (c_X7_tellTo l y 19 isC_19 st8 _ hw) (by decide) rfl rfl rfl qM_X8_84 qI_X7_tellTo qS_X7_tellTo qN_X7 qC_X7_tellTo hd_X7_tellTo ⟨Nat.le_of_ble_eq_true rfl, Nat.le_of_ble_eq_true rfl⟩ hl.1 rfl (Nat.le_of_ble_eq_true rfl) dX8_land_19) hG (fun r19 st19 H locs hw hG => ?_)
  refine lv_istore_n (lv' := [(1, .int r19), (0, .ref (ad y 0))]) hx hb dX8_land_22 rfl hl (Nat.le_of_ble_eq_true rfl) rfl (fun ls hl => ?_)
  refine lv_aload_n hx hb dX8_land_23 rfl (lv_at hl 1 rfl) ?_
  refine r_get (C := RX8) (T := TX8) (Nf := 10) hx hb hts hown hK hG (by decide) rfl rfl inX8 5 (by decide) qF_X8_29 rfl dX8_land_24 ?_
  refine r_kv (r_run_V (k := 4) (As := []) (rest := []) hx hb hml hown hts hK hN hG (c_X7_empty l y  st19 _ hw) (by decide) rfl rfl rfl qM_X8_88 qI_X7_empty qS_X7_empty qN_X7 qC_X7_empty hd_X7_empty ⟨Nat.le_of_ble_eq_true rfl, Nat.le_of_ble_eq_true rfl⟩ hl.1 rfl (Nat.le_of_ble_eq_true rfl) dX8_land_27) hG (fun st27 H locs hw hG => ?_)
  refine lv_iload_n hx hb dX8_land_30 rfl (lv_at hl 0 rfl) ?_
  refine lv_if_le (tgt := 52) hx hb dX8_land_31 (by decide) (fun hc => ?_) (fun hc => ?_)
  · replace hw := hw.1 hc
    refine lv_iload_n hx hb dX8_land_52 rfl (lv_at hl 0 rfl) ?_
    exact r_iret hx hb hr hlk hK hG rfl hw dX8_land_53
  · replace hw := hw.2 hc
    refine lv_aload_n hx hb dX8_land_34 rfl (lv_at hl 1 rfl) ?_
    refine r_get (C := RX8) (T := TX8) (Nf := 10) hx hb hts hown hK hG (by decide) rfl rfl inX8 0 (by decide) qF_X8_44 rfl dX8_land_35 ?_
    refine lv_aload_n hx hb dX8_land_38 rfl (lv_at hl 1 rfl) ?_
    refine r_get (C := RX8) (T := TX8) (Nf := 10) hx hb hts hown hK hG (by decide) rfl rfl inX8 1 (by decide) qF_X8_10 rfl dX8_land_39 ?_
    refine r_kv (r_run_V (k := 11) (As := [.ref (ad y 19)]) (rest := []) hx hb hml hown hts hK hN hG (c_X1_become l y 11 isC_11 19 isC_19 st27 _ hw) (isC.lt isC_11) (isC.e isC_11 y _) rfl rfl qM_X8_81 qI_X1_become qS_X1_become qN_X1 qC_X1_become hd_X1_become ⟨Nat.le_of_ble_eq_true rfl, Nat.le_of_ble_eq_true rfl⟩ hl.1 rfl (Nat.le_of_ble_eq_true rfl) dX8_land_42) hG (fun st42 H locs hw hG => ?_)
    refine lv_aload_n hx hb dX8_land_45 rfl (lv_at hl 1 rfl) ?_
    refine r_get (C := RX8) (T := TX8) (Nf := 10) hx hb hts hown hK hG (by decide) rfl rfl inX8 4 (by decide) qF_X8_22 rfl dX8_land_46 ?_
    refine r_kv (r_run_V (k := 2) (As := []) (rest := []) hx hb hml hown hts hK hN hG (c_X5_forget l y  st42 _ hw) (by decide) rfl rfl rfl qM_X8_91 qI_X5_forget qS_X5_forget qN_X5 qC_X5_forget hd_X5_forget ⟨Nat.le_of_ble_eq_true rfl, Nat.le_of_ble_eq_true rfl⟩ hl.1 rfl (Nat.le_of_ble_eq_true rfl) dX8_land_49) hG (fun st49 H locs hw hG => ?_)
    refine lv_iload_n hx hb dX8_land_52 rfl (lv_at hl 0 rfl) ?_
    exact r_iret hx hb hr hlk hK hG rfl hw dX8_land_53
