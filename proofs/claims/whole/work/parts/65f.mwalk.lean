theorem hd_X9_clear : yX9_clear.cls ≠ "java/lang/invoke/MethodHandle" ∧ yX9_clear.cls ≠ "java/lang/invoke/VarHandle" ∧ (parseMethodDescriptor yX9_clear.desc).map (fun d => d.parameters.length) = some 0 := by decide +kernel
set_option maxRecDepth 100000 in
set_option maxHeartbeats 4000000 in
theorem c_X9_clear (l : Launch) (y : Sy)  (st : St) (K : Int32 → St → Prop) (hw : w_X9_clear  st K) : Ci 17 enM l yX9_clear cX9_clear 2 (some .int) 0 0 y [.ref (ad y 0)] st K := by
  refine ent (by decide) (Nat.le_of_ble_eq_true rfl) ?_
  intro p e s m below meth c C hG ls hl
  have hl : lv_has ls 2 [(0, .ref (ad y 0))] := hl
  generalize ([.ref (ad y 0)] : List Value).toArray = args at C ⊢
  have C : Sd p s m args meth c cX9_clear 2 RX9 (some .int) y := C
  obtain ⟨hx, hb, hml, hown, hts, hr, hlk, hK, hN⟩ := id C
  generalize s.heap = H at hG ⊢
  generalize ([] : List Loc) = locs at hG ⊢
  unfold w_X9_clear at hw
  refine lv_aload_n hx hb dX9_clear_0 rfl (lv_at hl 0 rfl) ?_
  refine r_get (C := RX9) (T := TX9) (Nf := 31) hx hb hts hown hK hG (by decide) rfl rfl inX9 29 (by decide) qF_X9_268 rfl dX9_clear_1 ?_
  refine lv_istore_n (lv' := [(1, .int (st 0 29)), (0, .ref (ad y 0))]) hx hb dX9_clear_4 rfl hl (Nat.le_of_ble_eq_true rfl) rfl (fun ls hl => ?_)
  refine lv_aload_n hx hb dX9_clear_5 rfl (lv_at hl 1 rfl) ?_
  refine lv_iconst (v := 0) hx hb dX9_clear_6 (by decide) ?_
  refine r_put (C := RX9) (T := TX9) (Nf := 31) hx hb hts hown hK hG (by decide) rfl rfl inX9 tyX9_ok nmX9 29 (by decide) qF_X9_268 rfl 0 rfl rfl rfl (Nat.le_of_ble_eq_true rfl) dX9_clear_7 (fun H locs hG => ?_)
  refine lv_iload_n hx hb dX9_clear_10 rfl (lv_at hl 0 rfl) ?_
  exact r_iret hx hb hr hlk hK hG rfl hw dX9_clear_11
theorem hd_X9_draw : yX9_draw.cls ≠ "java/lang/invoke/MethodHandle" ∧ yX9_draw.cls ≠ "java/lang/invoke/VarHandle" ∧ (parseMethodDescriptor yX9_draw.desc).map (fun d => d.parameters.length) = some 1 := by decide +kernel
set_option maxRecDepth 100000 in
set_option maxHeartbeats 4000000 in
theorem c_X9_draw (l : Launch) (y : Sy) (x1 : Int32) (st : St) (K : Int32 → St → Prop) (hw : w_X9_draw x1 st K) : Ci 17 enM l yX9_draw cX9_draw 2 (some .int) 0 0 y [.ref (ad y 0), .int x1] st K := by
  refine ent (by decide) (Nat.le_of_ble_eq_true rfl) ?_
  intro p e s m below meth c C hG ls hl
  have hl : lv_has ls 2 [(0, .ref (ad y 0)), (1, .int x1)] := hl
  generalize ([.ref (ad y 0), .int x1] : List Value).toArray = args at C ⊢
  have C : Sd p s m args meth c cX9_draw 2 RX9 (some .int) y := C
  obtain ⟨hx, hb, hml, hown, hts, hr, hlk, hK, hN⟩ := id C
  generalize s.heap = H at hG ⊢
  generalize ([] : List Loc) = locs at hG ⊢
  unfold w_X9_draw at hw
  refine lv_aload_n hx hb dX9_draw_0 rfl (lv_at hl 0 rfl) ?_
  refine lv_aload_n hx hb dX9_draw_1 rfl (lv_at hl 0 rfl) ?_
  refine r_get (C := RX9) (T := TX9) (Nf := 31) hx hb hts hown hK hG (by decide) rfl rfl inX9 30 (by decide) qF_X9_318 rfl dX9_draw_2 ?_
  refine lv_ldcw (v := 1103515245) hx hb hown (hts _ qK_X9_321) dX9_draw_5 ?_
  refine lv_imul hx hb dX9_draw_8 ?_
  refine lv_sipush (v := 12345) hx hb dX9_draw_9 (by decide) ?_
  refine lv_iadd hx hb dX9_draw_12 ?_
  refine r_put (C := RX9) (T := TX9) (Nf := 31) hx hb hts hown hK hG (by decide) rfl rfl inX9 tyX9_ok nmX9 30 (by decide) qF_X9_318 rfl (((st 0 30) * 1103515245) + 12345) rfl rfl rfl (Nat.le_of_ble_eq_true rfl) dX9_draw_13 (fun H locs hG => ?_)
  refine lv_aload_n hx hb dX9_draw_16 rfl (lv_at hl 0 rfl) ?_
  refine r_get (C := RX9) (T := TX9) (Nf := 31) hx hb hts hown hK hG (by decide) rfl rfl inX9 30 (by decide) qF_X9_318 rfl dX9_draw_17 ?_
  refine lv_ldcw (v := 2147483647) hx hb hown (hts _ qK_X9_322) dX9_draw_20 ?_
  refine lv_iand hx hb dX9_draw_23 ?_
  refine lv_ldcw (v := 65536) hx hb hown (hts _ qK_X9_323) dX9_draw_24 ?_
  refine lv_idiv hx hb dX9_draw_27 (by decide) ?_
  refine lv_iload_n hx hb dX9_draw_28 rfl (lv_at hl 1 rfl) ?_
  obtain ⟨h29, hw⟩ := hw
  refine lv_irem hx hb dX9_draw_29 h29 ?_
  exact r_iret hx hb hr hlk hK hG rfl hw dX9_draw_30
set_option maxRecDepth 100000 in
set_option maxHeartbeats 4000000 in
theorem z_X9_lots_b116 {p : Program} {e : Env} {s : State} {m : MethodId} {args : Array Value} {below : List Frame} {meth : Method} {c : Code} (l : Launch) (y : Sy) (x1 : Int32) (x2 : Int32) (x3 : Int32) (C : Sd p s m args meth c cX9_lots 10 RX9 (some .int) y) (c59 : Int32 → Int32 → Int32 → St → Prop) (c72 : Int32 → Int32 → Int32 → Int32 → St → Prop) (K : Int32 → St → Prop) (hc59 : ∀ (v5 : Int32) (v6 : Int32) (v7 : Int32) (st : St) (H : Heap) (locs : List Loc) (ls : Array Slot), gH 17 enM y st s H locs → lv_has ls 10 [(0, .ref (ad y 0)), (1, .int x1), (3, .int x3), (5, .int v5), (6, .int v6), (7, .int v7)] → c59 v5 v6 v7 st → W p l e (rmm 5 115) s m args below meth c H locs 0 0 (MQ below (va_Qi K (gB 17 enM y) (gA 17 y)) args s 0 0 (gA 17 y)) (F0 m 59 ls [])) (hc72 : ∀ (v5 : Int32) (v6 : Int32) (v7 : Int32) (v8 : Int32) (st : St) (H : Heap) (locs : List Loc) (ls : Array Slot), gH 17 enM y st s H locs → lv_has ls 10 [(0, .ref (ad y 0)), (1, .int x1), (3, .int x3), (5, .int v5), (6, .int v6), (7, .int v7), (8, .int v8)] → c72 v5 v6 v7 v8 st → W p l e (rmm 5 115) s m args below meth c H locs 0 0 (MQ below (va_Qi K (gB 17 enM y) (gA 17 y)) args s 0 0 (gA 17 y)) (F0 m 72 ls [])) (v5 : Int32) (v6 : Int32) (v7 : Int32) (v8 : Int32) (st : St) {H : Heap} {locs : List Loc} {ls : Array Slot} (hG : gH 17 enM y st s H locs) (hl : lv_has ls 10 [(0, .ref (ad y 0)), (1, .int x1), (3, .int x3), (5, .int v5), (6, .int v6), (7, .int v7), (8, .int v8)]) (hw : w_X9_lots_b116 x1 x2 x3 c59 c72 K v5 v6 v7 v8 st) : W p l e (rmm 5 115) s m args below meth c H locs 0 0 (MQ below (va_Qi K (gB 17 enM y) (gA 17 y)) args s 0 0 (gA 17 y)) (F0 m 116 ls []) := by
  obtain ⟨hx, hb, hml, hown, hts, hr, hlk, hK, hN⟩ := id C
  unfold w_X9_lots_b116 at hw
  refine lv_iinc (v := (v8 + 1)) (lv' := [(8, .int (v8 + 1)), (0, .ref (ad y 0)), (1, .int x1), (3, .int x3), (5, .int v5), (6, .int v6), (7, .int v7)]) hx hb dX9_lots_116 hl (k := 6) rfl rfl (Nat.le_of_ble_eq_true rfl) rfl (fun ls hl => ?_)
  refine lv_goto (tgt := 72) hx hb dX9_lots_119 (by decide) ?_
  exact hc72 v5 v6 v7 (v8 + 1) st H locs _ hG (lv_sub hl [1, 2, 3, 4, 5, 6, 0] rfl) hw
set_option maxRecDepth 100000 in
set_option maxHeartbeats 4000000 in
theorem z_X9_lots_L87 {p : Program} {e : Env} {s : State} {m : MethodId} {args : Array Value} {below : List Frame} {meth : Method} {c : Code} (l : Launch) (y : Sy) (x1 : Int32) (x2 : Int32) (x3 : Int32) (C : Sd p s m args meth c cX9_lots 10 RX9 (some .int) y) (c59 : Int32 → Int32 → Int32 → St → Prop) (c72 : Int32 → Int32 → Int32 → Int32 → St → Prop) (K : Int32 → St → Prop) (hc59 : ∀ (v5 : Int32) (v6 : Int32) (v7 : Int32) (st : St) (H : Heap) (locs : List Loc) (ls : Array Slot), gH 17 enM y st s H locs → lv_has ls 10 [(0, .ref (ad y 0)), (1, .int x1), (3, .int x3), (5, .int v5), (6, .int v6), (7, .int v7)] → c59 v5 v6 v7 st → W p l e (rmm 5 115) s m args below meth c H locs 0 0 (MQ below (va_Qi K (gB 17 enM y) (gA 17 y)) args s 0 0 (gA 17 y)) (F0 m 59 ls [])) (hc72 : ∀ (v5 : Int32) (v6 : Int32) (v7 : Int32) (v8 : Int32) (st : St) (H : Heap) (locs : List Loc) (ls : Array Slot), gH 17 enM y st s H locs → lv_has ls 10 [(0, .ref (ad y 0)), (1, .int x1), (3, .int x3), (5, .int v5), (6, .int v6), (7, .int v7), (8, .int v8)] → c72 v5 v6 v7 v8 st → W p l e (rmm 5 115) s m args below meth c H locs 0 0 (MQ below (va_Qi K (gB 17 enM y) (gA 17 y)) args s 0 0 (gA 17 y)) (F0 m 72 ls [])) : ∀ (n : Nat) (v5 : Int32) (v6 : Int32) (v7 : Int32) (v8 : Int32) (v9 : Int32) (st : St) (H : Heap) (locs : List Loc) (ls : Array Slot), gH 17 enM y st s H locs → lv_has ls 10 [(0, .ref (ad y 0)), (1, .int x1), (3, .int x3), (5, .int v5), (6, .int v6), (7, .int v7), (8, .int v8), (9, .int v9)] → w_X9_lots_L87 x1 x2 x3 c59 c72 K n v5 v6 v7 v8 v9 st → W p l e (rmm 5 115) s m args below meth c H locs 0 0 (MQ below (va_Qi K (gB 17 enM y) (gA 17 y)) args s 0 0 (gA 17 y)) (F0 m 87 ls []) := by
  obtain ⟨hx, hb, hml, hown, hts, hr, hlk, hK, hN⟩ := id C
  intro n
  induction n with
  | zero => intro v5 v6 v7 v8 v9 st H locs ls hG hl hw; exact False.elim hw
  | succ n hc87 =>
    intro v5 v6 v7 v8 v9 st H locs ls hG hl hw
    have hw : w_X9_lots_L87q x1 x2 x3 c59 c72 K (fun v5 v6 v7 v8 v9 st => w_X9_lots_L87 x1 x2 x3 c59 c72 K n v5 v6 v7 v8 v9 st) v5 v6 v7 v8 v9 st := hw
    unfold w_X9_lots_L87q at hw
    refine lv_iload hx hb dX9_lots_87 (lv_at hl 7 rfl) ?_
    refine lv_aload_n hx hb dX9_lots_89 rfl (lv_at hl 0 rfl) ?_
    refine r_get (C := RX9) (T := TX9) (Nf := 31) hx hb hts hown hK hG (by decide) rfl rfl inX9 8 (by decide) qF_X9_65 rfl dX9_lots_90 ?_
    refine lv_icmp_ge (tgt := 116) hx hb dX9_lots_93 (by decide) (fun hc => ?_) (fun hc => ?_)
    · replace hw := hw.1 hc
      exact z_X9_lots_b116 l y x1 x2 x3 C c59 c72 K hc59 hc72 v5 v6 v7 v8 st hG (lv_sub hl [0, 1, 2, 3, 4, 5, 6] rfl) hw
    · replace hw := hw.2 hc
      refine lv_aload_n hx hb dX9_lots_96 rfl (lv_at hl 0 rfl) ?_
      refine lv_iload hx hb dX9_lots_97 (lv_at hl 6 rfl) ?_
      refine lv_iload hx hb dX9_lots_99 (lv_at hl 7 rfl) ?_
      refine lv_aload_n hx hb dX9_lots_101 rfl (lv_at hl 0 rfl) ?_
      refine lv_bipush (v := 60) hx hb dX9_lots_102 (by decide) ?_
      refine r_ki (r_run_V (k := 0) (As := [.int 60]) (rest := [.int v9, .int v8, .ref (ad y 0)]) hx hb hml hown hts hK hN hG (c_X9_draw l y 60 st _ hw) (by decide) rfl rfl rfl qM_X9_324 qI_X9_draw qS_X9_draw qN_X9 qC_X9_draw hd_X9_draw ⟨Nat.le_of_ble_eq_true rfl, Nat.le_of_ble_eq_true rfl⟩ hl.1 rfl (Nat.le_of_ble_eq_true rfl) dX9_lots_104) hG (fun r104 st104 H locs hw hG => ?_)
      refine r_kv (r_run_V (k := 0) (As := [.int v8, .int v9, .int r104]) (rest := []) hx hb hml hown hts hK hN hG (c_X9_sets l y v8 v9 r104 st104 _ hw) (by decide) rfl rfl rfl qM_X9_128 qI_X9_sets qS_X9_sets qN_X9 qC_X9_sets hd_X9_sets ⟨Nat.le_of_ble_eq_true rfl, Nat.le_of_ble_eq_true rfl⟩ hl.1 rfl (Nat.le_of_ble_eq_true rfl) dX9_lots_107) hG (fun st107 H locs hw hG => ?_)
      refine lv_iinc (v := (v9 + 1)) (lv' := [(9, .int (v9 + 1)), (0, .ref (ad y 0)), (1, .int x1), (3, .int x3), (5, .int v5), (6, .int v6), (7, .int v7), (8, .int v8)]) hx hb dX9_lots_110 hl (k := 7) rfl rfl (Nat.le_of_ble_eq_true rfl) rfl (fun ls hl => ?_)
      refine lv_goto (tgt := 87) hx hb dX9_lots_113 (by decide) ?_
      exact hc87 v5 v6 v7 v8 (v9 + 1) st107 H locs _ hG (lv_sub hl [1, 2, 3, 4, 5, 6, 7, 0] rfl) hw
set_option maxRecDepth 100000 in
set_option maxHeartbeats 4000000 in
theorem z_X9_lots_b151 {p : Program} {e : Env} {s : State} {m : MethodId} {args : Array Value} {below : List Frame} {meth : Method} {c : Code} (l : Launch) (y : Sy) (x1 : Int32) (x2 : Int32) (x3 : Int32) (C : Sd p s m args meth c cX9_lots 10 RX9 (some .int) y) (c59 : Int32 → Int32 → Int32 → St → Prop) (K : Int32 → St → Prop) (hc59 : ∀ (v5 : Int32) (v6 : Int32) (v7 : Int32) (st : St) (H : Heap) (locs : List Loc) (ls : Array Slot), gH 17 enM y st s H locs → lv_has ls 10 [(0, .ref (ad y 0)), (1, .int x1), (3, .int x3), (5, .int v5), (6, .int v6), (7, .int v7)] → c59 v5 v6 v7 st → W p l e (rmm 5 115) s m args below meth c H locs 0 0 (MQ below (va_Qi K (gB 17 enM y) (gA 17 y)) args s 0 0 (gA 17 y)) (F0 m 59 ls [])) (v6 : Int32) (v7 : Int32) (s0 : Int32) (s1 : Int32) (st : St) {H : Heap} {locs : List Loc} {ls : Array Slot} (hG : gH 17 enM y st s H locs) (hl : lv_has ls 10 [(0, .ref (ad y 0)), (1, .int x1), (3, .int x3), (6, .int v6), (7, .int v7)]) (hw : w_X9_lots_b151 x1 x2 x3 c59 K v6 v7 s0 s1 st) : W p l e (rmm 5 115) s m args below meth c H locs 0 0 (MQ below (va_Qi K (gB 17 enM y) (gA 17 y)) args s 0 0 (gA 17 y)) (F0 m 151 ls [.int s0, .int s1]) := by
  obtain ⟨hx, hb, hml, hown, hts, hr, hlk, hK, hN⟩ := id C
  unfold w_X9_lots_b151 at hw
  refine lv_iadd hx hb dX9_lots_151 ?_
  refine lv_istore (lv' := [(5, .int (s1 + s0)), (0, .ref (ad y 0)), (1, .int x1), (3, .int x3), (6, .int v6), (7, .int v7)]) hx hb dX9_lots_152 hl (Nat.le_of_ble_eq_true rfl) rfl (fun ls hl => ?_)
  refine lv_aload_n hx hb dX9_lots_154 rfl (lv_at hl 1 rfl) ?_
  refine r_kv (r_run_V (k := 0) (As := []) (rest := []) hx hb hml hown hts hK hN hG (c_X9_forgets l y  st _ hw) (by decide) rfl rfl rfl qM_X9_220 qI_X9_forgets qS_X9_forgets qN_X9 qC_X9_forgets hd_X9_forgets ⟨Nat.le_of_ble_eq_true rfl, Nat.le_of_ble_eq_true rfl⟩ hl.1 rfl (Nat.le_of_ble_eq_true rfl) dX9_lots_155) hG (fun st155 H locs hw hG => ?_)
  refine lv_iinc (v := (v7 + 1)) (lv' := [(7, .int (v7 + 1)), (5, .int (s1 + s0)), (0, .ref (ad y 0)), (1, .int x1), (3, .int x3), (6, .int v6)]) hx hb dX9_lots_158 hl (k := 5) rfl rfl (Nat.le_of_ble_eq_true rfl) rfl (fun ls hl => ?_)
  refine lv_goto (tgt := 59) hx hb dX9_lots_161 (by decide) ?_
  exact hc59 (s1 + s0) v6 (v7 + 1) st155 H locs _ hG (lv_sub hl [2, 3, 4, 1, 5, 0] rfl) hw
set_option maxRecDepth 100000 in
set_option maxHeartbeats 4000000 in
theorem z_X9_lots_b122 {p : Program} {e : Env} {s : State} {m : MethodId} {args : Array Value} {below : List Frame} {meth : Method} {c : Code} (l : Launch) (y : Sy) (x1 : Int32) (x2 : Int32) (x3 : Int32) (C : Sd p s m args meth c cX9_lots 10 RX9 (some .int) y) (c59 : Int32 → Int32 → Int32 → St → Prop) (K : Int32 → St → Prop) (hc59 : ∀ (v5 : Int32) (v6 : Int32) (v7 : Int32) (st : St) (H : Heap) (locs : List Loc) (ls : Array Slot), gH 17 enM y st s H locs → lv_has ls 10 [(0, .ref (ad y 0)), (1, .int x1), (3, .int x3), (5, .int v5), (6, .int v6), (7, .int v7)] → c59 v5 v6 v7 st → W p l e (rmm 5 115) s m args below meth c H locs 0 0 (MQ below (va_Qi K (gB 17 enM y) (gA 17 y)) args s 0 0 (gA 17 y)) (F0 m 59 ls [])) (v5 : Int32) (v6 : Int32) (v7 : Int32) (st : St) {H : Heap} {locs : List Loc} {ls : Array Slot} (hG : gH 17 enM y st s H locs) (hl : lv_has ls 10 [(0, .ref (ad y 0)), (1, .int x1), (3, .int x3), (5, .int v5), (6, .int v6), (7, .int v7)]) (hw : w_X9_lots_b122 x1 x2 x3 c59 K v5 v6 v7 st) : W p l e (rmm 5 115) s m args below meth c H locs 0 0 (MQ below (va_Qi K (gB 17 enM y) (gA 17 y)) args s 0 0 (gA 17 y)) (F0 m 122 ls []) := by
  obtain ⟨hx, hb, hml, hown, hts, hr, hlk, hK, hN⟩ := id C
  unfold w_X9_lots_b122 at hw
  refine lv_aload_n hx hb dX9_lots_122 rfl (lv_at hl 0 rfl) ?_
  refine lv_bipush (v := 10) hx hb dX9_lots_123 (by decide) ?_
  refine r_kv (r_run_V (k := 0) (As := [.int 10]) (rest := []) hx hb hml hown hts hK hN hG (c_X9_goesOn l y 10 st _ hw) (by decide) rfl rfl rfl qM_X9_118 qI_X9_goesOn qS_X9_goesOn qN_X9 qC_X9_goesOn hd_X9_goesOn ⟨Nat.le_of_ble_eq_true rfl, Nat.le_of_ble_eq_true rfl⟩ hl.1 rfl (Nat.le_of_ble_eq_true rfl) dX9_lots_125) hG (fun st125 H locs hw hG => ?_)
  refine lv_iload hx hb dX9_lots_128 (lv_at hl 3 rfl) ?_
  refine lv_iload_n hx hb dX9_lots_130 rfl (lv_at hl 2 rfl) ?_
  refine lv_if_ne (tgt := 147) hx hb dX9_lots_131 (by decide) (fun hc => ?_) (fun hc => ?_)
  · replace hw := hw.1 hc
    refine lv_aload_n hx hb dX9_lots_147 rfl (lv_at hl 0 rfl) ?_
    refine r_ki (r_run_V (k := 0) (As := []) (rest := [.int v5]) hx hb hml hown hts hK hN hG (c_X9_allHate l y  st125 _ hw) (by decide) rfl rfl rfl qM_X9_232 qI_X9_allHate qS_X9_allHate qN_X9 qC_X9_allHate hd_X9_allHate ⟨Nat.le_of_ble_eq_true rfl, Nat.le_of_ble_eq_true rfl⟩ hl.1 rfl (Nat.le_of_ble_eq_true rfl) dX9_lots_148) hG (fun r148 st148 H locs hw hG => ?_)
    exact z_X9_lots_b151 l y x1 x2 x3 C c59 K hc59 v6 v7 r148 v5 st148 hG (lv_sub hl [0, 1, 2, 4, 5] rfl) hw
  · replace hw := hw.2 hc
    refine lv_aload_n hx hb dX9_lots_134 rfl (lv_at hl 0 rfl) ?_
    refine r_ki (r_run_V (k := 0) (As := []) (rest := [.int v5]) hx hb hml hown hts hK hN hG (c_X9_openOnes l y  st125 _ hw) (by decide) rfl rfl rfl qM_X9_211 qI_X9_openOnes qS_X9_openOnes qN_X9 qC_X9_openOnes hd_X9_openOnes ⟨Nat.le_of_ble_eq_true rfl, Nat.le_of_ble_eq_true rfl⟩ hl.1 rfl (Nat.le_of_ble_eq_true rfl) dX9_lots_135) hG (fun r135 st135 H locs hw hG => ?_)
    refine r_ki (r_run_S (As := [.int r135]) (rest := [.int v5]) hx hb hml hown hts hK hN hG (c_X9_bits l y r135 st135 _ hw) qM_X9_214 qT_X9_bits qN_X9 qC_X9_bits hd_X9_bits ⟨Nat.le_of_ble_eq_true rfl, Nat.le_of_ble_eq_true rfl⟩ hl.1 rfl (Nat.le_of_ble_eq_true rfl) dX9_lots_138) hG (fun r138 st138 H locs hw hG => ?_)
    refine lv_iload hx hb dX9_lots_141 (lv_at hl 4 rfl) ?_
    refine lv_isub hx hb dX9_lots_143 ?_
    refine lv_goto (tgt := 151) hx hb dX9_lots_144 (by decide) ?_
    exact z_X9_lots_b151 l y x1 x2 x3 C c59 K hc59 v6 v7 (r138 - v6) v5 st138 hG (lv_sub hl [0, 1, 2, 4, 5] rfl) hw
set_option maxRecDepth 100000 in
set_option maxHeartbeats 4000000 in
theorem z_X9_lots_L72 {p : Program} {e : Env} {s : State} {m : MethodId} {args : Array Value} {below : List Frame} {meth : Method} {c : Code} (l : Launch) (y : Sy) (x1 : Int32) (x2 : Int32) (x3 : Int32) (C : Sd p s m args meth c cX9_lots 10 RX9 (some .int) y) (c59 : Int32 → Int32 → Int32 → St → Prop) (K : Int32 → St → Prop) (hc59 : ∀ (v5 : Int32) (v6 : Int32) (v7 : Int32) (st : St) (H : Heap) (locs : List Loc) (ls : Array Slot), gH 17 enM y st s H locs → lv_has ls 10 [(0, .ref (ad y 0)), (1, .int x1), (3, .int x3), (5, .int v5), (6, .int v6), (7, .int v7)] → c59 v5 v6 v7 st → W p l e (rmm 5 115) s m args below meth c H locs 0 0 (MQ below (va_Qi K (gB 17 enM y) (gA 17 y)) args s 0 0 (gA 17 y)) (F0 m 59 ls [])) : ∀ (n : Nat) (v5 : Int32) (v6 : Int32) (v7 : Int32) (v8 : Int32) (st : St) (H : Heap) (locs : List Loc) (ls : Array Slot), gH 17 enM y st s H locs → lv_has ls 10 [(0, .ref (ad y 0)), (1, .int x1), (3, .int x3), (5, .int v5), (6, .int v6), (7, .int v7), (8, .int v8)] → w_X9_lots_L72 x1 x2 x3 c59 K n v5 v6 v7 v8 st → W p l e (rmm 5 115) s m args below meth c H locs 0 0 (MQ below (va_Qi K (gB 17 enM y) (gA 17 y)) args s 0 0 (gA 17 y)) (F0 m 72 ls []) := by
  obtain ⟨hx, hb, hml, hown, hts, hr, hlk, hK, hN⟩ := id C
  intro n
  induction n with
  | zero => intro v5 v6 v7 v8 st H locs ls hG hl hw; exact False.elim hw
  | succ n hc72 =>
    intro v5 v6 v7 v8 st H locs ls hG hl hw
    have hw : w_X9_lots_L72q x1 x2 x3 c59 K (fun v5 v6 v7 v8 st => w_X9_lots_L72 x1 x2 x3 c59 K n v5 v6 v7 v8 st) v5 v6 v7 v8 st := hw
    unfold w_X9_lots_L72q at hw
    refine lv_iload hx hb dX9_lots_72 (lv_at hl 6 rfl) ?_
    refine lv_aload_n hx hb dX9_lots_74 rfl (lv_at hl 0 rfl) ?_
    refine r_get (C := RX9) (T := TX9) (Nf := 31) hx hb hts hown hK hG (by decide) rfl rfl inX9 8 (by decide) qF_X9_65 rfl dX9_lots_75 ?_
    refine lv_icmp_ge (tgt := 122) hx hb dX9_lots_78 (by decide) (fun hc => ?_) (fun hc => ?_)
    · replace hw := hw.1 hc
      exact z_X9_lots_b122 l y x1 x2 x3 C c59 K hc59 v5 v6 v7 st hG (lv_sub hl [0, 1, 2, 3, 4, 5] rfl) hw
    · replace hw := hw.2 hc
      refine lv_iload hx hb dX9_lots_81 (lv_at hl 6 rfl) ?_
      refine lv_iconst (v := 1) hx hb dX9_lots_83 (by decide) ?_
      refine lv_iadd hx hb dX9_lots_84 ?_
      refine lv_istore (lv' := [(9, .int (v8 + 1)), (0, .ref (ad y 0)), (1, .int x1), (3, .int x3), (5, .int v5), (6, .int v6), (7, .int v7), (8, .int v8)]) hx hb dX9_lots_85 hl (Nat.le_of_ble_eq_true rfl) rfl (fun ls hl => ?_)
      obtain ⟨n87, hw⟩ := hw
      exact z_X9_lots_L87 l y x1 x2 x3 C c59 (fun v5 v6 v7 v8 st => w_X9_lots_L72 x1 x2 x3 c59 K n v5 v6 v7 v8 st) K hc59 hc72 n87 v5 v6 v7 v8 (v8 + 1) st H locs _ hG (lv_sub hl [1, 2, 3, 4, 5, 6, 7, 0] rfl) hw
set_option maxRecDepth 100000 in
set_option maxHeartbeats 4000000 in
theorem z_X9_lots_L59 {p : Program} {e : Env} {s : State} {m : MethodId} {args : Array Value} {below : List Frame} {meth : Method} {c : Code} (l : Launch) (y : Sy) (x1 : Int32) (x2 : Int32) (x3 : Int32) (C : Sd p s m args meth c cX9_lots 10 RX9 (some .int) y)  (K : Int32 → St → Prop)  : ∀ (n : Nat) (v5 : Int32) (v6 : Int32) (v7 : Int32) (st : St) (H : Heap) (locs : List Loc) (ls : Array Slot), gH 17 enM y st s H locs → lv_has ls 10 [(0, .ref (ad y 0)), (1, .int x1), (3, .int x3), (5, .int v5), (6, .int v6), (7, .int v7)] → w_X9_lots_L59 x1 x2 x3  K n v5 v6 v7 st → W p l e (rmm 5 115) s m args below meth c H locs 0 0 (MQ below (va_Qi K (gB 17 enM y) (gA 17 y)) args s 0 0 (gA 17 y)) (F0 m 59 ls []) := by
  obtain ⟨hx, hb, hml, hown, hts, hr, hlk, hK, hN⟩ := id C
  intro n
  induction n with
  | zero => intro v5 v6 v7 st H locs ls hG hl hw; exact False.elim hw
  | succ n hc59 =>
    intro v5 v6 v7 st H locs ls hG hl hw
    have hw : w_X9_lots_L59q x1 x2 x3  K (fun v5 v6 v7 st => w_X9_lots_L59 x1 x2 x3  K n v5 v6 v7 st) v5 v6 v7 st := hw
    unfold w_X9_lots_L59q at hw
    refine lv_iload hx hb dX9_lots_59 (lv_at hl 5 rfl) ?_
    refine lv_iload_n hx hb dX9_lots_61 rfl (lv_at hl 1 rfl) ?_
    refine lv_icmp_ge (tgt := 164) hx hb dX9_lots_62 (by decide) (fun hc => ?_) (fun hc => ?_)
    · replace hw := hw.1 hc
      refine lv_iload hx hb dX9_lots_164 (lv_at hl 3 rfl) ?_
      exact r_iret hx hb hr hlk hK hG rfl hw dX9_lots_166
    · replace hw := hw.2 hc
      refine lv_aload_n hx hb dX9_lots_65 rfl (lv_at hl 0 rfl) ?_
      refine r_kv (r_run_V (k := 0) (As := []) (rest := []) hx hb hml hown hts hK hN hG (c_X9_thinks l y  st _ hw) (by decide) rfl rfl rfl qM_X9_217 qI_X9_thinks qS_X9_thinks qN_X9 qC_X9_thinks hd_X9_thinks ⟨Nat.le_of_ble_eq_true rfl, Nat.le_of_ble_eq_true rfl⟩ hl.1 rfl (Nat.le_of_ble_eq_true rfl) dX9_lots_66) hG (fun st66 H locs hw hG => ?_)
      refine lv_iconst (v := 0) hx hb dX9_lots_69 (by decide) ?_
      refine lv_istore (lv' := [(8, .int 0), (0, .ref (ad y 0)), (1, .int x1), (3, .int x3), (5, .int v5), (6, .int v6), (7, .int v7)]) hx hb dX9_lots_70 hl (Nat.le_of_ble_eq_true rfl) rfl (fun ls hl => ?_)
      obtain ⟨n72, hw⟩ := hw
      exact z_X9_lots_L72 l y x1 x2 x3 C (fun v5 v6 v7 st => w_X9_lots_L59 x1 x2 x3  K n v5 v6 v7 st) K hc59 n72 v5 v6 v7 0 st66 H locs _ hG (lv_sub hl [1, 2, 3, 4, 5, 6, 0] rfl) hw
set_option maxRecDepth 100000 in
set_option maxHeartbeats 4000000 in
theorem z_X9_lots_b27 {p : Program} {e : Env} {s : State} {m : MethodId} {args : Array Value} {below : List Frame} {meth : Method} {c : Code} (l : Launch) (y : Sy) (x1 : Int32) (x2 : Int32) (x3 : Int32) (C : Sd p s m args meth c cX9_lots 10 RX9 (some .int) y)  (K : Int32 → St → Prop)  (v4 : Int32) (st : St) {H : Heap} {locs : List Loc} {ls : Array Slot} (hG : gH 17 enM y st s H locs) (hl : lv_has ls 10 [(0, .ref (ad y 0)), (1, .int x1), (2, .int x2), (3, .int x3), (4, .int v4)]) (hw : w_X9_lots_b27 x1 x2 x3  K v4 st) : W p l e (rmm 5 115) s m args below meth c H locs 0 0 (MQ below (va_Qi K (gB 17 enM y) (gA 17 y)) args s 0 0 (gA 17 y)) (F0 m 27 ls []) := by
  obtain ⟨hx, hb, hml, hown, hts, hr, hlk, hK, hN⟩ := id C
  unfold w_X9_lots_b27 at hw
  refine lv_iload hx hb dX9_lots_27 (lv_at hl 4 rfl) ?_
  refine lv_if_eq (tgt := 39) hx hb dX9_lots_29 (by decide) (fun hc => ?_) (fun hc => ?_)
  · replace hw := hw.1 hc
    refine lv_aload_n hx hb dX9_lots_39 rfl (lv_at hl 0 rfl) ?_
    refine lv_iload_n hx hb dX9_lots_40 rfl (lv_at hl 2 rfl) ?_
    refine r_put (C := RX9) (T := TX9) (Nf := 31) hx hb hts hown hK hG (by decide) rfl rfl inX9 tyX9_ok nmX9 30 (by decide) qF_X9_318 rfl x2 rfl rfl rfl (Nat.le_of_ble_eq_true rfl) dX9_lots_41 (fun H locs hG => ?_)
    refine lv_iconst (v := 0) hx hb dX9_lots_44 (by decide) ?_
    refine lv_istore (lv' := [(5, .int 0), (0, .ref (ad y 0)), (1, .int x1), (2, .int x2), (3, .int x3), (4, .int v4)]) hx hb dX9_lots_45 hl (Nat.le_of_ble_eq_true rfl) rfl (fun ls hl => ?_)
    refine lv_aload_n hx hb dX9_lots_47 rfl (lv_at hl 1 rfl) ?_
    refine r_ki (r_run_V (k := 0) (As := []) (rest := []) hx hb hml hown hts hK hN hG (c_X9_openOnes l y  (u2 st 0 30 x2) _ hw) (by decide) rfl rfl rfl qM_X9_211 qI_X9_openOnes qS_X9_openOnes qN_X9 qC_X9_openOnes hd_X9_openOnes ⟨Nat.le_of_ble_eq_true rfl, Nat.le_of_ble_eq_true rfl⟩ hl.1 rfl (Nat.le_of_ble_eq_true rfl) dX9_lots_48) hG (fun r48 st48 H locs hw hG => ?_)
    refine r_ki (r_run_S (As := [.int r48]) (rest := []) hx hb hml hown hts hK hN hG (c_X9_bits l y r48 st48 _ hw) qM_X9_214 qT_X9_bits qN_X9 qC_X9_bits hd_X9_bits ⟨Nat.le_of_ble_eq_true rfl, Nat.le_of_ble_eq_true rfl⟩ hl.1 rfl (Nat.le_of_ble_eq_true rfl) dX9_lots_51) hG (fun r51 st51 H locs hw hG => ?_)
    refine lv_istore (lv' := [(6, .int r51), (5, .int 0), (0, .ref (ad y 0)), (1, .int x1), (2, .int x2), (3, .int x3), (4, .int v4)]) hx hb dX9_lots_54 hl (Nat.le_of_ble_eq_true rfl) rfl (fun ls hl => ?_)
    refine lv_iconst (v := 0) hx hb dX9_lots_56 (by decide) ?_
    refine lv_istore (lv' := [(7, .int 0), (6, .int r51), (5, .int 0), (0, .ref (ad y 0)), (1, .int x1), (2, .int x2), (3, .int x3), (4, .int v4)]) hx hb dX9_lots_57 hl (Nat.le_of_ble_eq_true rfl) rfl (fun ls hl => ?_)
    obtain ⟨n59, hw⟩ := hw
    exact z_X9_lots_L59 l y x1 x2 x3 C  K  n59 0 r51 0 st51 H locs _ hG (lv_sub hl [3, 4, 6, 2, 1, 0] rfl) hw
  · replace hw := hw.2 hc
    refine lv_aload_n hx hb dX9_lots_32 rfl (lv_at hl 0 rfl) ?_
    refine lv_iload hx hb dX9_lots_33 (lv_at hl 4 rfl) ?_
    refine r_ki (r_run_V (k := 0) (As := [.int v4]) (rest := []) hx hb hml hown hts hK hN hG (c_X9_no l y v4 st _ hw) (by decide) rfl rfl rfl qM_X9_79 qI_X9_no qS_X9_no qN_X9 qC_X9_no hd_X9_no ⟨Nat.le_of_ble_eq_true rfl, Nat.le_of_ble_eq_true rfl⟩ hl.1 rfl (Nat.le_of_ble_eq_true rfl) dX9_lots_35) hG (fun r35 st35 H locs hw hG => ?_)
    exact r_iret hx hb hr hlk hK hG rfl hw dX9_lots_38
theorem hd_X9_lots : yX9_lots.cls ≠ "java/lang/invoke/MethodHandle" ∧ yX9_lots.cls ≠ "java/lang/invoke/VarHandle" ∧ (parseMethodDescriptor yX9_lots.desc).map (fun d => d.parameters.length) = some 3 := by decide +kernel
set_option maxRecDepth 100000 in
set_option maxHeartbeats 4000000 in
theorem c_X9_lots (l : Launch) (y : Sy) (x1 : Int32) (x2 : Int32) (x3 : Int32) (st : St) (K : Int32 → St → Prop) (hw : w_X9_lots x1 x2 x3 st K) : Ci 17 enM l yX9_lots cX9_lots 10 (some .int) 5 115 y [.ref (ad y 0), .int x1, .int x2, .int x3] st K := by
  refine ent (by decide) (Nat.le_of_ble_eq_true rfl) ?_
  intro p e s m below meth c C hG ls hl
  have hl : lv_has ls 10 [(0, .ref (ad y 0)), (1, .int x1), (2, .int x2), (3, .int x3)] := hl
  generalize ([.ref (ad y 0), .int x1, .int x2, .int x3] : List Value).toArray = args at C ⊢
  have C : Sd p s m args meth c cX9_lots 10 RX9 (some .int) y := C
  obtain ⟨hx, hb, hml, hown, hts, hr, hlk, hK, hN⟩ := id C
  generalize s.heap = H at hG ⊢
  generalize ([] : List Loc) = locs at hG ⊢
  unfold w_X9_lots at hw
  refine lv_iload_n hx hb dX9_lots_0 rfl (lv_at hl 1 rfl) ?_
  refine lv_iconst (v := 1) hx hb dX9_lots_1 (by decide) ?_
  refine lv_bipush (v := 20) hx hb dX9_lots_2 (by decide) ?_
  refine r_ki (r_run_S (As := [.int x1, .int 1, .int 20]) (rest := []) hx hb hml hown hts hK hN hG (c_X9_bound l y x1 1 20 st _ hw) qM_X9_72 qT_X9_bound qN_X9 qC_X9_bound hd_X9_bound ⟨Nat.le_of_ble_eq_true rfl, Nat.le_of_ble_eq_true rfl⟩ hl.1 rfl (Nat.le_of_ble_eq_true rfl) dX9_lots_4) hG (fun r4 st4 H locs hw hG => ?_)
  refine lv_istore (lv' := [(4, .int r4), (0, .ref (ad y 0)), (1, .int x1), (2, .int x2), (3, .int x3)]) hx hb dX9_lots_7 hl (Nat.le_of_ble_eq_true rfl) rfl (fun ls hl => ?_)
  refine lv_iload hx hb dX9_lots_9 (lv_at hl 0 rfl) ?_
  refine lv_if_ne (tgt := 27) hx hb dX9_lots_11 (by decide) (fun hc => ?_) (fun hc => ?_)
  · replace hw := hw.1 hc
    exact z_X9_lots_b27 l y x1 x2 x3 C  K  r4 st4 hG (lv_sub hl [1, 2, 3, 4, 0] rfl) hw
  · replace hw := hw.2 hc
    refine lv_iload_n hx hb dX9_lots_14 rfl (lv_at hl 4 rfl) ?_
    refine lv_iconst (v := 0) hx hb dX9_lots_15 (by decide) ?_
    refine lv_iconst (v := 1) hx hb dX9_lots_16 (by decide) ?_
    refine r_ki (r_run_S (As := [.int x3, .int 0, .int 1]) (rest := []) hx hb hml hown hts hK hN hG (c_X9_isIn l y x3 0 1 st4 _ hw) qM_X9_90 qT_X9_isIn qN_X9 qC_X9_isIn hd_X9_isIn ⟨Nat.le_of_ble_eq_true rfl, Nat.le_of_ble_eq_true rfl⟩ hl.1 rfl (Nat.le_of_ble_eq_true rfl) dX9_lots_17) hG (fun r17 st17 H locs hw hG => ?_)
    refine lv_if_ne (tgt := 27) hx hb dX9_lots_20 (by decide) (fun hc => ?_) (fun hc => ?_)
    · replace hw := hw.1 hc
      exact z_X9_lots_b27 l y x1 x2 x3 C  K  r4 st17 hG (lv_sub hl [1, 2, 3, 4, 0] rfl) hw
    · replace hw := hw.2 hc
      refine lv_bipush (v := (-2)) hx hb dX9_lots_23 (by decide) ?_
      refine lv_istore (lv' := [(4, .int (-2)), (0, .ref (ad y 0)), (1, .int x1), (2, .int x2), (3, .int x3)]) hx hb dX9_lots_25 hl (Nat.le_of_ble_eq_true rfl) rfl (fun ls hl => ?_)
      exact z_X9_lots_b27 l y x1 x2 x3 C  K  (-2) st17 hG (lv_sub hl [1, 2, 3, 4, 0] rfl) hw
theorem hd_X9_count : yX9_count.cls ≠ "java/lang/invoke/MethodHandle" ∧ yX9_count.cls ≠ "java/lang/invoke/VarHandle" ∧ (parseMethodDescriptor yX9_count.desc).map (fun d => d.parameters.length) = some 1 := by decide +kernel
set_option maxRecDepth 100000 in
set_option maxHeartbeats 4000000 in
theorem c_X9_count (l : Launch) (y : Sy) (x1 : Int32) (st : St) (K : Int32 → St → Prop) (hw : w_X9_count x1 st K) : Ci 17 enM l yX9_count cX9_count 2 (some .int) 2 45 y [.ref (ad y 0), .int x1] st K := by
  refine ent (by decide) (Nat.le_of_ble_eq_true rfl) ?_
  intro p e s m below meth c C hG ls hl
  have hl : lv_has ls 2 [(0, .ref (ad y 0)), (1, .int x1)] := hl
  generalize ([.ref (ad y 0), .int x1] : List Value).toArray = args at C ⊢
  have C : Sd p s m args meth c cX9_count 2 RX9 (some .int) y := C
  obtain ⟨hx, hb, hml, hown, hts, hr, hlk, hK, hN⟩ := id C
  generalize s.heap = H at hG ⊢
  generalize ([] : List Loc) = locs at hG ⊢
  unfold w_X9_count at hw
  refine lv_iload_n hx hb dX9_count_0 rfl (lv_at hl 1 rfl) ?_
  refine lv_bipush (v := 11) hx hb dX9_count_1 (by decide) ?_
  refine lv_bipush (v := 16) hx hb dX9_count_3 (by decide) ?_
  refine r_ki (r_run_S (As := [.int x1, .int 11, .int 16]) (rest := []) hx hb hml hown hts hK hN hG (c_X9_isIn l y x1 11 16 st _ hw) qM_X9_90 qT_X9_isIn qN_X9 qC_X9_isIn hd_X9_isIn ⟨Nat.le_of_ble_eq_true rfl, Nat.le_of_ble_eq_true rfl⟩ hl.1 rfl (Nat.le_of_ble_eq_true rfl) dX9_count_5) hG (fun r5 st5 H locs hw hG => ?_)
  refine lv_if_eq (tgt := 21) hx hb dX9_count_8 (by decide) (fun hc => ?_) (fun hc => ?_)
  · replace hw := hw.1 hc
    refine lv_iload_n hx hb dX9_count_21 rfl (lv_at hl 1 rfl) ?_
    by_cases g0 : x1 = 0
    · replace hw := hw.1 g0
      refine r_tabin (v := 0) (tgt := 68) hx hb dX9_count_22 g0 (by decide) (by decide) rfl (by decide) ?_
      refine lv_aload_n hx hb dX9_count_68 rfl (lv_at hl 0 rfl) ?_
      refine r_get (C := RX9) (T := TX9) (Nf := 31) hx hb hts hown hK hG (by decide) rfl rfl inX9 8 (by decide) qF_X9_65 rfl dX9_count_69 ?_
      exact r_iret hx hb hr hlk hK hG rfl hw dX9_count_72
    replace hw := hw.2 g0
    by_cases g1 : x1 = 1
    · replace hw := hw.1 g1
      refine r_tabin (v := 1) (tgt := 73) hx hb dX9_count_22 g1 (by decide) (by decide) rfl (by decide) ?_
      refine lv_aload_n hx hb dX9_count_73 rfl (lv_at hl 0 rfl) ?_
      refine r_get (C := RX9) (T := TX9) (Nf := 31) hx hb hts hown hK hG (by decide) rfl rfl inX9 9 (by decide) qF_X9_58 rfl dX9_count_74 ?_
      exact r_iret hx hb hr hlk hK hG rfl hw dX9_count_77
    replace hw := hw.2 g1
    by_cases g2 : x1 = 2
    · replace hw := hw.1 g2
      refine r_tabin (v := 2) (tgt := 78) hx hb dX9_count_22 g2 (by decide) (by decide) rfl (by decide) ?_
      refine lv_aload_n hx hb dX9_count_78 rfl (lv_at hl 0 rfl) ?_
      refine r_get (C := RX9) (T := TX9) (Nf := 31) hx hb hts hown hK hG (by decide) rfl rfl inX9 10 (by decide) qF_X9_115 rfl dX9_count_79 ?_
      exact r_iret hx hb hr hlk hK hG rfl hw dX9_count_82
    replace hw := hw.2 g2
    by_cases g3 : x1 = 3
    · replace hw := hw.1 g3
      refine r_tabin (v := 3) (tgt := 83) hx hb dX9_count_22 g3 (by decide) (by decide) rfl (by decide) ?_
      refine lv_aload_n hx hb dX9_count_83 rfl (lv_at hl 0 rfl) ?_
      refine r_ki (r_run_V (k := 0) (As := []) (rest := []) hx hb hml hown hts hK hN hG (c_X9_openOnes l y  st5 _ hw) (by decide) rfl rfl rfl qM_X9_211 qI_X9_openOnes qS_X9_openOnes qN_X9 qC_X9_openOnes hd_X9_openOnes ⟨Nat.le_of_ble_eq_true rfl, Nat.le_of_ble_eq_true rfl⟩ hl.1 rfl (Nat.le_of_ble_eq_true rfl) dX9_count_84) hG (fun r84 st84 H locs hw hG => ?_)
      exact r_iret hx hb hr hlk hK hG rfl hw dX9_count_87
    replace hw := hw.2 g3
    by_cases g4 : x1 = 4
    · replace hw := hw.1 g4
      refine r_tabin (v := 4) (tgt := 88) hx hb dX9_count_22 g4 (by decide) (by decide) rfl (by decide) ?_
      refine lv_aload_n hx hb dX9_count_88 rfl (lv_at hl 0 rfl) ?_
      refine r_ki (r_run_V (k := 0) (As := []) (rest := []) hx hb hml hown hts hK hN hG (c_X9_allHate l y  st5 _ hw) (by decide) rfl rfl rfl qM_X9_232 qI_X9_allHate qS_X9_allHate qN_X9 qC_X9_allHate hd_X9_allHate ⟨Nat.le_of_ble_eq_true rfl, Nat.le_of_ble_eq_true rfl⟩ hl.1 rfl (Nat.le_of_ble_eq_true rfl) dX9_count_89) hG (fun r89 st89 H locs hw hG => ?_)
      exact r_iret hx hb hr hlk hK hG rfl hw dX9_count_92
    replace hw := hw.2 g4
    by_cases g5 : x1 = 5
    · replace hw := hw.1 g5
      refine r_tabin (v := 5) (tgt := 93) hx hb dX9_count_22 g5 (by decide) (by decide) rfl (by decide) ?_
      refine lv_aload_n hx hb dX9_count_93 rfl (lv_at hl 0 rfl) ?_
      refine r_get (C := RX9) (T := TX9) (Nf := 31) hx hb hts hown hK hG (by decide) rfl rfl inX9 16 (by decide) qF_X9_76 rfl dX9_count_94 ?_
      exact r_iret hx hb hr hlk hK hG rfl hw dX9_count_97
    replace hw := hw.2 g5
    by_cases g6 : x1 = 6
    · replace hw := hw.1 g6
      refine r_tabin (v := 6) (tgt := 98) hx hb dX9_count_22 g6 (by decide) (by decide) rfl (by decide) ?_
      refine lv_aload_n hx hb dX9_count_98 rfl (lv_at hl 0 rfl) ?_
      refine r_get (C := RX9) (T := TX9) (Nf := 31) hx hb hts hown hK hG (by decide) rfl rfl inX9 29 (by decide) qF_X9_268 rfl dX9_count_99 ?_
      exact r_iret hx hb hr hlk hK hG rfl hw dX9_count_102
    replace hw := hw.2 g6
    by_cases g7 : x1 = 7
    · replace hw := hw.1 g7
      refine r_tabin (v := 7) (tgt := 103) hx hb dX9_count_22 g7 (by decide) (by decide) rfl (by decide) ?_
      refine lv_aload_n hx hb dX9_count_103 rfl (lv_at hl 0 rfl) ?_
      refine r_get (C := RX9) (T := TX9) (Nf := 31) hx hb hts hown hK hG (by decide) rfl rfl inX9 23 (by decide) qF_X9_151 rfl dX9_count_104 ?_
      exact r_iret hx hb hr hlk hK hG rfl hw dX9_count_107
    replace hw := hw.2 g7
    refine r_tabdef (tgt := 108) hx hb dX9_count_22 (by decide) (fun v q1 q2 q3 => ?_) ?_
    · rcases (show v = 0 ∨ v = 1 ∨ v = 2 ∨ v = 3 ∨ v = 4 ∨ v = 5 ∨ v = 6 ∨ v = 7 by omega) with rfl | rfl | rfl | rfl | rfl | rfl | rfl | rfl
      · exact absurd (r_toI (v := 0) q3) g0
      · exact absurd (r_toI (v := 1) q3) g1
      · exact absurd (r_toI (v := 2) q3) g2
      · exact absurd (r_toI (v := 3) q3) g3
      · exact absurd (r_toI (v := 4) q3) g4
      · exact absurd (r_toI (v := 5) q3) g5
      · exact absurd (r_toI (v := 6) q3) g6
      · exact absurd (r_toI (v := 7) q3) g7
    refine lv_bipush (v := (-9)) hx hb dX9_count_108 (by decide) ?_
    exact r_iret hx hb hr hlk hK hG rfl hw dX9_count_110
  · replace hw := hw.2 hc
    refine lv_aload_n hx hb dX9_count_11 rfl (lv_at hl 0 rfl) ?_
    refine r_get (C := RX9) (T := TX9) (Nf := 31) hx hb hts hown hK hG (by decide) rfl rfl inX9 0 (by decide) qF_X9_7 rfl dX9_count_12 ?_
    refine lv_iload_n hx hb dX9_count_15 rfl (lv_at hl 1 rfl) ?_
    refine lv_bipush (v := 10) hx hb dX9_count_16 (by decide) ?_
    refine lv_isub hx hb dX9_count_18 ?_
    obtain ⟨hi, hw⟩ := hw
    refine r_iald hx hb hK hG (isB_1).1 ((isB_1).2 y _) hi dX9_count_19 ?_
    exact r_iret hx hb hr hlk hK hG rfl hw dX9_count_20
