theorem hd_X9_manyBy : yX9_manyBy.cls ≠ "java/lang/invoke/MethodHandle" ∧ yX9_manyBy.cls ≠ "java/lang/invoke/VarHandle" ∧ (parseMethodDescriptor yX9_manyBy.desc).map (fun d => d.parameters.length) = some 2 := by decide +kernel
set_option maxRecDepth 100000 in
set_option maxHeartbeats 4000000 in
theorem c_X9_manyBy (l : Launch) (y : Sy) (x1 : Int32) (x2 : Int32) (st : St) (K : Int32 → St → Prop) (hw : w_X9_manyBy x1 x2 st K) : Ci 17 enM l yX9_manyBy cX9_manyBy 4 (some .int) 6 137 y [.ref (ad y 0), .int x1, .int x2] st K := by
  refine ent (by decide) (Nat.le_of_ble_eq_true rfl) ?_
  intro p e s m below meth c C hG ls hl
  have hl : lv_has ls 4 [(0, .ref (ad y 0)), (1, .int x1), (2, .int x2)] := hl
  generalize ([.ref (ad y 0), .int x1, .int x2] : List Value).toArray = args at C ⊢
  have C : Sd p s m args meth c cX9_manyBy 4 RX9 (some .int) y := C
  obtain ⟨hx, hb, hml, hown, hts, hr, hlk, hK, hN⟩ := id C
  generalize s.heap = H at hG ⊢
  generalize ([] : List Loc) = locs at hG ⊢
  unfold w_X9_manyBy at hw
  refine lv_aload_n hx hb dX9_manyBy_0 rfl (lv_at hl 0 rfl) ?_
  refine lv_iload_n hx hb dX9_manyBy_1 rfl (lv_at hl 1 rfl) ?_
  refine lv_iconst (v := (-1)) hx hb dX9_manyBy_2 (by decide) ?_
  refine lv_ixor hx hb dX9_manyBy_3 ?_
  refine r_put (C := RX9) (T := TX9) (Nf := 31) hx hb hts hown hK hG (by decide) rfl rfl inX9 tyX9_ok nmX9 11 (by decide) qF_X9_171 rfl (x1 ^^^ (-1)) rfl rfl rfl (Nat.le_of_ble_eq_true rfl) dX9_manyBy_4 (fun H locs hG => ?_)
  refine lv_aload_n hx hb dX9_manyBy_7 rfl (lv_at hl 0 rfl) ?_
  refine lv_iload_n hx hb dX9_manyBy_8 rfl (lv_at hl 2 rfl) ?_
  refine r_ki (r_run_V (k := 0) (As := [.int x2]) (rest := []) hx hb hml hown hts hK hN hG (c_X9_openIn l y x2 (u2 st 0 11 (x1 ^^^ (-1))) _ hw) (by decide) rfl rfl rfl qM_X9_229 qI_X9_openIn qS_X9_openIn qN_X9 qC_X9_openIn hd_X9_openIn ⟨Nat.le_of_ble_eq_true rfl, Nat.le_of_ble_eq_true rfl⟩ hl.1 rfl (Nat.le_of_ble_eq_true rfl) dX9_manyBy_9) hG (fun r9 st9 H locs hw hG => ?_)
  refine r_ki (r_run_S (As := [.int r9]) (rest := []) hx hb hml hown hts hK hN hG (c_X9_bits l y r9 st9 _ hw) qM_X9_214 qT_X9_bits qN_X9 qC_X9_bits hd_X9_bits ⟨Nat.le_of_ble_eq_true rfl, Nat.le_of_ble_eq_true rfl⟩ hl.1 rfl (Nat.le_of_ble_eq_true rfl) dX9_manyBy_12) hG (fun r12 st12 H locs hw hG => ?_)
  refine lv_istore_n (lv' := [(3, .int r12), (0, .ref (ad y 0)), (1, .int x1), (2, .int x2)]) hx hb dX9_manyBy_15 rfl hl (Nat.le_of_ble_eq_true rfl) rfl (fun ls hl => ?_)
  refine lv_aload_n hx hb dX9_manyBy_16 rfl (lv_at hl 1 rfl) ?_
  refine lv_iconst (v := 0) hx hb dX9_manyBy_17 (by decide) ?_
  refine r_put (C := RX9) (T := TX9) (Nf := 31) hx hb hts hown hK hG (by decide) rfl rfl inX9 tyX9_ok nmX9 11 (by decide) qF_X9_171 rfl 0 rfl rfl rfl (Nat.le_of_ble_eq_true rfl) dX9_manyBy_18 (fun H locs hG => ?_)
  refine lv_iload_n hx hb dX9_manyBy_21 rfl (lv_at hl 0 rfl) ?_
  exact r_iret hx hb hr hlk hK hG rfl hw dX9_manyBy_22
set_option maxRecDepth 100000 in
set_option maxHeartbeats 4000000 in
theorem z_X9_payOfAll_b30 {p : Program} {e : Env} {s : State} {m : MethodId} {args : Array Value} {below : List Frame} {meth : Method} {c : Code} (l : Launch) (y : Sy) (x1 : Int32) (C : Sd p s m args meth c cX9_payOfAll 4 RX9 (some .int) y) (c4 : Int32 → Int32 → St → Prop) (K : Int32 → St → Prop) (hc4 : ∀ (v2 : Int32) (v3 : Int32) (st : St) (H : Heap) (locs : List Loc) (ls : Array Slot), gH 17 enM y st s H locs → lv_has ls 4 [(0, .ref (ad y 0)), (1, .int x1), (2, .int v2), (3, .int v3)] → c4 v2 v3 st → W p l e (rmm 1 21) s m args below meth c H locs 0 0 (MQ below (va_Qi K (gB 17 enM y) (gA 17 y)) args s 0 0 (gA 17 y)) (F0 m 4 ls [])) (v3 : Int32) (s0 : Int32) (s1 : Int32) (st : St) {H : Heap} {locs : List Loc} {ls : Array Slot} (hG : gH 17 enM y st s H locs) (hl : lv_has ls 4 [(0, .ref (ad y 0)), (1, .int x1), (3, .int v3)]) (hw : w_X9_payOfAll_b30 x1 c4 K v3 s0 s1 st) : W p l e (rmm 1 21) s m args below meth c H locs 0 0 (MQ below (va_Qi K (gB 17 enM y) (gA 17 y)) args s 0 0 (gA 17 y)) (F0 m 30 ls [.int s0, .int s1]) := by
  obtain ⟨hx, hb, hml, hown, hts, hr, hlk, hK, hN⟩ := id C
  unfold w_X9_payOfAll_b30 at hw
  refine lv_iadd hx hb dX9_payOfAll_30 ?_
  refine lv_istore_n (lv' := [(2, .int (s1 + s0)), (0, .ref (ad y 0)), (1, .int x1), (3, .int v3)]) hx hb dX9_payOfAll_31 rfl hl (Nat.le_of_ble_eq_true rfl) rfl (fun ls hl => ?_)
  refine lv_iinc (v := (v3 + 1)) (lv' := [(3, .int (v3 + 1)), (2, .int (s1 + s0)), (0, .ref (ad y 0)), (1, .int x1)]) hx hb dX9_payOfAll_32 hl (k := 3) rfl rfl (Nat.le_of_ble_eq_true rfl) rfl (fun ls hl => ?_)
  refine lv_goto (tgt := 4) hx hb dX9_payOfAll_35 (by decide) ?_
  exact hc4 (s1 + s0) (v3 + 1) st H locs _ hG (lv_sub hl [2, 3, 1, 0] rfl) hw
set_option maxRecDepth 100000 in
set_option maxHeartbeats 4000000 in
theorem z_X9_payOfAll_L4 {p : Program} {e : Env} {s : State} {m : MethodId} {args : Array Value} {below : List Frame} {meth : Method} {c : Code} (l : Launch) (y : Sy) (x1 : Int32) (C : Sd p s m args meth c cX9_payOfAll 4 RX9 (some .int) y)  (K : Int32 → St → Prop)  : ∀ (n : Nat) (v2 : Int32) (v3 : Int32) (st : St) (H : Heap) (locs : List Loc) (ls : Array Slot), gH 17 enM y st s H locs → lv_has ls 4 [(0, .ref (ad y 0)), (1, .int x1), (2, .int v2), (3, .int v3)] → w_X9_payOfAll_L4 x1  K n v2 v3 st → W p l e (rmm 1 21) s m args below meth c H locs 0 0 (MQ below (va_Qi K (gB 17 enM y) (gA 17 y)) args s 0 0 (gA 17 y)) (F0 m 4 ls []) := by
  obtain ⟨hx, hb, hml, hown, hts, hr, hlk, hK, hN⟩ := id C
  intro n
  induction n with
  | zero => intro v2 v3 st H locs ls hG hl hw; exact False.elim hw
  | succ n hc4 =>
    intro v2 v3 st H locs ls hG hl hw
    have hw : w_X9_payOfAll_L4q x1  K (fun v2 v3 st => w_X9_payOfAll_L4 x1  K n v2 v3 st) v2 v3 st := hw
    unfold w_X9_payOfAll_L4q at hw
    refine lv_iload_n hx hb dX9_payOfAll_4 rfl (lv_at hl 3 rfl) ?_
    refine lv_aload_n hx hb dX9_payOfAll_5 rfl (lv_at hl 0 rfl) ?_
    refine r_get (C := RX9) (T := TX9) (Nf := 31) hx hb hts hown hK hG (by decide) rfl rfl inX9 8 (by decide) qF_X9_65 rfl dX9_payOfAll_6 ?_
    refine lv_icmp_ge (tgt := 38) hx hb dX9_payOfAll_9 (by decide) (fun hc => ?_) (fun hc => ?_)
    · replace hw := hw.1 hc
      refine lv_iload_n hx hb dX9_payOfAll_38 rfl (lv_at hl 2 rfl) ?_
      exact r_iret hx hb hr hlk hK hG rfl hw dX9_payOfAll_39
    · replace hw := hw.2 hc
      refine lv_iload_n hx hb dX9_payOfAll_12 rfl (lv_at hl 2 rfl) ?_
      refine lv_iload_n hx hb dX9_payOfAll_13 rfl (lv_at hl 1 rfl) ?_
      refine lv_iload_n hx hb dX9_payOfAll_14 rfl (lv_at hl 3 rfl) ?_
      refine r_ki (r_run_S (As := [.int x1, .int v3]) (rest := [.int v2]) hx hb hml hown hts hK hN hG (c_X9_has l y x1 v3 st _ hw) qM_X9_174 qT_X9_has qN_X9 qC_X9_has hd_X9_has ⟨Nat.le_of_ble_eq_true rfl, Nat.le_of_ble_eq_true rfl⟩ hl.1 rfl (Nat.le_of_ble_eq_true rfl) dX9_payOfAll_15) hG (fun r15 st15 H locs hw hG => ?_)
      refine lv_if_eq (tgt := 29) hx hb dX9_payOfAll_18 (by decide) (fun hc => ?_) (fun hc => ?_)
      · replace hw := hw.1 hc
        refine lv_iconst (v := 0) hx hb dX9_payOfAll_29 (by decide) ?_
        exact z_X9_payOfAll_b30 l y x1 C (fun v2 v3 st => w_X9_payOfAll_L4 x1  K n v2 v3 st) K hc4 v3 0 v2 st15 hG (lv_sub hl [0, 1, 3] rfl) hw
      · replace hw := hw.2 hc
        refine lv_aload_n hx hb dX9_payOfAll_21 rfl (lv_at hl 0 rfl) ?_
        refine lv_iload_n hx hb dX9_payOfAll_22 rfl (lv_at hl 3 rfl) ?_
        refine r_ki (r_run_V (k := 0) (As := [.int v3]) (rest := [.int v2]) hx hb hml hown hts hK hN hG (c_X9_payOf l y v3 st15 _ hw) (by decide) rfl rfl rfl qM_X9_205 qI_X9_payOf qS_X9_payOf qN_X9 qC_X9_payOf hd_X9_payOf ⟨Nat.le_of_ble_eq_true rfl, Nat.le_of_ble_eq_true rfl⟩ hl.1 rfl (Nat.le_of_ble_eq_true rfl) dX9_payOfAll_23) hG (fun r23 st23 H locs hw hG => ?_)
        refine lv_goto (tgt := 30) hx hb dX9_payOfAll_26 (by decide) ?_
        exact z_X9_payOfAll_b30 l y x1 C (fun v2 v3 st => w_X9_payOfAll_L4 x1  K n v2 v3 st) K hc4 v3 r23 v2 st23 hG (lv_sub hl [0, 1, 3] rfl) hw
theorem hd_X9_payOfAll : yX9_payOfAll.cls ≠ "java/lang/invoke/MethodHandle" ∧ yX9_payOfAll.cls ≠ "java/lang/invoke/VarHandle" ∧ (parseMethodDescriptor yX9_payOfAll.desc).map (fun d => d.parameters.length) = some 1 := by decide +kernel
set_option maxRecDepth 100000 in
set_option maxHeartbeats 4000000 in
theorem c_X9_payOfAll (l : Launch) (y : Sy) (x1 : Int32) (st : St) (K : Int32 → St → Prop) (hw : w_X9_payOfAll x1 st K) : Ci 17 enM l yX9_payOfAll cX9_payOfAll 4 (some .int) 1 21 y [.ref (ad y 0), .int x1] st K := by
  refine ent (by decide) (Nat.le_of_ble_eq_true rfl) ?_
  intro p e s m below meth c C hG ls hl
  have hl : lv_has ls 4 [(0, .ref (ad y 0)), (1, .int x1)] := hl
  generalize ([.ref (ad y 0), .int x1] : List Value).toArray = args at C ⊢
  have C : Sd p s m args meth c cX9_payOfAll 4 RX9 (some .int) y := C
  obtain ⟨hx, hb, hml, hown, hts, hr, hlk, hK, hN⟩ := id C
  generalize s.heap = H at hG ⊢
  generalize ([] : List Loc) = locs at hG ⊢
  unfold w_X9_payOfAll at hw
  refine lv_iconst (v := 0) hx hb dX9_payOfAll_0 (by decide) ?_
  refine lv_istore_n (lv' := [(2, .int 0), (0, .ref (ad y 0)), (1, .int x1)]) hx hb dX9_payOfAll_1 rfl hl (Nat.le_of_ble_eq_true rfl) rfl (fun ls hl => ?_)
  refine lv_iconst (v := 0) hx hb dX9_payOfAll_2 (by decide) ?_
  refine lv_istore_n (lv' := [(3, .int 0), (2, .int 0), (0, .ref (ad y 0)), (1, .int x1)]) hx hb dX9_payOfAll_3 rfl hl (Nat.le_of_ble_eq_true rfl) rfl (fun ls hl => ?_)
  obtain ⟨n4, hw⟩ := hw
  exact z_X9_payOfAll_L4 l y x1 C  K  n4 0 0 st H locs _ hG (lv_sub hl [2, 3, 1, 0] rfl) hw
set_option maxRecDepth 100000 in
set_option maxHeartbeats 4000000 in
theorem z_X9_fewest_b89 {p : Program} {e : Env} {s : State} {m : MethodId} {args : Array Value} {below : List Frame} {meth : Method} {c : Code} (l : Launch) (y : Sy) (x1 : Int32) (x2 : Int32) (C : Sd p s m args meth c cX9_fewest 7 RX9 (some .int) y) (c55 : Int32 → Int32 → Int32 → St → Prop) (K : Int32 → St → Prop) (hc55 : ∀ (v4 : Int32) (v5 : Int32) (v6 : Int32) (st : St) (H : Heap) (locs : List Loc) (ls : Array Slot), gH 17 enM y st s H locs → lv_has ls 7 [(0, .ref (ad y 0)), (1, .int x1), (2, .int x2), (4, .int v4), (5, .int v5), (6, .int v6)] → c55 v4 v5 v6 st → W p l e (rmm 7 160) s m args below meth c H locs 0 0 (MQ below (va_Qi K (gB 17 enM y) (gA 17 y)) args s 0 0 (gA 17 y)) (F0 m 55 ls [])) (v4 : Int32) (v5 : Int32) (v6 : Int32) (st : St) {H : Heap} {locs : List Loc} {ls : Array Slot} (hG : gH 17 enM y st s H locs) (hl : lv_has ls 7 [(0, .ref (ad y 0)), (1, .int x1), (2, .int x2), (4, .int v4), (5, .int v5), (6, .int v6)]) (hw : w_X9_fewest_b89 x1 x2 c55 K v4 v5 v6 st) : W p l e (rmm 7 160) s m args below meth c H locs 0 0 (MQ below (va_Qi K (gB 17 enM y) (gA 17 y)) args s 0 0 (gA 17 y)) (F0 m 89 ls []) := by
  obtain ⟨hx, hb, hml, hown, hts, hr, hlk, hK, hN⟩ := id C
  unfold w_X9_fewest_b89 at hw
  refine lv_iinc (v := (v6 + (-1))) (lv' := [(6, .int (v6 + (-1))), (0, .ref (ad y 0)), (1, .int x1), (2, .int x2), (4, .int v4), (5, .int v5)]) hx hb dX9_fewest_89 hl (k := 5) rfl rfl (Nat.le_of_ble_eq_true rfl) rfl (fun ls hl => ?_)
  refine lv_goto (tgt := 55) hx hb dX9_fewest_92 (by decide) ?_
  exact hc55 v4 v5 (v6 + (-1)) st H locs _ hG (lv_sub hl [1, 2, 3, 4, 5, 0] rfl) hw
set_option maxRecDepth 100000 in
set_option maxHeartbeats 4000000 in
theorem z_X9_fewest_b95 {p : Program} {e : Env} {s : State} {m : MethodId} {args : Array Value} {below : List Frame} {meth : Method} {c : Code} (l : Launch) (y : Sy) (x1 : Int32) (x2 : Int32) (C : Sd p s m args meth c cX9_fewest 7 RX9 (some .int) y)  (K : Int32 → St → Prop)  (v5 : Int32) (st : St) {H : Heap} {locs : List Loc} {ls : Array Slot} (hG : gH 17 enM y st s H locs) (hl : lv_has ls 7 [(0, .ref (ad y 0)), (2, .int x2), (5, .int v5)]) (hw : w_X9_fewest_b95 x1 x2  K v5 st) : W p l e (rmm 7 160) s m args below meth c H locs 0 0 (MQ below (va_Qi K (gB 17 enM y) (gA 17 y)) args s 0 0 (gA 17 y)) (F0 m 95 ls []) := by
  obtain ⟨hx, hb, hml, hown, hts, hr, hlk, hK, hN⟩ := id C
  unfold w_X9_fewest_b95 at hw
  refine lv_iload_n hx hb dX9_fewest_95 rfl (lv_at hl 1 rfl) ?_
  refine lv_if_ne (tgt := 104) hx hb dX9_fewest_96 (by decide) (fun hc => ?_) (fun hc => ?_)
  · replace hw := hw.1 hc
    refine lv_aload_n hx hb dX9_fewest_104 rfl (lv_at hl 0 rfl) ?_
    refine lv_iload hx hb dX9_fewest_105 (lv_at hl 2 rfl) ?_
    refine r_ki (r_run_V (k := 0) (As := [.int v5]) (rest := []) hx hb hml hown hts hK hN hG (c_X9_payOfAll l y v5 st _ hw) (by decide) rfl rfl rfl qM_X9_259 qI_X9_payOfAll qS_X9_payOfAll qN_X9 qC_X9_payOfAll hd_X9_payOfAll ⟨Nat.le_of_ble_eq_true rfl, Nat.le_of_ble_eq_true rfl⟩ hl.1 rfl (Nat.le_of_ble_eq_true rfl) dX9_fewest_107) hG (fun r107 st107 H locs hw hG => ?_)
    exact r_iret hx hb hr hlk hK hG rfl hw dX9_fewest_110
  · replace hw := hw.2 hc
    refine lv_iload hx hb dX9_fewest_99 (lv_at hl 2 rfl) ?_
    refine lv_goto (tgt := 110) hx hb dX9_fewest_101 (by decide) ?_
    exact r_iret hx hb hr hlk hK hG rfl hw dX9_fewest_110
set_option maxRecDepth 100000 in
set_option maxHeartbeats 4000000 in
theorem z_X9_fewest_L55 {p : Program} {e : Env} {s : State} {m : MethodId} {args : Array Value} {below : List Frame} {meth : Method} {c : Code} (l : Launch) (y : Sy) (x1 : Int32) (x2 : Int32) (C : Sd p s m args meth c cX9_fewest 7 RX9 (some .int) y)  (K : Int32 → St → Prop)  : ∀ (n : Nat) (v4 : Int32) (v5 : Int32) (v6 : Int32) (st : St) (H : Heap) (locs : List Loc) (ls : Array Slot), gH 17 enM y st s H locs → lv_has ls 7 [(0, .ref (ad y 0)), (1, .int x1), (2, .int x2), (4, .int v4), (5, .int v5), (6, .int v6)] → w_X9_fewest_L55 x1 x2  K n v4 v5 v6 st → W p l e (rmm 7 160) s m args below meth c H locs 0 0 (MQ below (va_Qi K (gB 17 enM y) (gA 17 y)) args s 0 0 (gA 17 y)) (F0 m 55 ls []) := by
  obtain ⟨hx, hb, hml, hown, hts, hr, hlk, hK, hN⟩ := id C
  intro n
  induction n with
  | zero => intro v4 v5 v6 st H locs ls hG hl hw; exact False.elim hw
  | succ n hc55 =>
    intro v4 v5 v6 st H locs ls hG hl hw
    have hw : w_X9_fewest_L55q x1 x2  K (fun v4 v5 v6 st => w_X9_fewest_L55 x1 x2  K n v4 v5 v6 st) v4 v5 v6 st := hw
    unfold w_X9_fewest_L55q at hw
    refine lv_iload hx hb dX9_fewest_55 (lv_at hl 5 rfl) ?_
    refine lv_if_lt (tgt := 95) hx hb dX9_fewest_57 (by decide) (fun hc => ?_) (fun hc => ?_)
    · replace hw := hw.1 hc
      exact z_X9_fewest_b95 l y x1 x2 C  K  v5 st hG (lv_sub hl [0, 2, 4] rfl) hw
    · replace hw := hw.2 hc
      refine lv_iload hx hb dX9_fewest_60 (lv_at hl 5 rfl) ?_
      refine r_ki (r_run_S (As := [.int v6]) (rest := []) hx hb hml hown hts hK hN hG (c_X9_bits l y v6 st _ hw) qM_X9_214 qT_X9_bits qN_X9 qC_X9_bits hd_X9_bits ⟨Nat.le_of_ble_eq_true rfl, Nat.le_of_ble_eq_true rfl⟩ hl.1 rfl (Nat.le_of_ble_eq_true rfl) dX9_fewest_62) hG (fun r62 st62 H locs hw hG => ?_)
      refine lv_iload hx hb dX9_fewest_65 (lv_at hl 4 rfl) ?_
      refine r_ki (r_run_S (As := [.int v5]) (rest := [.int r62]) hx hb hml hown hts hK hN hG (c_X9_bits l y v5 st62 _ hw) qM_X9_214 qT_X9_bits qN_X9 qC_X9_bits hd_X9_bits ⟨Nat.le_of_ble_eq_true rfl, Nat.le_of_ble_eq_true rfl⟩ hl.1 rfl (Nat.le_of_ble_eq_true rfl) dX9_fewest_67) hG (fun r67 st67 H locs hw hG => ?_)
      refine lv_icmp_gt (tgt := 89) hx hb dX9_fewest_70 (by decide) (fun hc => ?_) (fun hc => ?_)
      · replace hw := hw.1 hc
        exact z_X9_fewest_b89 l y x1 x2 C (fun v4 v5 v6 st => w_X9_fewest_L55 x1 x2  K n v4 v5 v6 st) K hc55 v4 v5 v6 st67 hG (lv_sub hl [0, 1, 2, 3, 4, 5] rfl) hw
      · replace hw := hw.2 hc
        refine lv_aload_n hx hb dX9_fewest_73 rfl (lv_at hl 0 rfl) ?_
        refine lv_iload hx hb dX9_fewest_74 (lv_at hl 5 rfl) ?_
        refine lv_iload_n hx hb dX9_fewest_76 rfl (lv_at hl 1 rfl) ?_
        refine r_ki (r_run_V (k := 0) (As := [.int v6, .int x1]) (rest := []) hx hb hml hown hts hK hN hG (c_X9_manyBy l y v6 x1 st67 _ hw) (by decide) rfl rfl rfl qM_X9_256 qI_X9_manyBy qS_X9_manyBy qN_X9 qC_X9_manyBy hd_X9_manyBy ⟨Nat.le_of_ble_eq_true rfl, Nat.le_of_ble_eq_true rfl⟩ hl.1 rfl (Nat.le_of_ble_eq_true rfl) dX9_fewest_77) hG (fun r77 st77 H locs hw hG => ?_)
        refine lv_iload hx hb dX9_fewest_80 (lv_at hl 3 rfl) ?_
        refine lv_icmp_lt (tgt := 89) hx hb dX9_fewest_82 (by decide) (fun hc => ?_) (fun hc => ?_)
        · replace hw := hw.1 hc
          exact z_X9_fewest_b89 l y x1 x2 C (fun v4 v5 v6 st => w_X9_fewest_L55 x1 x2  K n v4 v5 v6 st) K hc55 v4 v5 v6 st77 hG (lv_sub hl [0, 1, 2, 3, 4, 5] rfl) hw
        · replace hw := hw.2 hc
          refine lv_iload hx hb dX9_fewest_85 (lv_at hl 5 rfl) ?_
          refine lv_istore (lv' := [(5, .int v6), (0, .ref (ad y 0)), (1, .int x1), (2, .int x2), (4, .int v4), (6, .int v6)]) hx hb dX9_fewest_87 hl (Nat.le_of_ble_eq_true rfl) rfl (fun ls hl => ?_)
          exact z_X9_fewest_b89 l y x1 x2 C (fun v4 v5 v6 st => w_X9_fewest_L55 x1 x2  K n v4 v5 v6 st) K hc55 v4 v6 v6 st77 hG (lv_sub hl [1, 2, 3, 4, 0, 5] rfl) hw
set_option maxRecDepth 100000 in
set_option maxHeartbeats 4000000 in
theorem z_X9_fewest_b21 {p : Program} {e : Env} {s : State} {m : MethodId} {args : Array Value} {below : List Frame} {meth : Method} {c : Code} (l : Launch) (y : Sy) (x1 : Int32) (x2 : Int32) (C : Sd p s m args meth c cX9_fewest 7 RX9 (some .int) y)  (K : Int32 → St → Prop)  (v3 : Int32) (st : St) {H : Heap} {locs : List Loc} {ls : Array Slot} (hG : gH 17 enM y st s H locs) (hl : lv_has ls 7 [(0, .ref (ad y 0)), (1, .int x1), (2, .int x2), (3, .int v3)]) (hw : w_X9_fewest_b21 x1 x2  K v3 st) : W p l e (rmm 7 160) s m args below meth c H locs 0 0 (MQ below (va_Qi K (gB 17 enM y) (gA 17 y)) args s 0 0 (gA 17 y)) (F0 m 21 ls []) := by
  obtain ⟨hx, hb, hml, hown, hts, hr, hlk, hK, hN⟩ := id C
  unfold w_X9_fewest_b21 at hw
  refine lv_iload_n hx hb dX9_fewest_21 rfl (lv_at hl 3 rfl) ?_
  refine lv_if_eq (tgt := 31) hx hb dX9_fewest_22 (by decide) (fun hc => ?_) (fun hc => ?_)
  · replace hw := hw.1 hc
    refine lv_aload_n hx hb dX9_fewest_31 rfl (lv_at hl 0 rfl) ?_
    refine lv_iload_n hx hb dX9_fewest_32 rfl (lv_at hl 1 rfl) ?_
    refine r_ki (r_run_V (k := 0) (As := [.int x1]) (rest := []) hx hb hml hown hts hK hN hG (c_X9_openIn l y x1 st _ hw) (by decide) rfl rfl rfl qM_X9_229 qI_X9_openIn qS_X9_openIn qN_X9 qC_X9_openIn hd_X9_openIn ⟨Nat.le_of_ble_eq_true rfl, Nat.le_of_ble_eq_true rfl⟩ hl.1 rfl (Nat.le_of_ble_eq_true rfl) dX9_fewest_33) hG (fun r33 st33 H locs hw hG => ?_)
    refine r_ki (r_run_S (As := [.int r33]) (rest := []) hx hb hml hown hts hK hN hG (c_X9_bits l y r33 st33 _ hw) qM_X9_214 qT_X9_bits qN_X9 qC_X9_bits hd_X9_bits ⟨Nat.le_of_ble_eq_true rfl, Nat.le_of_ble_eq_true rfl⟩ hl.1 rfl (Nat.le_of_ble_eq_true rfl) dX9_fewest_36) hG (fun r36 st36 H locs hw hG => ?_)
    refine lv_istore (lv' := [(4, .int r36), (0, .ref (ad y 0)), (1, .int x1), (2, .int x2), (3, .int v3)]) hx hb dX9_fewest_39 hl (Nat.le_of_ble_eq_true rfl) rfl (fun ls hl => ?_)
    refine lv_iconst (v := 1) hx hb dX9_fewest_41 (by decide) ?_
    refine lv_aload_n hx hb dX9_fewest_42 rfl (lv_at hl 1 rfl) ?_
    refine r_get (C := RX9) (T := TX9) (Nf := 31) hx hb hts hown hK hG (by decide) rfl rfl inX9 8 (by decide) qF_X9_65 rfl dX9_fewest_43 ?_
    refine lv_ishl hx hb dX9_fewest_46 ?_
    refine lv_iconst (v := 1) hx hb dX9_fewest_47 (by decide) ?_
    refine lv_isub hx hb dX9_fewest_48 ?_
    refine lv_istore (lv' := [(5, .int (((1 : Int32) <<< ((st36 0 8) &&& 31)) - 1)), (4, .int r36), (0, .ref (ad y 0)), (1, .int x1), (2, .int x2), (3, .int v3)]) hx hb dX9_fewest_49 hl (Nat.le_of_ble_eq_true rfl) rfl (fun ls hl => ?_)
    refine lv_iload hx hb dX9_fewest_51 (lv_at hl 0 rfl) ?_
    refine lv_istore (lv' := [(6, .int (((1 : Int32) <<< ((st36 0 8) &&& 31)) - 1)), (5, .int (((1 : Int32) <<< ((st36 0 8) &&& 31)) - 1)), (4, .int r36), (0, .ref (ad y 0)), (1, .int x1), (2, .int x2), (3, .int v3)]) hx hb dX9_fewest_53 hl (Nat.le_of_ble_eq_true rfl) rfl (fun ls hl => ?_)
    obtain ⟨n55, hw⟩ := hw
    exact z_X9_fewest_L55 l y x1 x2 C  K  n55 r36 (((1 : Int32) <<< ((st36 0 8) &&& 31)) - 1) (((1 : Int32) <<< ((st36 0 8) &&& 31)) - 1) st36 H locs _ hG (lv_sub hl [3, 4, 5, 2, 1, 0] rfl) hw
  · replace hw := hw.2 hc
    refine lv_aload_n hx hb dX9_fewest_25 rfl (lv_at hl 0 rfl) ?_
    refine lv_iload_n hx hb dX9_fewest_26 rfl (lv_at hl 3 rfl) ?_
    refine r_ki (r_run_V (k := 0) (As := [.int v3]) (rest := []) hx hb hml hown hts hK hN hG (c_X9_no l y v3 st _ hw) (by decide) rfl rfl rfl qM_X9_79 qI_X9_no qS_X9_no qN_X9 qC_X9_no hd_X9_no ⟨Nat.le_of_ble_eq_true rfl, Nat.le_of_ble_eq_true rfl⟩ hl.1 rfl (Nat.le_of_ble_eq_true rfl) dX9_fewest_27) hG (fun r27 st27 H locs hw hG => ?_)
    exact r_iret hx hb hr hlk hK hG rfl hw dX9_fewest_30
theorem hd_X9_fewest : yX9_fewest.cls ≠ "java/lang/invoke/MethodHandle" ∧ yX9_fewest.cls ≠ "java/lang/invoke/VarHandle" ∧ (parseMethodDescriptor yX9_fewest.desc).map (fun d => d.parameters.length) = some 2 := by decide +kernel
set_option maxRecDepth 100000 in
set_option maxHeartbeats 4000000 in
theorem c_X9_fewest (l : Launch) (y : Sy) (x1 : Int32) (x2 : Int32) (st : St) (K : Int32 → St → Prop) (hw : w_X9_fewest x1 x2 st K) : Ci 17 enM l yX9_fewest cX9_fewest 7 (some .int) 7 160 y [.ref (ad y 0), .int x1, .int x2] st K := by
  refine ent (by decide) (Nat.le_of_ble_eq_true rfl) ?_
  intro p e s m below meth c C hG ls hl
  have hl : lv_has ls 7 [(0, .ref (ad y 0)), (1, .int x1), (2, .int x2)] := hl
  generalize ([.ref (ad y 0), .int x1, .int x2] : List Value).toArray = args at C ⊢
  have C : Sd p s m args meth c cX9_fewest 7 RX9 (some .int) y := C
  obtain ⟨hx, hb, hml, hown, hts, hr, hlk, hK, hN⟩ := id C
  generalize s.heap = H at hG ⊢
  generalize ([] : List Loc) = locs at hG ⊢
  unfold w_X9_fewest at hw
  refine lv_iload_n hx hb dX9_fewest_0 rfl (lv_at hl 1 rfl) ?_
  refine r_ki (r_run_S (As := [.int x1]) (rest := []) hx hb hml hown hts hK hN hG (c_X9_notWeeks l y x1 st _ hw) qM_X9_223 qT_X9_notWeeks qN_X9 qC_X9_notWeeks hd_X9_notWeeks ⟨Nat.le_of_ble_eq_true rfl, Nat.le_of_ble_eq_true rfl⟩ hl.1 rfl (Nat.le_of_ble_eq_true rfl) dX9_fewest_1) hG (fun r1 st1 H locs hw hG => ?_)
  refine lv_istore_n (lv' := [(3, .int r1), (0, .ref (ad y 0)), (1, .int x1), (2, .int x2)]) hx hb dX9_fewest_4 rfl hl (Nat.le_of_ble_eq_true rfl) rfl (fun ls hl => ?_)
  refine lv_iload_n hx hb dX9_fewest_5 rfl (lv_at hl 0 rfl) ?_
  refine lv_if_ne (tgt := 21) hx hb dX9_fewest_6 (by decide) (fun hc => ?_) (fun hc => ?_)
  · replace hw := hw.1 hc
    exact z_X9_fewest_b21 l y x1 x2 C  K  r1 st1 hG (lv_sub hl [1, 2, 3, 0] rfl) hw
  · replace hw := hw.2 hc
    refine lv_iload_n hx hb dX9_fewest_9 rfl (lv_at hl 3 rfl) ?_
    refine lv_iconst (v := 0) hx hb dX9_fewest_10 (by decide) ?_
    refine lv_iconst (v := 1) hx hb dX9_fewest_11 (by decide) ?_
    refine r_ki (r_run_S (As := [.int x2, .int 0, .int 1]) (rest := []) hx hb hml hown hts hK hN hG (c_X9_isIn l y x2 0 1 st1 _ hw) qM_X9_90 qT_X9_isIn qN_X9 qC_X9_isIn hd_X9_isIn ⟨Nat.le_of_ble_eq_true rfl, Nat.le_of_ble_eq_true rfl⟩ hl.1 rfl (Nat.le_of_ble_eq_true rfl) dX9_fewest_12) hG (fun r12 st12 H locs hw hG => ?_)
    refine lv_if_ne (tgt := 21) hx hb dX9_fewest_15 (by decide) (fun hc => ?_) (fun hc => ?_)
    · replace hw := hw.1 hc
      exact z_X9_fewest_b21 l y x1 x2 C  K  r1 st12 hG (lv_sub hl [1, 2, 3, 0] rfl) hw
    · replace hw := hw.2 hc
      refine lv_bipush (v := (-2)) hx hb dX9_fewest_18 (by decide) ?_
      refine lv_istore_n (lv' := [(3, .int (-2)), (0, .ref (ad y 0)), (1, .int x1), (2, .int x2)]) hx hb dX9_fewest_20 rfl hl (Nat.le_of_ble_eq_true rfl) rfl (fun ls hl => ?_)
      exact z_X9_fewest_b21 l y x1 x2 C  K  (-2) st12 hG (lv_sub hl [1, 2, 3, 0] rfl) hw
set_option maxRecDepth 100000 in
set_option maxHeartbeats 4000000 in
theorem z_X9_keepersIn_b30 {p : Program} {e : Env} {s : State} {m : MethodId} {args : Array Value} {below : List Frame} {meth : Method} {c : Code} (l : Launch) (y : Sy) (x1 : Int32) (C : Sd p s m args meth c cX9_keepersIn 4 RX9 (some .int) y) (c4 : Int32 → Int32 → St → Prop) (K : Int32 → St → Prop) (hc4 : ∀ (v2 : Int32) (v3 : Int32) (st : St) (H : Heap) (locs : List Loc) (ls : Array Slot), gH 17 enM y st s H locs → lv_has ls 4 [(0, .ref (ad y 0)), (1, .int x1), (2, .int v2), (3, .int v3)] → c4 v2 v3 st → W p l e (rmm 0 0) s m args below meth c H locs 0 0 (MQ below (va_Qi K (gB 17 enM y) (gA 17 y)) args s 0 0 (gA 17 y)) (F0 m 4 ls [])) (v3 : Int32) (s0 : Int32) (s1 : Int32) (st : St) {H : Heap} {locs : List Loc} {ls : Array Slot} (hG : gH 17 enM y st s H locs) (hl : lv_has ls 4 [(0, .ref (ad y 0)), (1, .int x1), (3, .int v3)]) (hw : w_X9_keepersIn_b30 x1 c4 K v3 s0 s1 st) : W p l e (rmm 0 0) s m args below meth c H locs 0 0 (MQ below (va_Qi K (gB 17 enM y) (gA 17 y)) args s 0 0 (gA 17 y)) (F0 m 30 ls [.int s0, .int s1]) := by
  obtain ⟨hx, hb, hml, hown, hts, hr, hlk, hK, hN⟩ := id C
  unfold w_X9_keepersIn_b30 at hw
  refine lv_ior hx hb dX9_keepersIn_30 ?_
  refine lv_istore_n (lv' := [(2, .int (s1 ||| s0)), (0, .ref (ad y 0)), (1, .int x1), (3, .int v3)]) hx hb dX9_keepersIn_31 rfl hl (Nat.le_of_ble_eq_true rfl) rfl (fun ls hl => ?_)
  refine lv_iinc (v := (v3 + 1)) (lv' := [(3, .int (v3 + 1)), (2, .int (s1 ||| s0)), (0, .ref (ad y 0)), (1, .int x1)]) hx hb dX9_keepersIn_32 hl (k := 3) rfl rfl (Nat.le_of_ble_eq_true rfl) rfl (fun ls hl => ?_)
  refine lv_goto (tgt := 4) hx hb dX9_keepersIn_35 (by decide) ?_
  exact hc4 (s1 ||| s0) (v3 + 1) st H locs _ hG (lv_sub hl [2, 3, 1, 0] rfl) hw
set_option maxRecDepth 100000 in
set_option maxHeartbeats 4000000 in
theorem z_X9_keepersIn_L4 {p : Program} {e : Env} {s : State} {m : MethodId} {args : Array Value} {below : List Frame} {meth : Method} {c : Code} (l : Launch) (y : Sy) (x1 : Int32) (C : Sd p s m args meth c cX9_keepersIn 4 RX9 (some .int) y)  (K : Int32 → St → Prop)  : ∀ (n : Nat) (v2 : Int32) (v3 : Int32) (st : St) (H : Heap) (locs : List Loc) (ls : Array Slot), gH 17 enM y st s H locs → lv_has ls 4 [(0, .ref (ad y 0)), (1, .int x1), (2, .int v2), (3, .int v3)] → w_X9_keepersIn_L4 x1  K n v2 v3 st → W p l e (rmm 0 0) s m args below meth c H locs 0 0 (MQ below (va_Qi K (gB 17 enM y) (gA 17 y)) args s 0 0 (gA 17 y)) (F0 m 4 ls []) := by
  obtain ⟨hx, hb, hml, hown, hts, hr, hlk, hK, hN⟩ := id C
  intro n
  induction n with
  | zero => intro v2 v3 st H locs ls hG hl hw; exact False.elim hw
  | succ n hc4 =>
    intro v2 v3 st H locs ls hG hl hw
    have hw : w_X9_keepersIn_L4q x1  K (fun v2 v3 st => w_X9_keepersIn_L4 x1  K n v2 v3 st) v2 v3 st := hw
    unfold w_X9_keepersIn_L4q at hw
    refine lv_iload_n hx hb dX9_keepersIn_4 rfl (lv_at hl 3 rfl) ?_
    refine lv_aload_n hx hb dX9_keepersIn_5 rfl (lv_at hl 0 rfl) ?_
    refine r_get (C := RX9) (T := TX9) (Nf := 31) hx hb hts hown hK hG (by decide) rfl rfl inX9 8 (by decide) qF_X9_65 rfl dX9_keepersIn_6 ?_
    refine lv_icmp_ge (tgt := 38) hx hb dX9_keepersIn_9 (by decide) (fun hc => ?_) (fun hc => ?_)
    · replace hw := hw.1 hc
      refine lv_iload_n hx hb dX9_keepersIn_38 rfl (lv_at hl 2 rfl) ?_
      exact r_iret hx hb hr hlk hK hG rfl hw dX9_keepersIn_39
    · replace hw := hw.2 hc
      refine lv_iload_n hx hb dX9_keepersIn_12 rfl (lv_at hl 2 rfl) ?_
      refine lv_aload_n hx hb dX9_keepersIn_13 rfl (lv_at hl 0 rfl) ?_
      refine r_get (C := RX9) (T := TX9) (Nf := 31) hx hb hts hown hK hG (by decide) rfl rfl inX9 3 (by decide) qF_X9_19 rfl dX9_keepersIn_14 ?_
      refine lv_iload_n hx hb dX9_keepersIn_17 rfl (lv_at hl 3 rfl) ?_
      obtain ⟨hi, hw⟩ := hw
      refine r_iald hx hb hK hG (isB_4).1 ((isB_4).2 y _) hi dX9_keepersIn_18 ?_
      refine lv_iload_n hx hb dX9_keepersIn_19 rfl (lv_at hl 1 rfl) ?_
      refine lv_icmp_ne (tgt := 29) hx hb dX9_keepersIn_20 (by decide) (fun hc => ?_) (fun hc => ?_)
      · replace hw := hw.1 hc
        refine lv_iconst (v := 0) hx hb dX9_keepersIn_29 (by decide) ?_
        exact z_X9_keepersIn_b30 l y x1 C (fun v2 v3 st => w_X9_keepersIn_L4 x1  K n v2 v3 st) K hc4 v3 0 v2 st hG (lv_sub hl [0, 1, 3] rfl) hw
      · replace hw := hw.2 hc
        refine lv_iconst (v := 1) hx hb dX9_keepersIn_23 (by decide) ?_
        refine lv_iload_n hx hb dX9_keepersIn_24 rfl (lv_at hl 3 rfl) ?_
        refine lv_ishl hx hb dX9_keepersIn_25 ?_
        refine lv_goto (tgt := 30) hx hb dX9_keepersIn_26 (by decide) ?_
        exact z_X9_keepersIn_b30 l y x1 C (fun v2 v3 st => w_X9_keepersIn_L4 x1  K n v2 v3 st) K hc4 v3 ((1 : Int32) <<< (v3 &&& 31)) v2 st hG (lv_sub hl [0, 1, 3] rfl) hw
theorem hd_X9_keepersIn : yX9_keepersIn.cls ≠ "java/lang/invoke/MethodHandle" ∧ yX9_keepersIn.cls ≠ "java/lang/invoke/VarHandle" ∧ (parseMethodDescriptor yX9_keepersIn.desc).map (fun d => d.parameters.length) = some 1 := by decide +kernel
set_option maxRecDepth 100000 in
set_option maxHeartbeats 4000000 in
theorem c_X9_keepersIn (l : Launch) (y : Sy) (x1 : Int32) (st : St) (K : Int32 → St → Prop) (hw : w_X9_keepersIn x1 st K) : Ci 17 enM l yX9_keepersIn cX9_keepersIn 4 (some .int) 0 0 y [.ref (ad y 0), .int x1] st K := by
  refine ent (by decide) (Nat.le_of_ble_eq_true rfl) ?_
  intro p e s m below meth c C hG ls hl
  have hl : lv_has ls 4 [(0, .ref (ad y 0)), (1, .int x1)] := hl
  generalize ([.ref (ad y 0), .int x1] : List Value).toArray = args at C ⊢
  have C : Sd p s m args meth c cX9_keepersIn 4 RX9 (some .int) y := C
  obtain ⟨hx, hb, hml, hown, hts, hr, hlk, hK, hN⟩ := id C
  generalize s.heap = H at hG ⊢
  generalize ([] : List Loc) = locs at hG ⊢
  unfold w_X9_keepersIn at hw
  refine lv_iconst (v := 0) hx hb dX9_keepersIn_0 (by decide) ?_
  refine lv_istore_n (lv' := [(2, .int 0), (0, .ref (ad y 0)), (1, .int x1)]) hx hb dX9_keepersIn_1 rfl hl (Nat.le_of_ble_eq_true rfl) rfl (fun ls hl => ?_)
  refine lv_iconst (v := 0) hx hb dX9_keepersIn_2 (by decide) ?_
  refine lv_istore_n (lv' := [(3, .int 0), (2, .int 0), (0, .ref (ad y 0)), (1, .int x1)]) hx hb dX9_keepersIn_3 rfl hl (Nat.le_of_ble_eq_true rfl) rfl (fun ls hl => ?_)
  obtain ⟨n4, hw⟩ := hw
  exact z_X9_keepersIn_L4 l y x1 C  K  n4 0 0 st H locs _ hG (lv_sub hl [2, 3, 1, 0] rfl) hw
set_option maxRecDepth 100000 in
set_option maxHeartbeats 4000000 in
theorem z_X9_pay_b47 {p : Program} {e : Env} {s : State} {m : MethodId} {args : Array Value} {below : List Frame} {meth : Method} {c : Code} (l : Launch) (y : Sy) (x1 : Int32) (x2 : Int32) (C : Sd p s m args meth c cX9_pay 4 RX9 (some .int) y)  (K : Int32 → St → Prop)  (s0 : Int32) (s2 : Int32) (st : St) {H : Heap} {locs : List Loc} {ls : Array Slot} (hG : gH 17 enM y st s H locs) (hl : lv_has ls 4 []) (hw : w_X9_pay_b47 x1 x2  K s0 s2 st) : W p l e (rmm 2 44) s m args below meth c H locs 0 0 (MQ below (va_Qi K (gB 17 enM y) (gA 17 y)) args s 0 0 (gA 17 y)) (F0 m 47 ls [.int s0, .ref (ad y 0), .int s2]) := by
  obtain ⟨hx, hb, hml, hown, hts, hr, hlk, hK, hN⟩ := id C
  unfold w_X9_pay_b47 at hw
  refine r_ki (r_run_V (k := 0) (As := [.int s0]) (rest := [.int s2]) hx hb hml hown hts hK hN hG (c_X9_payOfAll l y s0 st _ hw) (by decide) rfl rfl rfl qM_X9_259 qI_X9_payOfAll qS_X9_payOfAll qN_X9 qC_X9_payOfAll hd_X9_payOfAll ⟨Nat.le_of_ble_eq_true rfl, Nat.le_of_ble_eq_true rfl⟩ hl.1 rfl (Nat.le_of_ble_eq_true rfl) dX9_pay_47) hG (fun r47 st47 H locs hw hG => ?_)
  refine lv_imul hx hb dX9_pay_50 ?_
  exact r_iret hx hb hr hlk hK hG rfl hw dX9_pay_51
set_option maxRecDepth 100000 in
set_option maxHeartbeats 4000000 in
theorem z_X9_pay_b20 {p : Program} {e : Env} {s : State} {m : MethodId} {args : Array Value} {below : List Frame} {meth : Method} {c : Code} (l : Launch) (y : Sy) (x1 : Int32) (x2 : Int32) (C : Sd p s m args meth c cX9_pay 4 RX9 (some .int) y)  (K : Int32 → St → Prop)  (s0 : Int32) (st : St) {H : Heap} {locs : List Loc} {ls : Array Slot} (hG : gH 17 enM y st s H locs) (hl : lv_has ls 4 [(0, .ref (ad y 0)), (1, .int x1), (2, .int x2)]) (hw : w_X9_pay_b20 x1 x2  K s0 st) : W p l e (rmm 2 44) s m args below meth c H locs 0 0 (MQ below (va_Qi K (gB 17 enM y) (gA 17 y)) args s 0 0 (gA 17 y)) (F0 m 20 ls [.int s0]) := by
  obtain ⟨hx, hb, hml, hown, hts, hr, hlk, hK, hN⟩ := id C
  unfold w_X9_pay_b20 at hw
  refine lv_istore_n (lv' := [(3, .int s0), (0, .ref (ad y 0)), (1, .int x1), (2, .int x2)]) hx hb dX9_pay_20 rfl hl (Nat.le_of_ble_eq_true rfl) rfl (fun ls hl => ?_)
  refine lv_iload_n hx hb dX9_pay_21 rfl (lv_at hl 0 rfl) ?_
  refine lv_if_eq (tgt := 31) hx hb dX9_pay_22 (by decide) (fun hc => ?_) (fun hc => ?_)
  · replace hw := hw.1 hc
    refine lv_iload_n hx hb dX9_pay_31 rfl (lv_at hl 3 rfl) ?_
    refine lv_aload_n hx hb dX9_pay_32 rfl (lv_at hl 1 rfl) ?_
    refine lv_iload_n hx hb dX9_pay_33 rfl (lv_at hl 2 rfl) ?_
    refine lv_if_ge (tgt := 42) hx hb dX9_pay_34 (by decide) (fun hc => ?_) (fun hc => ?_)
    · replace hw := hw.1 hc
      refine lv_aload_n hx hb dX9_pay_42 rfl (lv_at hl 1 rfl) ?_
      refine lv_iload_n hx hb dX9_pay_43 rfl (lv_at hl 2 rfl) ?_
      refine r_ki (r_run_V (k := 0) (As := [.int x1]) (rest := [.ref (ad y 0), .int x2]) hx hb hml hown hts hK hN hG (c_X9_keepersIn l y x1 st _ hw) (by decide) rfl rfl rfl qM_X9_262 qI_X9_keepersIn qS_X9_keepersIn qN_X9 qC_X9_keepersIn hd_X9_keepersIn ⟨Nat.le_of_ble_eq_true rfl, Nat.le_of_ble_eq_true rfl⟩ hl.1 rfl (Nat.le_of_ble_eq_true rfl) dX9_pay_44) hG (fun r44 st44 H locs hw hG => ?_)
      exact z_X9_pay_b47 l y x1 x2 C  K  r44 x2 st44 hG (lv_sub hl [] rfl) hw
    · replace hw := hw.2 hc
      refine lv_bipush (v := 63) hx hb dX9_pay_37 (by decide) ?_
      refine lv_goto (tgt := 47) hx hb dX9_pay_39 (by decide) ?_
      exact z_X9_pay_b47 l y x1 x2 C  K  63 x2 st hG (lv_sub hl [] rfl) hw
  · replace hw := hw.2 hc
    refine lv_aload_n hx hb dX9_pay_25 rfl (lv_at hl 1 rfl) ?_
    refine lv_iload_n hx hb dX9_pay_26 rfl (lv_at hl 0 rfl) ?_
    refine r_ki (r_run_V (k := 0) (As := [.int s0]) (rest := []) hx hb hml hown hts hK hN hG (c_X9_no l y s0 st _ hw) (by decide) rfl rfl rfl qM_X9_79 qI_X9_no qS_X9_no qN_X9 qC_X9_no hd_X9_no ⟨Nat.le_of_ble_eq_true rfl, Nat.le_of_ble_eq_true rfl⟩ hl.1 rfl (Nat.le_of_ble_eq_true rfl) dX9_pay_27) hG (fun r27 st27 H locs hw hG => ?_)
    exact r_iret hx hb hr hlk hK hG rfl hw dX9_pay_30
set_option maxRecDepth 100000 in
set_option maxHeartbeats 4000000 in
theorem z_X9_pay_b16 {p : Program} {e : Env} {s : State} {m : MethodId} {args : Array Value} {below : List Frame} {meth : Method} {c : Code} (l : Launch) (y : Sy) (x1 : Int32) (x2 : Int32) (C : Sd p s m args meth c cX9_pay 4 RX9 (some .int) y)  (K : Int32 → St → Prop)   (st : St) {H : Heap} {locs : List Loc} {ls : Array Slot} (hG : gH 17 enM y st s H locs) (hl : lv_has ls 4 [(0, .ref (ad y 0)), (1, .int x1), (2, .int x2)]) (hw : w_X9_pay_b16 x1 x2  K  st) : W p l e (rmm 2 44) s m args below meth c H locs 0 0 (MQ below (va_Qi K (gB 17 enM y) (gA 17 y)) args s 0 0 (gA 17 y)) (F0 m 16 ls []) := by
  obtain ⟨hx, hb, hml, hown, hts, hr, hlk, hK, hN⟩ := id C
  unfold w_X9_pay_b16 at hw
  refine lv_iload_n hx hb dX9_pay_16 rfl (lv_at hl 2 rfl) ?_
  refine r_ki (r_run_S (As := [.int x2]) (rest := []) hx hb hml hown hts hK hN hG (c_X9_notWeeks l y x2 st _ hw) qM_X9_223 qT_X9_notWeeks qN_X9 qC_X9_notWeeks hd_X9_notWeeks ⟨Nat.le_of_ble_eq_true rfl, Nat.le_of_ble_eq_true rfl⟩ hl.1 rfl (Nat.le_of_ble_eq_true rfl) dX9_pay_17) hG (fun r17 st17 H locs hw hG => ?_)
  exact z_X9_pay_b20 l y x1 x2 C  K  r17 st17 hG (lv_sub hl [0, 1, 2] rfl) hw
theorem hd_X9_pay : yX9_pay.cls ≠ "java/lang/invoke/MethodHandle" ∧ yX9_pay.cls ≠ "java/lang/invoke/VarHandle" ∧ (parseMethodDescriptor yX9_pay.desc).map (fun d => d.parameters.length) = some 2 := by decide +kernel
set_option maxRecDepth 100000 in
set_option maxHeartbeats 4000000 in
theorem c_X9_pay (l : Launch) (y : Sy) (x1 : Int32) (x2 : Int32) (st : St) (K : Int32 → St → Prop) (hw : w_X9_pay x1 x2 st K) : Ci 17 enM l yX9_pay cX9_pay 4 (some .int) 2 44 y [.ref (ad y 0), .int x1, .int x2] st K := by
  refine ent (by decide) (Nat.le_of_ble_eq_true rfl) ?_
  intro p e s m below meth c C hG ls hl
  have hl : lv_has ls 4 [(0, .ref (ad y 0)), (1, .int x1), (2, .int x2)] := hl
  generalize ([.ref (ad y 0), .int x1, .int x2] : List Value).toArray = args at C ⊢
  have C : Sd p s m args meth c cX9_pay 4 RX9 (some .int) y := C
  obtain ⟨hx, hb, hml, hown, hts, hr, hlk, hK, hN⟩ := id C
  generalize s.heap = H at hG ⊢
  generalize ([] : List Loc) = locs at hG ⊢
  unfold w_X9_pay at hw
  refine lv_iload_n hx hb dX9_pay_0 rfl (lv_at hl 1 rfl) ?_
  refine lv_iconst (v := (-1)) hx hb dX9_pay_1 (by decide) ?_
  refine lv_icmp_eq (tgt := 16) hx hb dX9_pay_2 (by decide) (fun hc => ?_) (fun hc => ?_)
  · replace hw := hw.1 hc
    exact z_X9_pay_b16 l y x1 x2 C  K  st hG (lv_sub hl [0, 1, 2] rfl) hw
  · replace hw := hw.2 hc
    refine lv_iload_n hx hb dX9_pay_5 rfl (lv_at hl 1 rfl) ?_
    refine r_ki (r_run_S (As := [.int x1]) (rest := []) hx hb hml hown hts hK hN hG (c_X9_isTown l y x1 st _ hw) qM_X9_104 qT_X9_isTown qN_X9 qC_X9_isTown hd_X9_isTown ⟨Nat.le_of_ble_eq_true rfl, Nat.le_of_ble_eq_true rfl⟩ hl.1 rfl (Nat.le_of_ble_eq_true rfl) dX9_pay_6) hG (fun r6 st6 H locs hw hG => ?_)
    refine lv_if_ne (tgt := 16) hx hb dX9_pay_9 (by decide) (fun hc => ?_) (fun hc => ?_)
    · replace hw := hw.1 hc
      exact z_X9_pay_b16 l y x1 x2 C  K  st6 hG (lv_sub hl [0, 1, 2] rfl) hw
    · replace hw := hw.2 hc
      refine lv_iconst (v := (-1)) hx hb dX9_pay_12 (by decide) ?_
      refine lv_goto (tgt := 20) hx hb dX9_pay_13 (by decide) ?_
      exact z_X9_pay_b20 l y x1 x2 C  K  (-1) st6 hG (lv_sub hl [0, 1, 2] rfl) hw
set_option maxRecDepth 100000 in
set_option maxHeartbeats 4000000 in
theorem z_X9_deepest_b73 {p : Program} {e : Env} {s : State} {m : MethodId} {args : Array Value} {below : List Frame} {meth : Method} {c : Code} (l : Launch) (y : Sy) (x1 : Int32) (C : Sd p s m args meth c cX9_deepest 5 RX9 (some .int) y) (c18 : Int32 → Int32 → St → Prop) (c31 : Int32 → Int32 → Int32 → St → Prop) (K : Int32 → St → Prop) (hc18 : ∀ (v2 : Int32) (v3 : Int32) (st : St) (H : Heap) (locs : List Loc) (ls : Array Slot), gH 17 enM y st s H locs → lv_has ls 5 [(0, .ref (ad y 0)), (1, .int x1), (2, .int v2), (3, .int v3)] → c18 v2 v3 st → W p l e (rmm 2 44) s m args below meth c H locs 0 0 (MQ below (va_Qi K (gB 17 enM y) (gA 17 y)) args s 0 0 (gA 17 y)) (F0 m 18 ls [])) (hc31 : ∀ (v2 : Int32) (v3 : Int32) (v4 : Int32) (st : St) (H : Heap) (locs : List Loc) (ls : Array Slot), gH 17 enM y st s H locs → lv_has ls 5 [(0, .ref (ad y 0)), (1, .int x1), (2, .int v2), (3, .int v3), (4, .int v4)] → c31 v2 v3 v4 st → W p l e (rmm 2 44) s m args below meth c H locs 0 0 (MQ below (va_Qi K (gB 17 enM y) (gA 17 y)) args s 0 0 (gA 17 y)) (F0 m 31 ls [])) (v3 : Int32) (v4 : Int32) (s0 : Int32) (st : St) {H : Heap} {locs : List Loc} {ls : Array Slot} (hG : gH 17 enM y st s H locs) (hl : lv_has ls 5 [(0, .ref (ad y 0)), (1, .int x1), (3, .int v3), (4, .int v4)]) (hw : w_X9_deepest_b73 x1 c18 c31 K v3 v4 s0 st) : W p l e (rmm 2 44) s m args below meth c H locs 0 0 (MQ below (va_Qi K (gB 17 enM y) (gA 17 y)) args s 0 0 (gA 17 y)) (F0 m 73 ls [.int s0]) := by
  obtain ⟨hx, hb, hml, hown, hts, hr, hlk, hK, hN⟩ := id C
  unfold w_X9_deepest_b73 at hw
  refine lv_istore_n (lv' := [(2, .int s0), (0, .ref (ad y 0)), (1, .int x1), (3, .int v3), (4, .int v4)]) hx hb dX9_deepest_73 rfl hl (Nat.le_of_ble_eq_true rfl) rfl (fun ls hl => ?_)
  refine lv_iinc (v := (v4 + 1)) (lv' := [(4, .int (v4 + 1)), (2, .int s0), (0, .ref (ad y 0)), (1, .int x1), (3, .int v3)]) hx hb dX9_deepest_74 hl (k := 4) rfl rfl (Nat.le_of_ble_eq_true rfl) rfl (fun ls hl => ?_)
  refine lv_goto (tgt := 31) hx hb dX9_deepest_77 (by decide) ?_
  exact hc31 s0 v3 (v4 + 1) st H locs _ hG (lv_sub hl [2, 3, 1, 4, 0] rfl) hw
set_option maxRecDepth 100000 in
set_option maxHeartbeats 4000000 in
theorem z_X9_deepest_b72 {p : Program} {e : Env} {s : State} {m : MethodId} {args : Array Value} {below : List Frame} {meth : Method} {c : Code} (l : Launch) (y : Sy) (x1 : Int32) (C : Sd p s m args meth c cX9_deepest 5 RX9 (some .int) y) (c18 : Int32 → Int32 → St → Prop) (c31 : Int32 → Int32 → Int32 → St → Prop) (K : Int32 → St → Prop) (hc18 : ∀ (v2 : Int32) (v3 : Int32) (st : St) (H : Heap) (locs : List Loc) (ls : Array Slot), gH 17 enM y st s H locs → lv_has ls 5 [(0, .ref (ad y 0)), (1, .int x1), (2, .int v2), (3, .int v3)] → c18 v2 v3 st → W p l e (rmm 2 44) s m args below meth c H locs 0 0 (MQ below (va_Qi K (gB 17 enM y) (gA 17 y)) args s 0 0 (gA 17 y)) (F0 m 18 ls [])) (hc31 : ∀ (v2 : Int32) (v3 : Int32) (v4 : Int32) (st : St) (H : Heap) (locs : List Loc) (ls : Array Slot), gH 17 enM y st s H locs → lv_has ls 5 [(0, .ref (ad y 0)), (1, .int x1), (2, .int v2), (3, .int v3), (4, .int v4)] → c31 v2 v3 v4 st → W p l e (rmm 2 44) s m args below meth c H locs 0 0 (MQ below (va_Qi K (gB 17 enM y) (gA 17 y)) args s 0 0 (gA 17 y)) (F0 m 31 ls [])) (v2 : Int32) (v3 : Int32) (v4 : Int32) (st : St) {H : Heap} {locs : List Loc} {ls : Array Slot} (hG : gH 17 enM y st s H locs) (hl : lv_has ls 5 [(0, .ref (ad y 0)), (1, .int x1), (2, .int v2), (3, .int v3), (4, .int v4)]) (hw : w_X9_deepest_b72 x1 c18 c31 K v2 v3 v4 st) : W p l e (rmm 2 44) s m args below meth c H locs 0 0 (MQ below (va_Qi K (gB 17 enM y) (gA 17 y)) args s 0 0 (gA 17 y)) (F0 m 72 ls []) := by
  obtain ⟨hx, hb, hml, hown, hts, hr, hlk, hK, hN⟩ := id C
  unfold w_X9_deepest_b72 at hw
  refine lv_iload_n hx hb dX9_deepest_72 rfl (lv_at hl 2 rfl) ?_
  exact z_X9_deepest_b73 l y x1 C c18 c31 K hc18 hc31 v3 v4 v2 st hG (lv_sub hl [0, 1, 3, 4] rfl) hw
set_option maxRecDepth 100000 in
set_option maxHeartbeats 4000000 in
theorem z_X9_deepest_b80 {p : Program} {e : Env} {s : State} {m : MethodId} {args : Array Value} {below : List Frame} {meth : Method} {c : Code} (l : Launch) (y : Sy) (x1 : Int32) (C : Sd p s m args meth c cX9_deepest 5 RX9 (some .int) y) (c18 : Int32 → Int32 → St → Prop) (K : Int32 → St → Prop) (hc18 : ∀ (v2 : Int32) (v3 : Int32) (st : St) (H : Heap) (locs : List Loc) (ls : Array Slot), gH 17 enM y st s H locs → lv_has ls 5 [(0, .ref (ad y 0)), (1, .int x1), (2, .int v2), (3, .int v3)] → c18 v2 v3 st → W p l e (rmm 2 44) s m args below meth c H locs 0 0 (MQ below (va_Qi K (gB 17 enM y) (gA 17 y)) args s 0 0 (gA 17 y)) (F0 m 18 ls [])) (v2 : Int32) (v3 : Int32) (st : St) {H : Heap} {locs : List Loc} {ls : Array Slot} (hG : gH 17 enM y st s H locs) (hl : lv_has ls 5 [(0, .ref (ad y 0)), (1, .int x1), (2, .int v2), (3, .int v3)]) (hw : w_X9_deepest_b80 x1 c18 K v2 v3 st) : W p l e (rmm 2 44) s m args below meth c H locs 0 0 (MQ below (va_Qi K (gB 17 enM y) (gA 17 y)) args s 0 0 (gA 17 y)) (F0 m 80 ls []) := by
  obtain ⟨hx, hb, hml, hown, hts, hr, hlk, hK, hN⟩ := id C
  unfold w_X9_deepest_b80 at hw
  refine lv_iinc (v := (v3 + 1)) (lv' := [(3, .int (v3 + 1)), (0, .ref (ad y 0)), (1, .int x1), (2, .int v2)]) hx hb dX9_deepest_80 hl (k := 3) rfl rfl (Nat.le_of_ble_eq_true rfl) rfl (fun ls hl => ?_)
  refine lv_goto (tgt := 18) hx hb dX9_deepest_83 (by decide) ?_
  exact hc18 v2 (v3 + 1) st H locs _ hG (lv_sub hl [1, 2, 3, 0] rfl) hw
set_option maxRecDepth 100000 in
set_option maxHeartbeats 4000000 in
theorem z_X9_deepest_L31 {p : Program} {e : Env} {s : State} {m : MethodId} {args : Array Value} {below : List Frame} {meth : Method} {c : Code} (l : Launch) (y : Sy) (x1 : Int32) (C : Sd p s m args meth c cX9_deepest 5 RX9 (some .int) y) (c18 : Int32 → Int32 → St → Prop) (K : Int32 → St → Prop) (hc18 : ∀ (v2 : Int32) (v3 : Int32) (st : St) (H : Heap) (locs : List Loc) (ls : Array Slot), gH 17 enM y st s H locs → lv_has ls 5 [(0, .ref (ad y 0)), (1, .int x1), (2, .int v2), (3, .int v3)] → c18 v2 v3 st → W p l e (rmm 2 44) s m args below meth c H locs 0 0 (MQ below (va_Qi K (gB 17 enM y) (gA 17 y)) args s 0 0 (gA 17 y)) (F0 m 18 ls [])) : ∀ (n : Nat) (v2 : Int32) (v3 : Int32) (v4 : Int32) (st : St) (H : Heap) (locs : List Loc) (ls : Array Slot), gH 17 enM y st s H locs → lv_has ls 5 [(0, .ref (ad y 0)), (1, .int x1), (2, .int v2), (3, .int v3), (4, .int v4)] → w_X9_deepest_L31 x1 c18 K n v2 v3 v4 st → W p l e (rmm 2 44) s m args below meth c H locs 0 0 (MQ below (va_Qi K (gB 17 enM y) (gA 17 y)) args s 0 0 (gA 17 y)) (F0 m 31 ls []) := by
  obtain ⟨hx, hb, hml, hown, hts, hr, hlk, hK, hN⟩ := id C
  intro n
  induction n with
  | zero => intro v2 v3 v4 st H locs ls hG hl hw; exact False.elim hw
  | succ n hc31 =>
    intro v2 v3 v4 st H locs ls hG hl hw
    have hw : w_X9_deepest_L31q x1 c18 K (fun v2 v3 v4 st => w_X9_deepest_L31 x1 c18 K n v2 v3 v4 st) v2 v3 v4 st := hw
    unfold w_X9_deepest_L31q at hw
    refine lv_iload hx hb dX9_deepest_31 (lv_at hl 4 rfl) ?_
    refine lv_aload_n hx hb dX9_deepest_33 rfl (lv_at hl 0 rfl) ?_
    refine r_get (C := RX9) (T := TX9) (Nf := 31) hx hb hts hown hK hG (by decide) rfl rfl inX9 8 (by decide) qF_X9_65 rfl dX9_deepest_34 ?_
    refine lv_icmp_ge (tgt := 80) hx hb dX9_deepest_37 (by decide) (fun hc => ?_) (fun hc => ?_)
    · replace hw := hw.1 hc
      exact z_X9_deepest_b80 l y x1 C c18 K hc18 v2 v3 st hG (lv_sub hl [0, 1, 2, 3] rfl) hw
    · replace hw := hw.2 hc
      refine lv_aload_n hx hb dX9_deepest_40 rfl (lv_at hl 0 rfl) ?_
      refine lv_iload_n hx hb dX9_deepest_41 rfl (lv_at hl 3 rfl) ?_
      refine lv_iload hx hb dX9_deepest_42 (lv_at hl 4 rfl) ?_
      refine lv_iload_n hx hb dX9_deepest_44 rfl (lv_at hl 1 rfl) ?_
      refine r_ki (r_run_V (k := 0) (As := [.int v3, .int v4, .int x1]) (rest := []) hx hb hml hown hts hK hN hG (c_X9_areThere l y v3 v4 x1 st _ hw) (by decide) rfl rfl rfl qM_X9_177 qI_X9_areThere qS_X9_areThere qN_X9 qC_X9_areThere hd_X9_areThere ⟨Nat.le_of_ble_eq_true rfl, Nat.le_of_ble_eq_true rfl⟩ hl.1 rfl (Nat.le_of_ble_eq_true rfl) dX9_deepest_45) hG (fun r45 st45 H locs hw hG => ?_)
      refine lv_if_eq (tgt := 72) hx hb dX9_deepest_48 (by decide) (fun hc => ?_) (fun hc => ?_)
      · replace hw := hw.1 hc
        exact z_X9_deepest_b72 l y x1 C c18 (fun v2 v3 v4 st => w_X9_deepest_L31 x1 c18 K n v2 v3 v4 st) K hc18 hc31 v2 v3 v4 st45 hG (lv_sub hl [0, 1, 2, 3, 4] rfl) hw
      · replace hw := hw.2 hc
        refine lv_aload_n hx hb dX9_deepest_51 rfl (lv_at hl 0 rfl) ?_
        refine lv_iload_n hx hb dX9_deepest_52 rfl (lv_at hl 3 rfl) ?_
        refine lv_iload hx hb dX9_deepest_53 (lv_at hl 4 rfl) ?_
        refine r_ki (r_run_V (k := 0) (As := [.int v3, .int v4]) (rest := []) hx hb hml hown hts hK hN hG (c_X9_hateOf l y v3 v4 st45 _ hw) (by decide) rfl rfl rfl qM_X9_180 qI_X9_hateOf qS_X9_hateOf qN_X9 qC_X9_hateOf hd_X9_hateOf ⟨Nat.le_of_ble_eq_true rfl, Nat.le_of_ble_eq_true rfl⟩ hl.1 rfl (Nat.le_of_ble_eq_true rfl) dX9_deepest_55) hG (fun r55 st55 H locs hw hG => ?_)
        refine lv_iload_n hx hb dX9_deepest_58 rfl (lv_at hl 2 rfl) ?_
        refine lv_icmp_le (tgt := 72) hx hb dX9_deepest_59 (by decide) (fun hc => ?_) (fun hc => ?_)
        · replace hw := hw.1 hc
          exact z_X9_deepest_b72 l y x1 C c18 (fun v2 v3 v4 st => w_X9_deepest_L31 x1 c18 K n v2 v3 v4 st) K hc18 hc31 v2 v3 v4 st55 hG (lv_sub hl [0, 1, 2, 3, 4] rfl) hw
        · replace hw := hw.2 hc
          refine lv_aload_n hx hb dX9_deepest_62 rfl (lv_at hl 0 rfl) ?_
          refine lv_iload_n hx hb dX9_deepest_63 rfl (lv_at hl 3 rfl) ?_
          refine lv_iload hx hb dX9_deepest_64 (lv_at hl 4 rfl) ?_
          refine r_ki (r_run_V (k := 0) (As := [.int v3, .int v4]) (rest := []) hx hb hml hown hts hK hN hG (c_X9_hateOf l y v3 v4 st55 _ hw) (by decide) rfl rfl rfl qM_X9_180 qI_X9_hateOf qS_X9_hateOf qN_X9 qC_X9_hateOf hd_X9_hateOf ⟨Nat.le_of_ble_eq_true rfl, Nat.le_of_ble_eq_true rfl⟩ hl.1 rfl (Nat.le_of_ble_eq_true rfl) dX9_deepest_66) hG (fun r66 st66 H locs hw hG => ?_)
          refine lv_goto (tgt := 73) hx hb dX9_deepest_69 (by decide) ?_
          exact z_X9_deepest_b73 l y x1 C c18 (fun v2 v3 v4 st => w_X9_deepest_L31 x1 c18 K n v2 v3 v4 st) K hc18 hc31 v3 v4 r66 st66 hG (lv_sub hl [0, 1, 3, 4] rfl) hw
set_option maxRecDepth 100000 in
set_option maxHeartbeats 4000000 in
theorem z_X9_deepest_L18 {p : Program} {e : Env} {s : State} {m : MethodId} {args : Array Value} {below : List Frame} {meth : Method} {c : Code} (l : Launch) (y : Sy) (x1 : Int32) (C : Sd p s m args meth c cX9_deepest 5 RX9 (some .int) y)  (K : Int32 → St → Prop)  : ∀ (n : Nat) (v2 : Int32) (v3 : Int32) (st : St) (H : Heap) (locs : List Loc) (ls : Array Slot), gH 17 enM y st s H locs → lv_has ls 5 [(0, .ref (ad y 0)), (1, .int x1), (2, .int v2), (3, .int v3)] → w_X9_deepest_L18 x1  K n v2 v3 st → W p l e (rmm 2 44) s m args below meth c H locs 0 0 (MQ below (va_Qi K (gB 17 enM y) (gA 17 y)) args s 0 0 (gA 17 y)) (F0 m 18 ls []) := by
  obtain ⟨hx, hb, hml, hown, hts, hr, hlk, hK, hN⟩ := id C
  intro n
  induction n with
  | zero => intro v2 v3 st H locs ls hG hl hw; exact False.elim hw
  | succ n hc18 =>
    intro v2 v3 st H locs ls hG hl hw
    have hw : w_X9_deepest_L18q x1  K (fun v2 v3 st => w_X9_deepest_L18 x1  K n v2 v3 st) v2 v3 st := hw
    unfold w_X9_deepest_L18q at hw
    refine lv_iload_n hx hb dX9_deepest_18 rfl (lv_at hl 3 rfl) ?_
    refine lv_aload_n hx hb dX9_deepest_19 rfl (lv_at hl 0 rfl) ?_
    refine r_get (C := RX9) (T := TX9) (Nf := 31) hx hb hts hown hK hG (by decide) rfl rfl inX9 8 (by decide) qF_X9_65 rfl dX9_deepest_20 ?_
    refine lv_icmp_ge (tgt := 86) hx hb dX9_deepest_23 (by decide) (fun hc => ?_) (fun hc => ?_)
    · replace hw := hw.1 hc
      refine lv_iload_n hx hb dX9_deepest_86 rfl (lv_at hl 2 rfl) ?_
      exact r_iret hx hb hr hlk hK hG rfl hw dX9_deepest_87
    · replace hw := hw.2 hc
      refine lv_iload_n hx hb dX9_deepest_26 rfl (lv_at hl 3 rfl) ?_
      refine lv_iconst (v := 1) hx hb dX9_deepest_27 (by decide) ?_
      refine lv_iadd hx hb dX9_deepest_28 ?_
      refine lv_istore (lv' := [(4, .int (v3 + 1)), (0, .ref (ad y 0)), (1, .int x1), (2, .int v2), (3, .int v3)]) hx hb dX9_deepest_29 hl (Nat.le_of_ble_eq_true rfl) rfl (fun ls hl => ?_)
      obtain ⟨n31, hw⟩ := hw
      exact z_X9_deepest_L31 l y x1 C (fun v2 v3 st => w_X9_deepest_L18 x1  K n v2 v3 st) K hc18 n31 v2 v3 (v3 + 1) st H locs _ hG (lv_sub hl [1, 2, 3, 4, 0] rfl) hw
theorem hd_X9_deepest : yX9_deepest.cls ≠ "java/lang/invoke/MethodHandle" ∧ yX9_deepest.cls ≠ "java/lang/invoke/VarHandle" ∧ (parseMethodDescriptor yX9_deepest.desc).map (fun d => d.parameters.length) = some 1 := by decide +kernel
set_option maxRecDepth 100000 in
set_option maxHeartbeats 4000000 in
theorem c_X9_deepest (l : Launch) (y : Sy) (x1 : Int32) (st : St) (K : Int32 → St → Prop) (hw : w_X9_deepest x1 st K) : Ci 17 enM l yX9_deepest cX9_deepest 5 (some .int) 2 44 y [.ref (ad y 0), .int x1] st K := by
  refine ent (by decide) (Nat.le_of_ble_eq_true rfl) ?_
  intro p e s m below meth c C hG ls hl
  have hl : lv_has ls 5 [(0, .ref (ad y 0)), (1, .int x1)] := hl
  generalize ([.ref (ad y 0), .int x1] : List Value).toArray = args at C ⊢
  have C : Sd p s m args meth c cX9_deepest 5 RX9 (some .int) y := C
  obtain ⟨hx, hb, hml, hown, hts, hr, hlk, hK, hN⟩ := id C
  generalize s.heap = H at hG ⊢
  generalize ([] : List Loc) = locs at hG ⊢
  unfold w_X9_deepest at hw
  refine lv_iload_n hx hb dX9_deepest_0 rfl (lv_at hl 1 rfl) ?_
  refine r_ki (r_run_S (As := [.int x1]) (rest := []) hx hb hml hown hts hK hN hG (c_X9_isTown l y x1 st _ hw) qM_X9_104 qT_X9_isTown qN_X9 qC_X9_isTown hd_X9_isTown ⟨Nat.le_of_ble_eq_true rfl, Nat.le_of_ble_eq_true rfl⟩ hl.1 rfl (Nat.le_of_ble_eq_true rfl) dX9_deepest_1) hG (fun r1 st1 H locs hw hG => ?_)
  refine lv_if_ne (tgt := 13) hx hb dX9_deepest_4 (by decide) (fun hc => ?_) (fun hc => ?_)
  · replace hw := hw.1 hc
    refine lv_bipush (v := (-9)) hx hb dX9_deepest_13 (by decide) ?_
    refine lv_istore_n (lv' := [(2, .int (-9)), (0, .ref (ad y 0)), (1, .int x1)]) hx hb dX9_deepest_15 rfl hl (Nat.le_of_ble_eq_true rfl) rfl (fun ls hl => ?_)
    refine lv_iconst (v := 0) hx hb dX9_deepest_16 (by decide) ?_
    refine lv_istore_n (lv' := [(3, .int 0), (2, .int (-9)), (0, .ref (ad y 0)), (1, .int x1)]) hx hb dX9_deepest_17 rfl hl (Nat.le_of_ble_eq_true rfl) rfl (fun ls hl => ?_)
    obtain ⟨n18, hw⟩ := hw
    exact z_X9_deepest_L18 l y x1 C  K  n18 (-9) 0 st1 H locs _ hG (lv_sub hl [2, 3, 1, 0] rfl) hw
  · replace hw := hw.2 hc
    refine lv_aload_n hx hb dX9_deepest_7 rfl (lv_at hl 0 rfl) ?_
    refine lv_iconst (v := (-1)) hx hb dX9_deepest_8 (by decide) ?_
    refine r_ki (r_run_V (k := 0) (As := [.int (-1)]) (rest := []) hx hb hml hown hts hK hN hG (c_X9_no l y (-1) st1 _ hw) (by decide) rfl rfl rfl qM_X9_79 qI_X9_no qS_X9_no qN_X9 qC_X9_no hd_X9_no ⟨Nat.le_of_ble_eq_true rfl, Nat.le_of_ble_eq_true rfl⟩ hl.1 rfl (Nat.le_of_ble_eq_true rfl) dX9_deepest_9) hG (fun r9 st9 H locs hw hG => ?_)
    exact r_iret hx hb hr hlk hK hG rfl hw dX9_deepest_12
set_option maxRecDepth 100000 in
set_option maxHeartbeats 4000000 in
theorem z_X9_findTwos_b121 {p : Program} {e : Env} {s : State} {m : MethodId} {args : Array Value} {below : List Frame} {meth : Method} {c : Code} (l : Launch) (y : Sy) (x1 : Int32) (x2 : Int32) (C : Sd p s m args meth c cX9_findTwos 8 RX9 none y) (c39 : Int32 → Int32 → Int32 → Int32 → St → Prop) (K : St → Prop) (hc39 : ∀ (v3 : Int32) (v4 : Int32) (v5 : Int32) (v6 : Int32) (st : St) (H : Heap) (locs : List Loc) (ls : Array Slot), gH 17 enM y st s H locs → lv_has ls 8 [(0, .ref (ad y 0)), (1, .int x1), (2, .int x2), (3, .int v3), (4, .int v4), (5, .int v5), (6, .int v6)] → c39 v3 v4 v5 v6 st → W p l e (rmm 1 22) s m args below meth c H locs 0 0 (MQ below (va_Qv K (gB 17 enM y) (gA 17 y)) args s 0 0 (gA 17 y)) (F0 m 39 ls [])) (v3 : Int32) (v4 : Int32) (v5 : Int32) (v6 : Int32) (st : St) {H : Heap} {locs : List Loc} {ls : Array Slot} (hG : gH 17 enM y st s H locs) (hl : lv_has ls 8 [(0, .ref (ad y 0)), (1, .int x1), (2, .int x2), (3, .int v3), (4, .int v4), (5, .int v5), (6, .int v6)]) (hw : w_X9_findTwos_b121 x1 x2 c39 K v3 v4 v5 v6 st) : W p l e (rmm 1 22) s m args below meth c H locs 0 0 (MQ below (va_Qv K (gB 17 enM y) (gA 17 y)) args s 0 0 (gA 17 y)) (F0 m 121 ls []) := by
  obtain ⟨hx, hb, hml, hown, hts, hr, hlk, hK, hN⟩ := id C
  unfold w_X9_findTwos_b121 at hw
  refine lv_iinc (v := (v6 + 1)) (lv' := [(6, .int (v6 + 1)), (0, .ref (ad y 0)), (1, .int x1), (2, .int x2), (3, .int v3), (4, .int v4), (5, .int v5)]) hx hb dX9_findTwos_121 hl (k := 6) rfl rfl (Nat.le_of_ble_eq_true rfl) rfl (fun ls hl => ?_)
  refine lv_goto (tgt := 39) hx hb dX9_findTwos_124 (by decide) ?_
  exact hc39 v3 v4 v5 (v6 + 1) st H locs _ hG (lv_sub hl [1, 2, 3, 4, 5, 6, 0] rfl) hw
set_option maxRecDepth 100000 in
set_option maxHeartbeats 4000000 in
theorem z_X9_findTwos_b119 {p : Program} {e : Env} {s : State} {m : MethodId} {args : Array Value} {below : List Frame} {meth : Method} {c : Code} (l : Launch) (y : Sy) (x1 : Int32) (x2 : Int32) (C : Sd p s m args meth c cX9_findTwos 8 RX9 none y) (c39 : Int32 → Int32 → Int32 → Int32 → St → Prop) (K : St → Prop) (hc39 : ∀ (v3 : Int32) (v4 : Int32) (v5 : Int32) (v6 : Int32) (st : St) (H : Heap) (locs : List Loc) (ls : Array Slot), gH 17 enM y st s H locs → lv_has ls 8 [(0, .ref (ad y 0)), (1, .int x1), (2, .int x2), (3, .int v3), (4, .int v4), (5, .int v5), (6, .int v6)] → c39 v3 v4 v5 v6 st → W p l e (rmm 1 22) s m args below meth c H locs 0 0 (MQ below (va_Qv K (gB 17 enM y) (gA 17 y)) args s 0 0 (gA 17 y)) (F0 m 39 ls [])) (v3 : Int32) (v4 : Int32) (v6 : Int32) (s0 : Int32) (st : St) {H : Heap} {locs : List Loc} {ls : Array Slot} (hG : gH 17 enM y st s H locs) (hl : lv_has ls 8 [(0, .ref (ad y 0)), (1, .int x1), (2, .int x2), (3, .int v3), (4, .int v4), (6, .int v6)]) (hw : w_X9_findTwos_b119 x1 x2 c39 K v3 v4 v6 s0 st) : W p l e (rmm 1 22) s m args below meth c H locs 0 0 (MQ below (va_Qv K (gB 17 enM y) (gA 17 y)) args s 0 0 (gA 17 y)) (F0 m 119 ls [.int s0]) := by
  obtain ⟨hx, hb, hml, hown, hts, hr, hlk, hK, hN⟩ := id C
  unfold w_X9_findTwos_b119 at hw
  refine lv_istore (lv' := [(5, .int s0), (0, .ref (ad y 0)), (1, .int x1), (2, .int x2), (3, .int v3), (4, .int v4), (6, .int v6)]) hx hb dX9_findTwos_119 hl (Nat.le_of_ble_eq_true rfl) rfl (fun ls hl => ?_)
  exact z_X9_findTwos_b121 l y x1 x2 C c39 K hc39 v3 v4 s0 v6 st hG (lv_sub hl [1, 2, 3, 4, 5, 0, 6] rfl) hw
set_option maxRecDepth 100000 in
set_option maxHeartbeats 4000000 in
theorem z_X9_findTwos_b127 {p : Program} {e : Env} {s : State} {m : MethodId} {args : Array Value} {below : List Frame} {meth : Method} {c : Code} (l : Launch) (y : Sy) (x1 : Int32) (x2 : Int32) (C : Sd p s m args meth c cX9_findTwos 8 RX9 none y)  (K : St → Prop)  (v5 : Int32) (st : St) {H : Heap} {locs : List Loc} {ls : Array Slot} (hG : gH 17 enM y st s H locs) (hl : lv_has ls 8 [(0, .ref (ad y 0)), (1, .int x1), (5, .int v5)]) (hw : w_X9_findTwos_b127 x1 x2  K v5 st) : W p l e (rmm 1 22) s m args below meth c H locs 0 0 (MQ below (va_Qv K (gB 17 enM y) (gA 17 y)) args s 0 0 (gA 17 y)) (F0 m 127 ls []) := by
  obtain ⟨hx, hb, hml, hown, hts, hr, hlk, hK, hN⟩ := id C
  unfold w_X9_findTwos_b127 at hw
  refine lv_aload_n hx hb dX9_findTwos_127 rfl (lv_at hl 0 rfl) ?_
  refine r_get (C := RX9) (T := TX9) (Nf := 31) hx hb hts hown hK hG (by decide) rfl rfl inX9 27 (by decide) qF_X9_52 rfl dX9_findTwos_128 ?_
  refine lv_iload_n hx hb dX9_findTwos_131 rfl (lv_at hl 1 rfl) ?_
  refine lv_iload hx hb dX9_findTwos_132 (lv_at hl 2 rfl) ?_
  obtain ⟨hi, hw⟩ := hw
  refine r_iast hx hb hK hG (isB_15).1 (fun f => (isB_15).2 y f) hi dX9_findTwos_134 (fun H locs hG => ?_)
  exact r_vret hx hb hr hlk hK hG hw dX9_findTwos_135
set_option maxRecDepth 100000 in
set_option maxHeartbeats 4000000 in
theorem z_X9_findTwos_L39 {p : Program} {e : Env} {s : State} {m : MethodId} {args : Array Value} {below : List Frame} {meth : Method} {c : Code} (l : Launch) (y : Sy) (x1 : Int32) (x2 : Int32) (C : Sd p s m args meth c cX9_findTwos 8 RX9 none y)  (K : St → Prop)  : ∀ (n : Nat) (v3 : Int32) (v4 : Int32) (v5 : Int32) (v6 : Int32) (st : St) (H : Heap) (locs : List Loc) (ls : Array Slot), gH 17 enM y st s H locs → lv_has ls 8 [(0, .ref (ad y 0)), (1, .int x1), (2, .int x2), (3, .int v3), (4, .int v4), (5, .int v5), (6, .int v6)] → w_X9_findTwos_L39 x1 x2  K n v3 v4 v5 v6 st → W p l e (rmm 1 22) s m args below meth c H locs 0 0 (MQ below (va_Qv K (gB 17 enM y) (gA 17 y)) args s 0 0 (gA 17 y)) (F0 m 39 ls []) := by
  obtain ⟨hx, hb, hml, hown, hts, hr, hlk, hK, hN⟩ := id C
  intro n
  induction n with
  | zero => intro v3 v4 v5 v6 st H locs ls hG hl hw; exact False.elim hw
  | succ n hc39 =>
    intro v3 v4 v5 v6 st H locs ls hG hl hw
    have hw : w_X9_findTwos_L39q x1 x2  K (fun v3 v4 v5 v6 st => w_X9_findTwos_L39 x1 x2  K n v3 v4 v5 v6 st) v3 v4 v5 v6 st := hw
    unfold w_X9_findTwos_L39q at hw
    refine lv_iload hx hb dX9_findTwos_39 (lv_at hl 6 rfl) ?_
    refine lv_aload_n hx hb dX9_findTwos_41 rfl (lv_at hl 0 rfl) ?_
    refine r_get (C := RX9) (T := TX9) (Nf := 31) hx hb hts hown hK hG (by decide) rfl rfl inX9 8 (by decide) qF_X9_65 rfl dX9_findTwos_42 ?_
    refine lv_icmp_ge (tgt := 127) hx hb dX9_findTwos_45 (by decide) (fun hc => ?_) (fun hc => ?_)
    · replace hw := hw.1 hc
      exact z_X9_findTwos_b127 l y x1 x2 C  K  v5 st hG (lv_sub hl [0, 1, 5] rfl) hw
    · replace hw := hw.2 hc
      refine lv_iload_n hx hb dX9_findTwos_48 rfl (lv_at hl 1 rfl) ?_
      refine lv_iload hx hb dX9_findTwos_49 (lv_at hl 6 rfl) ?_
      refine r_ki (r_run_S (As := [.int x1, .int v6]) (rest := []) hx hb hml hown hts hK hN hG (c_X9_has l y x1 v6 st _ hw) qM_X9_174 qT_X9_has qN_X9 qC_X9_has hd_X9_has ⟨Nat.le_of_ble_eq_true rfl, Nat.le_of_ble_eq_true rfl⟩ hl.1 rfl (Nat.le_of_ble_eq_true rfl) dX9_findTwos_51) hG (fun r51 st51 H locs hw hG => ?_)
      refine lv_if_eq (tgt := 121) hx hb dX9_findTwos_54 (by decide) (fun hc => ?_) (fun hc => ?_)
      · replace hw := hw.1 hc
        exact z_X9_findTwos_b121 l y x1 x2 C (fun v3 v4 v5 v6 st => w_X9_findTwos_L39 x1 x2  K n v3 v4 v5 v6 st) K hc39 v3 v4 v5 v6 st51 hG (lv_sub hl [0, 1, 2, 3, 4, 5, 6] rfl) hw
      · replace hw := hw.2 hc
        refine lv_aload_n hx hb dX9_findTwos_57 rfl (lv_at hl 0 rfl) ?_
        refine r_get (C := RX9) (T := TX9) (Nf := 31) hx hb hts hown hK hG (by decide) rfl rfl inX9 3 (by decide) qF_X9_19 rfl dX9_findTwos_58 ?_
        refine lv_iload_n hx hb dX9_findTwos_61 rfl (lv_at hl 3 rfl) ?_
        obtain ⟨hi, hw⟩ := hw
        refine r_iald hx hb hK hG (isB_4).1 ((isB_4).2 y _) hi dX9_findTwos_62 ?_
        refine lv_aload_n hx hb dX9_findTwos_63 rfl (lv_at hl 0 rfl) ?_
        refine r_get (C := RX9) (T := TX9) (Nf := 31) hx hb hts hown hK hG (by decide) rfl rfl inX9 3 (by decide) qF_X9_19 rfl dX9_findTwos_64 ?_
        refine lv_iload hx hb dX9_findTwos_67 (lv_at hl 6 rfl) ?_
        obtain ⟨hi, hw⟩ := hw
        refine r_iald hx hb hK hG (isB_4).1 ((isB_4).2 y _) hi dX9_findTwos_69 ?_
        refine lv_icmp_ne (tgt := 121) hx hb dX9_findTwos_70 (by decide) (fun hc => ?_) (fun hc => ?_)
        · replace hw := hw.1 hc
          exact z_X9_findTwos_b121 l y x1 x2 C (fun v3 v4 v5 v6 st => w_X9_findTwos_L39 x1 x2  K n v3 v4 v5 v6 st) K hc39 v3 v4 v5 v6 st51 hG (lv_sub hl [0, 1, 2, 3, 4, 5, 6] rfl) hw
        · replace hw := hw.2 hc
          refine lv_aload_n hx hb dX9_findTwos_73 rfl (lv_at hl 0 rfl) ?_
          refine lv_iload_n hx hb dX9_findTwos_74 rfl (lv_at hl 3 rfl) ?_
          refine lv_iload hx hb dX9_findTwos_75 (lv_at hl 6 rfl) ?_
          refine r_ki (r_run_V (k := 0) (As := [.int v3, .int v6]) (rest := []) hx hb hml hown hts hK hN hG (c_X9_hateOf l y v3 v6 st51 _ hw) (by decide) rfl rfl rfl qM_X9_180 qI_X9_hateOf qS_X9_hateOf qN_X9 qC_X9_hateOf hd_X9_hateOf ⟨Nat.le_of_ble_eq_true rfl, Nat.le_of_ble_eq_true rfl⟩ hl.1 rfl (Nat.le_of_ble_eq_true rfl) dX9_findTwos_77) hG (fun r77 st77 H locs hw hG => ?_)
          refine lv_iload_n hx hb dX9_findTwos_80 rfl (lv_at hl 2 rfl) ?_
          refine lv_icmp_ge (tgt := 87) hx hb dX9_findTwos_81 (by decide) (fun hc => ?_) (fun hc => ?_)
          · replace hw := hw.1 hc
            refine lv_iconst (v := 1) hx hb dX9_findTwos_87 (by decide) ?_
            refine lv_aload_n hx hb dX9_findTwos_88 rfl (lv_at hl 0 rfl) ?_
            refine r_get (C := RX9) (T := TX9) (Nf := 31) hx hb hts hown hK hG (by decide) rfl rfl inX9 27 (by decide) qF_X9_52 rfl dX9_findTwos_89 ?_
            refine lv_iload hx hb dX9_findTwos_92 (lv_at hl 4 rfl) ?_
            refine lv_iconst (v := 1) hx hb dX9_findTwos_94 (by decide) ?_
            refine lv_iload hx hb dX9_findTwos_95 (lv_at hl 6 rfl) ?_
            refine lv_ishl hx hb dX9_findTwos_97 ?_
            refine lv_iconst (v := (-1)) hx hb dX9_findTwos_98 (by decide) ?_
            refine lv_ixor hx hb dX9_findTwos_99 ?_
            refine lv_iand hx hb dX9_findTwos_100 ?_
            obtain ⟨hi, hw⟩ := hw
            refine r_iald hx hb hK hG (isB_15).1 ((isB_15).2 y _) hi dX9_findTwos_101 ?_
            refine lv_iadd hx hb dX9_findTwos_102 ?_
            refine lv_istore (lv' := [(7, .int (1 + (st77 15 ((v4 &&& (((1 : Int32) <<< (v6 &&& 31)) ^^^ (-1)))).toNatClampNeg))), (0, .ref (ad y 0)), (1, .int x1), (2, .int x2), (3, .int v3), (4, .int v4), (5, .int v5), (6, .int v6)]) hx hb dX9_findTwos_103 hl (Nat.le_of_ble_eq_true rfl) rfl (fun ls hl => ?_)
            refine lv_iload hx hb dX9_findTwos_105 (lv_at hl 0 rfl) ?_
            refine lv_iload hx hb dX9_findTwos_107 (lv_at hl 6 rfl) ?_
            refine lv_icmp_le (tgt := 117) hx hb dX9_findTwos_109 (by decide) (fun hc => ?_) (fun hc => ?_)
            · replace hw := hw.1 hc
              refine lv_iload hx hb dX9_findTwos_117 (lv_at hl 6 rfl) ?_
              exact z_X9_findTwos_b119 l y x1 x2 C (fun v3 v4 v5 v6 st => w_X9_findTwos_L39 x1 x2  K n v3 v4 v5 v6 st) K hc39 v3 v4 v6 v5 st77 hG (lv_sub hl [1, 2, 3, 4, 5, 7] rfl) hw
            · replace hw := hw.2 hc
              refine lv_iload hx hb dX9_findTwos_112 (lv_at hl 0 rfl) ?_
              refine lv_goto (tgt := 119) hx hb dX9_findTwos_114 (by decide) ?_
              exact z_X9_findTwos_b119 l y x1 x2 C (fun v3 v4 v5 v6 st => w_X9_findTwos_L39 x1 x2  K n v3 v4 v5 v6 st) K hc39 v3 v4 v6 (1 + (st77 15 ((v4 &&& (((1 : Int32) <<< (v6 &&& 31)) ^^^ (-1)))).toNatClampNeg)) st77 hG (lv_sub hl [1, 2, 3, 4, 5, 7] rfl) hw
          · replace hw := hw.2 hc
            refine lv_goto (tgt := 121) hx hb dX9_findTwos_84 (by decide) ?_
            exact z_X9_findTwos_b121 l y x1 x2 C (fun v3 v4 v5 v6 st => w_X9_findTwos_L39 x1 x2  K n v3 v4 v5 v6 st) K hc39 v3 v4 v5 v6 st77 hG (lv_sub hl [0, 1, 2, 3, 4, 5, 6] rfl) hw
set_option maxRecDepth 100000 in
set_option maxHeartbeats 4000000 in
theorem z_X9_findTwos_b16 {p : Program} {e : Env} {s : State} {m : MethodId} {args : Array Value} {below : List Frame} {meth : Method} {c : Code} (l : Launch) (y : Sy) (x1 : Int32) (x2 : Int32) (C : Sd p s m args meth c cX9_findTwos 8 RX9 none y)  (K : St → Prop)  (v3 : Int32) (st : St) {H : Heap} {locs : List Loc} {ls : Array Slot} (hG : gH 17 enM y st s H locs) (hl : lv_has ls 8 [(0, .ref (ad y 0)), (1, .int x1), (2, .int x2), (3, .int v3)]) (hw : w_X9_findTwos_b16 x1 x2  K v3 st) : W p l e (rmm 1 22) s m args below meth c H locs 0 0 (MQ below (va_Qv K (gB 17 enM y) (gA 17 y)) args s 0 0 (gA 17 y)) (F0 m 16 ls []) := by
  obtain ⟨hx, hb, hml, hown, hts, hr, hlk, hK, hN⟩ := id C
  unfold w_X9_findTwos_b16 at hw
  refine lv_iload_n hx hb dX9_findTwos_16 rfl (lv_at hl 1 rfl) ?_
  refine lv_iconst (v := 1) hx hb dX9_findTwos_17 (by decide) ?_
  refine lv_iload_n hx hb dX9_findTwos_18 rfl (lv_at hl 3 rfl) ?_
  refine lv_ishl hx hb dX9_findTwos_19 ?_
  refine lv_iconst (v := (-1)) hx hb dX9_findTwos_20 (by decide) ?_
  refine lv_ixor hx hb dX9_findTwos_21 ?_
  refine lv_iand hx hb dX9_findTwos_22 ?_
  refine lv_istore (lv' := [(4, .int (x1 &&& (((1 : Int32) <<< (v3 &&& 31)) ^^^ (-1)))), (0, .ref (ad y 0)), (1, .int x1), (2, .int x2), (3, .int v3)]) hx hb dX9_findTwos_23 hl (Nat.le_of_ble_eq_true rfl) rfl (fun ls hl => ?_)
  refine lv_aload_n hx hb dX9_findTwos_25 rfl (lv_at hl 1 rfl) ?_
  refine r_get (C := RX9) (T := TX9) (Nf := 31) hx hb hts hown hK hG (by decide) rfl rfl inX9 27 (by decide) qF_X9_52 rfl dX9_findTwos_26 ?_
  refine lv_iload hx hb dX9_findTwos_29 (lv_at hl 0 rfl) ?_
  obtain ⟨hi, hw⟩ := hw
  refine r_iald hx hb hK hG (isB_15).1 ((isB_15).2 y _) hi dX9_findTwos_31 ?_
  refine lv_istore (lv' := [(5, .int (st 15 ((x1 &&& (((1 : Int32) <<< (v3 &&& 31)) ^^^ (-1)))).toNatClampNeg)), (4, .int (x1 &&& (((1 : Int32) <<< (v3 &&& 31)) ^^^ (-1)))), (0, .ref (ad y 0)), (1, .int x1), (2, .int x2), (3, .int v3)]) hx hb dX9_findTwos_32 hl (Nat.le_of_ble_eq_true rfl) rfl (fun ls hl => ?_)
  refine lv_iload_n hx hb dX9_findTwos_34 rfl (lv_at hl 5 rfl) ?_
  refine lv_iconst (v := 1) hx hb dX9_findTwos_35 (by decide) ?_
  refine lv_iadd hx hb dX9_findTwos_36 ?_
  refine lv_istore (lv' := [(6, .int (v3 + 1)), (5, .int (st 15 ((x1 &&& (((1 : Int32) <<< (v3 &&& 31)) ^^^ (-1)))).toNatClampNeg)), (4, .int (x1 &&& (((1 : Int32) <<< (v3 &&& 31)) ^^^ (-1)))), (0, .ref (ad y 0)), (1, .int x1), (2, .int x2), (3, .int v3)]) hx hb dX9_findTwos_37 hl (Nat.le_of_ble_eq_true rfl) rfl (fun ls hl => ?_)
  obtain ⟨n39, hw⟩ := hw
  exact z_X9_findTwos_L39 l y x1 x2 C  K  n39 v3 (x1 &&& (((1 : Int32) <<< (v3 &&& 31)) ^^^ (-1))) (st 15 ((x1 &&& (((1 : Int32) <<< (v3 &&& 31)) ^^^ (-1)))).toNatClampNeg) (v3 + 1) st H locs _ hG (lv_sub hl [3, 4, 5, 6, 2, 1, 0] rfl) hw
set_option maxRecDepth 100000 in
set_option maxHeartbeats 4000000 in
theorem z_X9_findTwos_L2 {p : Program} {e : Env} {s : State} {m : MethodId} {args : Array Value} {below : List Frame} {meth : Method} {c : Code} (l : Launch) (y : Sy) (x1 : Int32) (x2 : Int32) (C : Sd p s m args meth c cX9_findTwos 8 RX9 none y)  (K : St → Prop)  : ∀ (n : Nat) (v3 : Int32) (st : St) (H : Heap) (locs : List Loc) (ls : Array Slot), gH 17 enM y st s H locs → lv_has ls 8 [(0, .ref (ad y 0)), (1, .int x1), (2, .int x2), (3, .int v3)] → w_X9_findTwos_L2 x1 x2  K n v3 st → W p l e (rmm 1 22) s m args below meth c H locs 0 0 (MQ below (va_Qv K (gB 17 enM y) (gA 17 y)) args s 0 0 (gA 17 y)) (F0 m 2 ls []) := by
  obtain ⟨hx, hb, hml, hown, hts, hr, hlk, hK, hN⟩ := id C
  intro n
  induction n with
  | zero => intro v3 st H locs ls hG hl hw; exact False.elim hw
  | succ n hc2 =>
    intro v3 st H locs ls hG hl hw
    have hw : w_X9_findTwos_L2q x1 x2  K (fun v3 st => w_X9_findTwos_L2 x1 x2  K n v3 st) v3 st := hw
    unfold w_X9_findTwos_L2q at hw
    refine lv_iload_n hx hb dX9_findTwos_2 rfl (lv_at hl 1 rfl) ?_
    refine lv_iload_n hx hb dX9_findTwos_3 rfl (lv_at hl 3 rfl) ?_
    refine r_ki (r_run_S (As := [.int x1, .int v3]) (rest := []) hx hb hml hown hts hK hN hG (c_X9_has l y x1 v3 st _ hw) qM_X9_174 qT_X9_has qN_X9 qC_X9_has hd_X9_has ⟨Nat.le_of_ble_eq_true rfl, Nat.le_of_ble_eq_true rfl⟩ hl.1 rfl (Nat.le_of_ble_eq_true rfl) dX9_findTwos_4) hG (fun r4 st4 H locs hw hG => ?_)
    refine lv_if_ne (tgt := 16) hx hb dX9_findTwos_7 (by decide) (fun hc => ?_) (fun hc => ?_)
    · replace hw := hw.1 hc
      exact z_X9_findTwos_b16 l y x1 x2 C  K  v3 st4 hG (lv_sub hl [0, 1, 2, 3] rfl) hw
    · replace hw := hw.2 hc
      refine lv_iinc (v := (v3 + 1)) (lv' := [(3, .int (v3 + 1)), (0, .ref (ad y 0)), (1, .int x1), (2, .int x2)]) hx hb dX9_findTwos_10 hl (k := 3) rfl rfl (Nat.le_of_ble_eq_true rfl) rfl (fun ls hl => ?_)
      refine lv_goto (tgt := 2) hx hb dX9_findTwos_13 (by decide) ?_
      exact hc2 (v3 + 1) st4 H locs _ hG (lv_sub hl [1, 2, 3, 0] rfl) hw
theorem hd_X9_findTwos : yX9_findTwos.cls ≠ "java/lang/invoke/MethodHandle" ∧ yX9_findTwos.cls ≠ "java/lang/invoke/VarHandle" ∧ (parseMethodDescriptor yX9_findTwos.desc).map (fun d => d.parameters.length) = some 2 := by decide +kernel
set_option maxRecDepth 100000 in
set_option maxHeartbeats 4000000 in
theorem c_X9_findTwos (l : Launch) (y : Sy) (x1 : Int32) (x2 : Int32) (st : St) (K : St → Prop) (hw : w_X9_findTwos x1 x2 st K) : Cv 17 enM l yX9_findTwos cX9_findTwos 8 none 1 22 y [.ref (ad y 0), .int x1, .int x2] st K := by
  refine ent (by decide) (Nat.le_of_ble_eq_true rfl) ?_
  intro p e s m below meth c C hG ls hl
  have hl : lv_has ls 8 [(0, .ref (ad y 0)), (1, .int x1), (2, .int x2)] := hl
  generalize ([.ref (ad y 0), .int x1, .int x2] : List Value).toArray = args at C ⊢
  have C : Sd p s m args meth c cX9_findTwos 8 RX9 none y := C
  obtain ⟨hx, hb, hml, hown, hts, hr, hlk, hK, hN⟩ := id C
  generalize s.heap = H at hG ⊢
  generalize ([] : List Loc) = locs at hG ⊢
  unfold w_X9_findTwos at hw
  refine lv_iconst (v := 0) hx hb dX9_findTwos_0 (by decide) ?_
  refine lv_istore_n (lv' := [(3, .int 0), (0, .ref (ad y 0)), (1, .int x1), (2, .int x2)]) hx hb dX9_findTwos_1 rfl hl (Nat.le_of_ble_eq_true rfl) rfl (fun ls hl => ?_)
  obtain ⟨n2, hw⟩ := hw
  exact z_X9_findTwos_L2 l y x1 x2 C  K  n2 0 st H locs _ hG (lv_sub hl [1, 2, 3, 0] rfl) hw
set_option maxRecDepth 100000 in
set_option maxHeartbeats 4000000 in
theorem z_X9_pairs_b49 {p : Program} {e : Env} {s : State} {m : MethodId} {args : Array Value} {below : List Frame} {meth : Method} {c : Code} (l : Launch) (y : Sy) (x1 : Int32) (C : Sd p s m args meth c cX9_pairs 4 RX9 (some .int) y)  (K : Int32 → St → Prop)   (st : St) {H : Heap} {locs : List Loc} {ls : Array Slot} (hG : gH 17 enM y st s H locs) (hl : lv_has ls 4 [(0, .ref (ad y 0))]) (hw : w_X9_pairs_b49 x1  K  st) : W p l e (rmm 2 49) s m args below meth c H locs 0 0 (MQ below (va_Qi K (gB 17 enM y) (gA 17 y)) args s 0 0 (gA 17 y)) (F0 m 49 ls []) := by
  obtain ⟨hx, hb, hml, hown, hts, hr, hlk, hK, hN⟩ := id C
  unfold w_X9_pairs_b49 at hw
  refine lv_aload_n hx hb dX9_pairs_49 rfl (lv_at hl 0 rfl) ?_
  refine r_get (C := RX9) (T := TX9) (Nf := 31) hx hb hts hown hK hG (by decide) rfl rfl inX9 27 (by decide) qF_X9_52 rfl dX9_pairs_50 ?_
  refine lv_iconst (v := 1) hx hb dX9_pairs_53 (by decide) ?_
  refine lv_aload_n hx hb dX9_pairs_54 rfl (lv_at hl 0 rfl) ?_
  refine r_get (C := RX9) (T := TX9) (Nf := 31) hx hb hts hown hK hG (by decide) rfl rfl inX9 8 (by decide) qF_X9_65 rfl dX9_pairs_55 ?_
  refine lv_ishl hx hb dX9_pairs_58 ?_
  refine lv_iconst (v := 1) hx hb dX9_pairs_59 (by decide) ?_
  refine lv_isub hx hb dX9_pairs_60 ?_
  obtain ⟨hi, hw⟩ := hw
  refine r_iald hx hb hK hG (isB_15).1 ((isB_15).2 y _) hi dX9_pairs_61 ?_
  exact r_iret hx hb hr hlk hK hG rfl hw dX9_pairs_62
set_option maxRecDepth 100000 in
set_option maxHeartbeats 4000000 in
theorem z_X9_pairs_L27 {p : Program} {e : Env} {s : State} {m : MethodId} {args : Array Value} {below : List Frame} {meth : Method} {c : Code} (l : Launch) (y : Sy) (x1 : Int32) (C : Sd p s m args meth c cX9_pairs 4 RX9 (some .int) y)  (K : Int32 → St → Prop)  : ∀ (n : Nat) (v3 : Int32) (st : St) (H : Heap) (locs : List Loc) (ls : Array Slot), gH 17 enM y st s H locs → lv_has ls 4 [(0, .ref (ad y 0)), (1, .int x1), (3, .int v3)] → w_X9_pairs_L27 x1  K n v3 st → W p l e (rmm 2 49) s m args below meth c H locs 0 0 (MQ below (va_Qi K (gB 17 enM y) (gA 17 y)) args s 0 0 (gA 17 y)) (F0 m 27 ls []) := by
  obtain ⟨hx, hb, hml, hown, hts, hr, hlk, hK, hN⟩ := id C
  intro n
  induction n with
  | zero => intro v3 st H locs ls hG hl hw; exact False.elim hw
  | succ n hc27 =>
    intro v3 st H locs ls hG hl hw
    have hw : w_X9_pairs_L27q x1  K (fun v3 st => w_X9_pairs_L27 x1  K n v3 st) v3 st := hw
    unfold w_X9_pairs_L27q at hw
    refine lv_iload_n hx hb dX9_pairs_27 rfl (lv_at hl 2 rfl) ?_
    refine lv_iconst (v := 1) hx hb dX9_pairs_28 (by decide) ?_
    refine lv_aload_n hx hb dX9_pairs_29 rfl (lv_at hl 0 rfl) ?_
    refine r_get (C := RX9) (T := TX9) (Nf := 31) hx hb hts hown hK hG (by decide) rfl rfl inX9 8 (by decide) qF_X9_65 rfl dX9_pairs_30 ?_
    refine lv_ishl hx hb dX9_pairs_33 ?_
    refine lv_icmp_ge (tgt := 49) hx hb dX9_pairs_34 (by decide) (fun hc => ?_) (fun hc => ?_)
    · replace hw := hw.1 hc
      exact z_X9_pairs_b49 l y x1 C  K  st hG (lv_sub hl [0] rfl) hw
    · replace hw := hw.2 hc
      refine lv_aload_n hx hb dX9_pairs_37 rfl (lv_at hl 0 rfl) ?_
      refine lv_iload_n hx hb dX9_pairs_38 rfl (lv_at hl 2 rfl) ?_
      refine lv_iload_n hx hb dX9_pairs_39 rfl (lv_at hl 1 rfl) ?_
      refine r_kv (r_run_V (k := 0) (As := [.int v3, .int x1]) (rest := []) hx hb hml hown hts hK hN hG (c_X9_findTwos l y v3 x1 st _ hw) (by decide) rfl rfl rfl qM_X9_265 qI_X9_findTwos qS_X9_findTwos qN_X9 qC_X9_findTwos hd_X9_findTwos ⟨Nat.le_of_ble_eq_true rfl, Nat.le_of_ble_eq_true rfl⟩ hl.1 rfl (Nat.le_of_ble_eq_true rfl) dX9_pairs_40) hG (fun st40 H locs hw hG => ?_)
      refine lv_iinc (v := (v3 + 1)) (lv' := [(3, .int (v3 + 1)), (0, .ref (ad y 0)), (1, .int x1)]) hx hb dX9_pairs_43 hl (k := 2) rfl rfl (Nat.le_of_ble_eq_true rfl) rfl (fun ls hl => ?_)
      refine lv_goto (tgt := 27) hx hb dX9_pairs_46 (by decide) ?_
      exact hc27 (v3 + 1) st40 H locs _ hG (lv_sub hl [1, 2, 0] rfl) hw
theorem hd_X9_pairs : yX9_pairs.cls ≠ "java/lang/invoke/MethodHandle" ∧ yX9_pairs.cls ≠ "java/lang/invoke/VarHandle" ∧ (parseMethodDescriptor yX9_pairs.desc).map (fun d => d.parameters.length) = some 1 := by decide +kernel
set_option maxRecDepth 100000 in
set_option maxHeartbeats 4000000 in
theorem c_X9_pairs (l : Launch) (y : Sy) (x1 : Int32) (st : St) (K : Int32 → St → Prop) (hw : w_X9_pairs x1 st K) : Ci 17 enM l yX9_pairs cX9_pairs 4 (some .int) 2 49 y [.ref (ad y 0), .int x1] st K := by
  refine ent (by decide) (Nat.le_of_ble_eq_true rfl) ?_
  intro p e s m below meth c C hG ls hl
  have hl : lv_has ls 4 [(0, .ref (ad y 0)), (1, .int x1)] := hl
  generalize ([.ref (ad y 0), .int x1] : List Value).toArray = args at C ⊢
  have C : Sd p s m args meth c cX9_pairs 4 RX9 (some .int) y := C
  obtain ⟨hx, hb, hml, hown, hts, hr, hlk, hK, hN⟩ := id C
  generalize s.heap = H at hG ⊢
  generalize ([] : List Loc) = locs at hG ⊢
  unfold w_X9_pairs at hw
  refine lv_iload_n hx hb dX9_pairs_0 rfl (lv_at hl 1 rfl) ?_
  refine lv_iconst (v := 0) hx hb dX9_pairs_1 (by decide) ?_
  refine lv_bipush (v := 99) hx hb dX9_pairs_2 (by decide) ?_
  refine r_ki (r_run_S (As := [.int x1, .int 0, .int 99]) (rest := []) hx hb hml hown hts hK hN hG (c_X9_bound l y x1 0 99 st _ hw) qM_X9_72 qT_X9_bound qN_X9 qC_X9_bound hd_X9_bound ⟨Nat.le_of_ble_eq_true rfl, Nat.le_of_ble_eq_true rfl⟩ hl.1 rfl (Nat.le_of_ble_eq_true rfl) dX9_pairs_4) hG (fun r4 st4 H locs hw hG => ?_)
  refine lv_istore_n (lv' := [(2, .int r4), (0, .ref (ad y 0)), (1, .int x1)]) hx hb dX9_pairs_7 rfl hl (Nat.le_of_ble_eq_true rfl) rfl (fun ls hl => ?_)
  refine lv_iload_n hx hb dX9_pairs_8 rfl (lv_at hl 0 rfl) ?_
  refine lv_if_eq (tgt := 18) hx hb dX9_pairs_9 (by decide) (fun hc => ?_) (fun hc => ?_)
  · replace hw := hw.1 hc
    refine lv_aload_n hx hb dX9_pairs_18 rfl (lv_at hl 1 rfl) ?_
    refine r_get (C := RX9) (T := TX9) (Nf := 31) hx hb hts hown hK hG (by decide) rfl rfl inX9 27 (by decide) qF_X9_52 rfl dX9_pairs_19 ?_
    refine lv_iconst (v := 0) hx hb dX9_pairs_22 (by decide) ?_
    refine lv_iconst (v := 0) hx hb dX9_pairs_23 (by decide) ?_
    obtain ⟨hi, hw⟩ := hw
    refine r_iast hx hb hK hG (isB_15).1 (fun f => (isB_15).2 y f) hi dX9_pairs_24 (fun H locs hG => ?_)
    refine lv_iconst (v := 1) hx hb dX9_pairs_25 (by decide) ?_
    refine lv_istore_n (lv' := [(3, .int 1), (2, .int r4), (0, .ref (ad y 0)), (1, .int x1)]) hx hb dX9_pairs_26 rfl hl (Nat.le_of_ble_eq_true rfl) rfl (fun ls hl => ?_)
    obtain ⟨n27, hw⟩ := hw
    exact z_X9_pairs_L27 l y x1 C  K  n27 1 (u2 st4 15 (0 : Int32).toNatClampNeg 0) H locs _ hG (lv_sub hl [2, 3, 0] rfl) hw
  · replace hw := hw.2 hc
    refine lv_aload_n hx hb dX9_pairs_12 rfl (lv_at hl 1 rfl) ?_
    refine lv_iload_n hx hb dX9_pairs_13 rfl (lv_at hl 0 rfl) ?_
    refine r_ki (r_run_V (k := 0) (As := [.int r4]) (rest := []) hx hb hml hown hts hK hN hG (c_X9_no l y r4 st4 _ hw) (by decide) rfl rfl rfl qM_X9_79 qI_X9_no qS_X9_no qN_X9 qC_X9_no hd_X9_no ⟨Nat.le_of_ble_eq_true rfl, Nat.le_of_ble_eq_true rfl⟩ hl.1 rfl (Nat.le_of_ble_eq_true rfl) dX9_pairs_14) hG (fun r14 st14 H locs hw hG => ?_)
    exact r_iret hx hb hr hlk hK hG rfl hw dX9_pairs_17
set_option maxRecDepth 100000 in
set_option maxHeartbeats 4000000 in
theorem z_X9_worst_b116 {p : Program} {e : Env} {s : State} {m : MethodId} {args : Array Value} {below : List Frame} {meth : Method} {c : Code} (l : Launch) (y : Sy) (x1 : Int32) (C : Sd p s m args meth c cX9_worst 8 RX9 (some .int) y) (c28 : Int32 → Int32 → Int32 → Int32 → St → Prop) (K : Int32 → St → Prop) (hc28 : ∀ (v2 : Int32) (v3 : Int32) (v4 : Int32) (v5 : Int32) (st : St) (H : Heap) (locs : List Loc) (ls : Array Slot), gH 17 enM y st s H locs → lv_has ls 8 [(0, .ref (ad y 0)), (1, .int x1), (2, .int v2), (3, .int v3), (4, .int v4), (5, .int v5)] → c28 v2 v3 v4 v5 st → W p l e (rmm 1 22) s m args below meth c H locs 0 0 (MQ below (va_Qi K (gB 17 enM y) (gA 17 y)) args s 0 0 (gA 17 y)) (F0 m 28 ls [])) (v2 : Int32) (v3 : Int32) (v4 : Int32) (v5 : Int32) (st : St) {H : Heap} {locs : List Loc} {ls : Array Slot} (hG : gH 17 enM y st s H locs) (hl : lv_has ls 8 [(0, .ref (ad y 0)), (1, .int x1), (2, .int v2), (3, .int v3), (4, .int v4), (5, .int v5)]) (hw : w_X9_worst_b116 x1 c28 K v2 v3 v4 v5 st) : W p l e (rmm 1 22) s m args below meth c H locs 0 0 (MQ below (va_Qi K (gB 17 enM y) (gA 17 y)) args s 0 0 (gA 17 y)) (F0 m 116 ls []) := by
  obtain ⟨hx, hb, hml, hown, hts, hr, hlk, hK, hN⟩ := id C
  unfold w_X9_worst_b116 at hw
  refine lv_iinc (v := (v5 + 1)) (lv' := [(5, .int (v5 + 1)), (0, .ref (ad y 0)), (1, .int x1), (2, .int v2), (3, .int v3), (4, .int v4)]) hx hb dX9_worst_116 hl (k := 5) rfl rfl (Nat.le_of_ble_eq_true rfl) rfl (fun ls hl => ?_)
  refine lv_goto (tgt := 28) hx hb dX9_worst_119 (by decide) ?_
  exact hc28 v2 v3 v4 (v5 + 1) st H locs _ hG (lv_sub hl [1, 2, 3, 4, 5, 0] rfl) hw
set_option maxRecDepth 100000 in
set_option maxHeartbeats 4000000 in
theorem z_X9_worst_b86 {p : Program} {e : Env} {s : State} {m : MethodId} {args : Array Value} {below : List Frame} {meth : Method} {c : Code} (l : Launch) (y : Sy) (x1 : Int32) (C : Sd p s m args meth c cX9_worst 8 RX9 (some .int) y) (c28 : Int32 → Int32 → Int32 → Int32 → St → Prop) (K : Int32 → St → Prop) (hc28 : ∀ (v2 : Int32) (v3 : Int32) (v4 : Int32) (v5 : Int32) (st : St) (H : Heap) (locs : List Loc) (ls : Array Slot), gH 17 enM y st s H locs → lv_has ls 8 [(0, .ref (ad y 0)), (1, .int x1), (2, .int v2), (3, .int v3), (4, .int v4), (5, .int v5)] → c28 v2 v3 v4 v5 st → W p l e (rmm 1 22) s m args below meth c H locs 0 0 (MQ below (va_Qi K (gB 17 enM y) (gA 17 y)) args s 0 0 (gA 17 y)) (F0 m 28 ls [])) (v2 : Int32) (v3 : Int32) (v5 : Int32) (v6 : Int32) (v7 : Int32) (s0 : Int32) (s1 : Int32) (st : St) {H : Heap} {locs : List Loc} {ls : Array Slot} (hG : gH 17 enM y st s H locs) (hl : lv_has ls 8 [(0, .ref (ad y 0)), (1, .int x1), (2, .int v2), (3, .int v3), (5, .int v5), (6, .int v6), (7, .int v7)]) (hw : w_X9_worst_b86 x1 c28 K v2 v3 v5 v6 v7 s0 s1 st) : W p l e (rmm 1 22) s m args below meth c H locs 0 0 (MQ below (va_Qi K (gB 17 enM y) (gA 17 y)) args s 0 0 (gA 17 y)) (F0 m 86 ls [.int s0, .int s1]) := by
  obtain ⟨hx, hb, hml, hown, hts, hr, hlk, hK, hN⟩ := id C
  unfold w_X9_worst_b86 at hw
  refine lv_iadd hx hb dX9_worst_86 ?_
  refine lv_istore (lv' := [(4, .int (s1 + s0)), (0, .ref (ad y 0)), (1, .int x1), (2, .int v2), (3, .int v3), (5, .int v5), (6, .int v6), (7, .int v7)]) hx hb dX9_worst_87 hl (Nat.le_of_ble_eq_true rfl) rfl (fun ls hl => ?_)
  refine lv_aload_n hx hb dX9_worst_89 rfl (lv_at hl 1 rfl) ?_
  refine lv_iload hx hb dX9_worst_90 (lv_at hl 6 rfl) ?_
  refine lv_iload hx hb dX9_worst_92 (lv_at hl 7 rfl) ?_
  refine r_ki (r_run_V (k := 0) (As := [.int v6, .int v7]) (rest := []) hx hb hml hown hts hK hN hG (c_X9_hateOf l y v6 v7 st _ hw) (by decide) rfl rfl rfl qM_X9_180 qI_X9_hateOf qS_X9_hateOf qN_X9 qC_X9_hateOf hd_X9_hateOf ⟨Nat.le_of_ble_eq_true rfl, Nat.le_of_ble_eq_true rfl⟩ hl.1 rfl (Nat.le_of_ble_eq_true rfl) dX9_worst_94) hG (fun r94 st94 H locs hw hG => ?_)
  refine lv_iload_n hx hb dX9_worst_97 rfl (lv_at hl 4 rfl) ?_
  refine lv_icmp_gt (tgt := 104) hx hb dX9_worst_98 (by decide) (fun hc => ?_) (fun hc => ?_)
  · replace hw := hw.1 hc
    refine lv_iload hx hb dX9_worst_104 (lv_at hl 5 rfl) ?_
    refine lv_istore_n (lv' := [(2, .int v5), (4, .int (s1 + s0)), (0, .ref (ad y 0)), (1, .int x1), (3, .int v3), (5, .int v5), (6, .int v6), (7, .int v7)]) hx hb dX9_worst_106 rfl hl (Nat.le_of_ble_eq_true rfl) rfl (fun ls hl => ?_)
    refine lv_aload_n hx hb dX9_worst_107 rfl (lv_at hl 2 rfl) ?_
    refine lv_iload hx hb dX9_worst_108 (lv_at hl 6 rfl) ?_
    refine lv_iload hx hb dX9_worst_110 (lv_at hl 7 rfl) ?_
    refine r_ki (r_run_V (k := 0) (As := [.int v6, .int v7]) (rest := []) hx hb hml hown hts hK hN hG (c_X9_hateOf l y v6 v7 st94 _ hw) (by decide) rfl rfl rfl qM_X9_180 qI_X9_hateOf qS_X9_hateOf qN_X9 qC_X9_hateOf hd_X9_hateOf ⟨Nat.le_of_ble_eq_true rfl, Nat.le_of_ble_eq_true rfl⟩ hl.1 rfl (Nat.le_of_ble_eq_true rfl) dX9_worst_112) hG (fun r112 st112 H locs hw hG => ?_)
    refine lv_istore_n (lv' := [(3, .int r112), (2, .int v5), (4, .int (s1 + s0)), (0, .ref (ad y 0)), (1, .int x1), (5, .int v5), (6, .int v6), (7, .int v7)]) hx hb dX9_worst_115 rfl hl (Nat.le_of_ble_eq_true rfl) rfl (fun ls hl => ?_)
    exact z_X9_worst_b116 l y x1 C c28 K hc28 v5 r112 (s1 + s0) v5 st112 hG (lv_sub hl [3, 4, 1, 0, 2, 5] rfl) hw
  · replace hw := hw.2 hc
    refine lv_goto (tgt := 116) hx hb dX9_worst_101 (by decide) ?_
    exact z_X9_worst_b116 l y x1 C c28 K hc28 v2 v3 (s1 + s0) v5 st94 hG (lv_sub hl [1, 2, 3, 4, 0, 5] rfl) hw
set_option maxRecDepth 100000 in
set_option maxHeartbeats 4000000 in
theorem z_X9_worst_b122 {p : Program} {e : Env} {s : State} {m : MethodId} {args : Array Value} {below : List Frame} {meth : Method} {c : Code} (l : Launch) (y : Sy) (x1 : Int32) (C : Sd p s m args meth c cX9_worst 8 RX9 (some .int) y)  (K : Int32 → St → Prop)  (v2 : Int32) (v3 : Int32) (v4 : Int32) (st : St) {H : Heap} {locs : List Loc} {ls : Array Slot} (hG : gH 17 enM y st s H locs) (hl : lv_has ls 8 [(1, .int x1), (2, .int v2), (3, .int v3), (4, .int v4)]) (hw : w_X9_worst_b122 x1  K v2 v3 v4 st) : W p l e (rmm 1 22) s m args below meth c H locs 0 0 (MQ below (va_Qi K (gB 17 enM y) (gA 17 y)) args s 0 0 (gA 17 y)) (F0 m 122 ls []) := by
  obtain ⟨hx, hb, hml, hown, hts, hr, hlk, hK, hN⟩ := id C
  unfold w_X9_worst_b122 at hw
  refine lv_iload_n hx hb dX9_worst_122 rfl (lv_at hl 0 rfl) ?_
  refine lv_if_ne (tgt := 130) hx hb dX9_worst_123 (by decide) (fun hc => ?_) (fun hc => ?_)
  · replace hw := hw.1 hc
    refine lv_iload_n hx hb dX9_worst_130 rfl (lv_at hl 0 rfl) ?_
    refine lv_iconst (v := 1) hx hb dX9_worst_131 (by decide) ?_
    refine lv_icmp_ne (tgt := 139) hx hb dX9_worst_132 (by decide) (fun hc => ?_) (fun hc => ?_)
    · replace hw := hw.1 hc
      refine lv_iload hx hb dX9_worst_139 (lv_at hl 3 rfl) ?_
      exact r_iret hx hb hr hlk hK hG rfl hw dX9_worst_141
    · replace hw := hw.2 hc
      refine lv_iload_n hx hb dX9_worst_135 rfl (lv_at hl 2 rfl) ?_
      refine lv_goto (tgt := 141) hx hb dX9_worst_136 (by decide) ?_
      exact r_iret hx hb hr hlk hK hG rfl hw dX9_worst_141
  · replace hw := hw.2 hc
    refine lv_iload_n hx hb dX9_worst_126 rfl (lv_at hl 1 rfl) ?_
    refine lv_goto (tgt := 141) hx hb dX9_worst_127 (by decide) ?_
    exact r_iret hx hb hr hlk hK hG rfl hw dX9_worst_141
set_option maxRecDepth 100000 in
set_option maxHeartbeats 4000000 in
theorem z_X9_worst_L28 {p : Program} {e : Env} {s : State} {m : MethodId} {args : Array Value} {below : List Frame} {meth : Method} {c : Code} (l : Launch) (y : Sy) (x1 : Int32) (C : Sd p s m args meth c cX9_worst 8 RX9 (some .int) y)  (K : Int32 → St → Prop)  : ∀ (n : Nat) (v2 : Int32) (v3 : Int32) (v4 : Int32) (v5 : Int32) (st : St) (H : Heap) (locs : List Loc) (ls : Array Slot), gH 17 enM y st s H locs → lv_has ls 8 [(0, .ref (ad y 0)), (1, .int x1), (2, .int v2), (3, .int v3), (4, .int v4), (5, .int v5)] → w_X9_worst_L28 x1  K n v2 v3 v4 v5 st → W p l e (rmm 1 22) s m args below meth c H locs 0 0 (MQ below (va_Qi K (gB 17 enM y) (gA 17 y)) args s 0 0 (gA 17 y)) (F0 m 28 ls []) := by
  obtain ⟨hx, hb, hml, hown, hts, hr, hlk, hK, hN⟩ := id C
  intro n
  induction n with
  | zero => intro v2 v3 v4 v5 st H locs ls hG hl hw; exact False.elim hw
  | succ n hc28 =>
    intro v2 v3 v4 v5 st H locs ls hG hl hw
    have hw : w_X9_worst_L28q x1  K (fun v2 v3 v4 v5 st => w_X9_worst_L28 x1  K n v2 v3 v4 v5 st) v2 v3 v4 v5 st := hw
    unfold w_X9_worst_L28q at hw
    refine lv_iload hx hb dX9_worst_28 (lv_at hl 5 rfl) ?_
    refine lv_bipush (v := 60) hx hb dX9_worst_30 (by decide) ?_
    refine lv_icmp_ge (tgt := 122) hx hb dX9_worst_32 (by decide) (fun hc => ?_) (fun hc => ?_)
    · replace hw := hw.1 hc
      exact z_X9_worst_b122 l y x1 C  K  v2 v3 v4 st hG (lv_sub hl [1, 2, 3, 4] rfl) hw
    · replace hw := hw.2 hc
      refine lv_iload hx hb dX9_worst_35 (lv_at hl 5 rfl) ?_
      refine lv_bipush (v := 10) hx hb dX9_worst_37 (by decide) ?_
      refine lv_idiv hx hb dX9_worst_39 (by decide) ?_
      refine lv_istore (lv' := [(6, .int (v5 / 10)), (0, .ref (ad y 0)), (1, .int x1), (2, .int v2), (3, .int v3), (4, .int v4), (5, .int v5)]) hx hb dX9_worst_40 hl (Nat.le_of_ble_eq_true rfl) rfl (fun ls hl => ?_)
      refine lv_iload hx hb dX9_worst_42 (lv_at hl 6 rfl) ?_
      refine lv_bipush (v := 10) hx hb dX9_worst_44 (by decide) ?_
      refine lv_irem hx hb dX9_worst_46 (by decide) ?_
      refine lv_istore (lv' := [(7, .int (v5 - v5 / 10 * 10)), (6, .int (v5 / 10)), (0, .ref (ad y 0)), (1, .int x1), (2, .int v2), (3, .int v3), (4, .int v4), (5, .int v5)]) hx hb dX9_worst_47 hl (Nat.le_of_ble_eq_true rfl) rfl (fun ls hl => ?_)
      refine lv_iload hx hb dX9_worst_49 (lv_at hl 1 rfl) ?_
      refine lv_iload hx hb dX9_worst_51 (lv_at hl 0 rfl) ?_
      refine lv_icmp_ge (tgt := 116) hx hb dX9_worst_53 (by decide) (fun hc => ?_) (fun hc => ?_)
      · replace hw := hw.1 hc
        exact z_X9_worst_b116 l y x1 C (fun v2 v3 v4 v5 st => w_X9_worst_L28 x1  K n v2 v3 v4 v5 st) K hc28 v2 v3 v4 v5 st hG (lv_sub hl [2, 3, 4, 5, 6, 7] rfl) hw
      · replace hw := hw.2 hc
        refine lv_iload hx hb dX9_worst_56 (lv_at hl 0 rfl) ?_
        refine lv_aload_n hx hb dX9_worst_58 rfl (lv_at hl 2 rfl) ?_
        refine r_get (C := RX9) (T := TX9) (Nf := 31) hx hb hts hown hK hG (by decide) rfl rfl inX9 8 (by decide) qF_X9_65 rfl dX9_worst_59 ?_
        refine lv_icmp_lt (tgt := 68) hx hb dX9_worst_62 (by decide) (fun hc => ?_) (fun hc => ?_)
        · replace hw := hw.1 hc
          refine lv_iload hx hb dX9_worst_68 (lv_at hl 6 rfl) ?_
          refine lv_aload_n hx hb dX9_worst_70 rfl (lv_at hl 2 rfl) ?_
          refine lv_iload hx hb dX9_worst_71 (lv_at hl 1 rfl) ?_
          refine lv_iload hx hb dX9_worst_73 (lv_at hl 0 rfl) ?_
          refine r_ki (r_run_V (k := 0) (As := [.int (v5 / 10), .int (v5 - v5 / 10 * 10)]) (rest := [.int v4]) hx hb hml hown hts hK hN hG (c_X9_hateOf l y (v5 / 10) (v5 - v5 / 10 * 10) st _ hw) (by decide) rfl rfl rfl qM_X9_180 qI_X9_hateOf qS_X9_hateOf qN_X9 qC_X9_hateOf hd_X9_hateOf ⟨Nat.le_of_ble_eq_true rfl, Nat.le_of_ble_eq_true rfl⟩ hl.1 rfl (Nat.le_of_ble_eq_true rfl) dX9_worst_75) hG (fun r75 st75 H locs hw hG => ?_)
          refine lv_if_ne (tgt := 85) hx hb dX9_worst_78 (by decide) (fun hc => ?_) (fun hc => ?_)
          · replace hw := hw.1 hc
            refine lv_iconst (v := 0) hx hb dX9_worst_85 (by decide) ?_
            exact z_X9_worst_b86 l y x1 C (fun v2 v3 v4 v5 st => w_X9_worst_L28 x1  K n v2 v3 v4 v5 st) K hc28 v2 v3 v5 (v5 / 10) (v5 - v5 / 10 * 10) 0 v4 st75 hG (lv_sub hl [2, 3, 4, 5, 7, 1, 0] rfl) hw
          · replace hw := hw.2 hc
            refine lv_iconst (v := 1) hx hb dX9_worst_81 (by decide) ?_
            refine lv_goto (tgt := 86) hx hb dX9_worst_82 (by decide) ?_
            exact z_X9_worst_b86 l y x1 C (fun v2 v3 v4 v5 st => w_X9_worst_L28 x1  K n v2 v3 v4 v5 st) K hc28 v2 v3 v5 (v5 / 10) (v5 - v5 / 10 * 10) 1 v4 st75 hG (lv_sub hl [2, 3, 4, 5, 7, 1, 0] rfl) hw
        · replace hw := hw.2 hc
          refine lv_goto (tgt := 116) hx hb dX9_worst_65 (by decide) ?_
          exact z_X9_worst_b116 l y x1 C (fun v2 v3 v4 v5 st => w_X9_worst_L28 x1  K n v2 v3 v4 v5 st) K hc28 v2 v3 v4 v5 st hG (lv_sub hl [2, 3, 4, 5, 6, 7] rfl) hw
theorem hd_X9_worst : yX9_worst.cls ≠ "java/lang/invoke/MethodHandle" ∧ yX9_worst.cls ≠ "java/lang/invoke/VarHandle" ∧ (parseMethodDescriptor yX9_worst.desc).map (fun d => d.parameters.length) = some 1 := by decide +kernel
set_option maxRecDepth 100000 in
set_option maxHeartbeats 4000000 in
theorem c_X9_worst (l : Launch) (y : Sy) (x1 : Int32) (st : St) (K : Int32 → St → Prop) (hw : w_X9_worst x1 st K) : Ci 17 enM l yX9_worst cX9_worst 8 (some .int) 1 22 y [.ref (ad y 0), .int x1] st K := by
  refine ent (by decide) (Nat.le_of_ble_eq_true rfl) ?_
  intro p e s m below meth c C hG ls hl
  have hl : lv_has ls 8 [(0, .ref (ad y 0)), (1, .int x1)] := hl
  generalize ([.ref (ad y 0), .int x1] : List Value).toArray = args at C ⊢
  have C : Sd p s m args meth c cX9_worst 8 RX9 (some .int) y := C
  obtain ⟨hx, hb, hml, hown, hts, hr, hlk, hK, hN⟩ := id C
  generalize s.heap = H at hG ⊢
  generalize ([] : List Loc) = locs at hG ⊢
  unfold w_X9_worst at hw
  refine lv_iload_n hx hb dX9_worst_0 rfl (lv_at hl 1 rfl) ?_
  refine lv_iconst (v := 0) hx hb dX9_worst_1 (by decide) ?_
  refine lv_iconst (v := 2) hx hb dX9_worst_2 (by decide) ?_
  refine r_ki (r_run_S (As := [.int x1, .int 0, .int 2]) (rest := []) hx hb hml hown hts hK hN hG (c_X9_isIn l y x1 0 2 st _ hw) qM_X9_90 qT_X9_isIn qN_X9 qC_X9_isIn hd_X9_isIn ⟨Nat.le_of_ble_eq_true rfl, Nat.le_of_ble_eq_true rfl⟩ hl.1 rfl (Nat.le_of_ble_eq_true rfl) dX9_worst_3) hG (fun r3 st3 H locs hw hG => ?_)
  refine lv_if_ne (tgt := 16) hx hb dX9_worst_6 (by decide) (fun hc => ?_) (fun hc => ?_)
  · replace hw := hw.1 hc
    refine lv_bipush (v := (-9)) hx hb dX9_worst_16 (by decide) ?_
    refine lv_istore_n (lv' := [(2, .int (-9)), (0, .ref (ad y 0)), (1, .int x1)]) hx hb dX9_worst_18 rfl hl (Nat.le_of_ble_eq_true rfl) rfl (fun ls hl => ?_)
    refine lv_bipush (v := (-9)) hx hb dX9_worst_19 (by decide) ?_
    refine lv_istore_n (lv' := [(3, .int (-9)), (2, .int (-9)), (0, .ref (ad y 0)), (1, .int x1)]) hx hb dX9_worst_21 rfl hl (Nat.le_of_ble_eq_true rfl) rfl (fun ls hl => ?_)
    refine lv_iconst (v := 0) hx hb dX9_worst_22 (by decide) ?_
    refine lv_istore (lv' := [(4, .int 0), (3, .int (-9)), (2, .int (-9)), (0, .ref (ad y 0)), (1, .int x1)]) hx hb dX9_worst_23 hl (Nat.le_of_ble_eq_true rfl) rfl (fun ls hl => ?_)
    refine lv_iconst (v := 0) hx hb dX9_worst_25 (by decide) ?_
    refine lv_istore (lv' := [(5, .int 0), (4, .int 0), (3, .int (-9)), (2, .int (-9)), (0, .ref (ad y 0)), (1, .int x1)]) hx hb dX9_worst_26 hl (Nat.le_of_ble_eq_true rfl) rfl (fun ls hl => ?_)
    obtain ⟨n28, hw⟩ := hw
    exact z_X9_worst_L28 l y x1 C  K  n28 (-9) (-9) 0 0 st3 H locs _ hG (lv_sub hl [4, 5, 3, 2, 1, 0] rfl) hw
  · replace hw := hw.2 hc
    refine lv_aload_n hx hb dX9_worst_9 rfl (lv_at hl 0 rfl) ?_
    refine lv_bipush (v := (-2)) hx hb dX9_worst_10 (by decide) ?_
    refine r_ki (r_run_V (k := 0) (As := [.int (-2)]) (rest := []) hx hb hml hown hts hK hN hG (c_X9_no l y (-2) st3 _ hw) (by decide) rfl rfl rfl qM_X9_79 qI_X9_no qS_X9_no qN_X9 qC_X9_no hd_X9_no ⟨Nat.le_of_ble_eq_true rfl, Nat.le_of_ble_eq_true rfl⟩ hl.1 rfl (Nat.le_of_ble_eq_true rfl) dX9_worst_12) hG (fun r12 st12 H locs hw hG => ?_)
    exact r_iret hx hb hr hlk hK hG rfl hw dX9_worst_15
set_option maxRecDepth 100000 in
set_option maxHeartbeats 4000000 in
theorem z_X9_opensSo_b41 {p : Program} {e : Env} {s : State} {m : MethodId} {args : Array Value} {below : List Frame} {meth : Method} {c : Code} (l : Launch) (y : Sy)  (C : Sd p s m args meth c cX9_opensSo 3 RX9 (some .boolean) y) (c8 : Int32 → Int32 → St → Prop) (K : Int32 → St → Prop) (hc8 : ∀ (v1 : Int32) (v2 : Int32) (st : St) (H : Heap) (locs : List Loc) (ls : Array Slot), gH 17 enM y st s H locs → lv_has ls 3 [(0, .ref (ad y 0)), (1, .int v1), (2, .int v2)] → c8 v1 v2 st → W p l e (rmm 4 93) s m args below meth c H locs 0 0 (MQ below (va_Qi K (gB 17 enM y) (gA 17 y)) args s 0 0 (gA 17 y)) (F0 m 8 ls [])) (v2 : Int32) (s0 : Int32) (st : St) {H : Heap} {locs : List Loc} {ls : Array Slot} (hG : gH 17 enM y st s H locs) (hl : lv_has ls 3 [(0, .ref (ad y 0)), (2, .int v2)]) (hw : w_X9_opensSo_b41  c8 K v2 s0 st) : W p l e (rmm 4 93) s m args below meth c H locs 0 0 (MQ below (va_Qi K (gB 17 enM y) (gA 17 y)) args s 0 0 (gA 17 y)) (F0 m 41 ls [.int s0]) := by
  obtain ⟨hx, hb, hml, hown, hts, hr, hlk, hK, hN⟩ := id C
  unfold w_X9_opensSo_b41 at hw
  refine lv_istore_n (lv' := [(1, .int s0), (0, .ref (ad y 0)), (2, .int v2)]) hx hb dX9_opensSo_41 rfl hl (Nat.le_of_ble_eq_true rfl) rfl (fun ls hl => ?_)
  refine lv_aload_n hx hb dX9_opensSo_42 rfl (lv_at hl 1 rfl) ?_
  refine r_kv (r_run_V (k := 0) (As := []) (rest := []) hx hb hml hown hts hK hN hG (c_X9_goesWeek l y  st _ hw) (by decide) rfl rfl rfl qM_X9_202 qI_X9_goesWeek qS_X9_goesWeek qN_X9 qC_X9_goesWeek hd_X9_goesWeek ⟨Nat.le_of_ble_eq_true rfl, Nat.le_of_ble_eq_true rfl⟩ hl.1 rfl (Nat.le_of_ble_eq_true rfl) dX9_opensSo_43) hG (fun st43 H locs hw hG => ?_)
  refine lv_iinc (v := (v2 + 1)) (lv' := [(2, .int (v2 + 1)), (1, .int s0), (0, .ref (ad y 0))]) hx hb dX9_opensSo_46 hl (k := 2) rfl rfl (Nat.le_of_ble_eq_true rfl) rfl (fun ls hl => ?_)
  refine lv_goto (tgt := 8) hx hb dX9_opensSo_49 (by decide) ?_
  exact hc8 s0 (v2 + 1) st43 H locs _ hG (lv_sub hl [2, 1, 0] rfl) hw
set_option maxRecDepth 100000 in
set_option maxHeartbeats 4000000 in
theorem z_X9_opensSo_b52 {p : Program} {e : Env} {s : State} {m : MethodId} {args : Array Value} {below : List Frame} {meth : Method} {c : Code} (l : Launch) (y : Sy)  (C : Sd p s m args meth c cX9_opensSo 3 RX9 (some .boolean) y)  (K : Int32 → St → Prop)  (v1 : Int32) (st : St) {H : Heap} {locs : List Loc} {ls : Array Slot} (hG : gH 17 enM y st s H locs) (hl : lv_has ls 3 [(0, .ref (ad y 0)), (1, .int v1)]) (hw : w_X9_opensSo_b52   K v1 st) : W p l e (rmm 4 93) s m args below meth c H locs 0 0 (MQ below (va_Qi K (gB 17 enM y) (gA 17 y)) args s 0 0 (gA 17 y)) (F0 m 52 ls []) := by
  obtain ⟨hx, hb, hml, hown, hts, hr, hlk, hK, hN⟩ := id C
  unfold w_X9_opensSo_b52 at hw
  refine lv_aload_n hx hb dX9_opensSo_52 rfl (lv_at hl 0 rfl) ?_
  refine r_kv (r_run_V (k := 0) (As := []) (rest := []) hx hb hml hown hts hK hN hG (c_X9_forgets l y  st _ hw) (by decide) rfl rfl rfl qM_X9_220 qI_X9_forgets qS_X9_forgets qN_X9 qC_X9_forgets hd_X9_forgets ⟨Nat.le_of_ble_eq_true rfl, Nat.le_of_ble_eq_true rfl⟩ hl.1 rfl (Nat.le_of_ble_eq_true rfl) dX9_opensSo_53) hG (fun st53 H locs hw hG => ?_)
  refine lv_iload_n hx hb dX9_opensSo_56 rfl (lv_at hl 1 rfl) ?_
  exact r_iret hx hb hr hlk hK hG (r_nb hw.1) hw.2 dX9_opensSo_57
set_option maxRecDepth 100000 in
set_option maxHeartbeats 4000000 in
theorem z_X9_opensSo_L8 {p : Program} {e : Env} {s : State} {m : MethodId} {args : Array Value} {below : List Frame} {meth : Method} {c : Code} (l : Launch) (y : Sy)  (C : Sd p s m args meth c cX9_opensSo 3 RX9 (some .boolean) y)  (K : Int32 → St → Prop)  : ∀ (n : Nat) (v1 : Int32) (v2 : Int32) (st : St) (H : Heap) (locs : List Loc) (ls : Array Slot), gH 17 enM y st s H locs → lv_has ls 3 [(0, .ref (ad y 0)), (1, .int v1), (2, .int v2)] → w_X9_opensSo_L8   K n v1 v2 st → W p l e (rmm 4 93) s m args below meth c H locs 0 0 (MQ below (va_Qi K (gB 17 enM y) (gA 17 y)) args s 0 0 (gA 17 y)) (F0 m 8 ls []) := by
  obtain ⟨hx, hb, hml, hown, hts, hr, hlk, hK, hN⟩ := id C
  intro n
  induction n with
  | zero => intro v1 v2 st H locs ls hG hl hw; exact False.elim hw
  | succ n hc8 =>
    intro v1 v2 st H locs ls hG hl hw
    have hw : w_X9_opensSo_L8q   K (fun v1 v2 st => w_X9_opensSo_L8   K n v1 v2 st) v1 v2 st := hw
    unfold w_X9_opensSo_L8q at hw
    refine lv_iload_n hx hb dX9_opensSo_8 rfl (lv_at hl 2 rfl) ?_
    refine lv_aload_n hx hb dX9_opensSo_9 rfl (lv_at hl 0 rfl) ?_
    refine r_get (C := RX9) (T := TX9) (Nf := 31) hx hb hts hown hK hG (by decide) rfl rfl inX9 29 (by decide) qF_X9_268 rfl dX9_opensSo_10 ?_
    refine lv_icmp_ge (tgt := 52) hx hb dX9_opensSo_13 (by decide) (fun hc => ?_) (fun hc => ?_)
    · replace hw := hw.1 hc
      exact z_X9_opensSo_b52 l y  C  K  v1 st hG (lv_sub hl [0, 1] rfl) hw
    · replace hw := hw.2 hc
      refine lv_iload_n hx hb dX9_opensSo_16 rfl (lv_at hl 1 rfl) ?_
      refine lv_if_eq (tgt := 52) hx hb dX9_opensSo_17 (by decide) (fun hc => ?_) (fun hc => ?_)
      · replace hw := hw.1 hc
        exact z_X9_opensSo_b52 l y  C  K  v1 st hG (lv_sub hl [0, 1] rfl) hw
      · replace hw := hw.2 hc
        refine lv_aload_n hx hb dX9_opensSo_20 rfl (lv_at hl 0 rfl) ?_
        refine r_ki (r_run_V (k := 0) (As := []) (rest := []) hx hb hml hown hts hK hN hG (c_X9_openOnes l y  st _ hw) (by decide) rfl rfl rfl qM_X9_211 qI_X9_openOnes qS_X9_openOnes qN_X9 qC_X9_openOnes hd_X9_openOnes ⟨Nat.le_of_ble_eq_true rfl, Nat.le_of_ble_eq_true rfl⟩ hl.1 rfl (Nat.le_of_ble_eq_true rfl) dX9_opensSo_21) hG (fun r21 st21 H locs hw hG => ?_)
        refine r_ki (r_run_S (As := [.int r21]) (rest := []) hx hb hml hown hts hK hN hG (c_X9_bits l y r21 st21 _ hw) qM_X9_214 qT_X9_bits qN_X9 qC_X9_bits hd_X9_bits ⟨Nat.le_of_ble_eq_true rfl, Nat.le_of_ble_eq_true rfl⟩ hl.1 rfl (Nat.le_of_ble_eq_true rfl) dX9_opensSo_24) hG (fun r24 st24 H locs hw hG => ?_)
        refine lv_aload_n hx hb dX9_opensSo_27 rfl (lv_at hl 0 rfl) ?_
        refine r_get (C := RX9) (T := TX9) (Nf := 31) hx hb hts hown hK hG (by decide) rfl rfl inX9 28 (by decide) qF_X9_55 rfl dX9_opensSo_28 ?_
        refine lv_iload_n hx hb dX9_opensSo_31 rfl (lv_at hl 2 rfl) ?_
        obtain ⟨hi, hw⟩ := hw
        refine r_iald hx hb hK hG (isB_16).1 ((isB_16).2 y _) hi dX9_opensSo_32 ?_
        refine lv_icmp_ne (tgt := 40) hx hb dX9_opensSo_33 (by decide) (fun hc => ?_) (fun hc => ?_)
        · replace hw := hw.1 hc
          refine lv_iconst (v := 0) hx hb dX9_opensSo_40 (by decide) ?_
          exact z_X9_opensSo_b41 l y  C (fun v1 v2 st => w_X9_opensSo_L8   K n v1 v2 st) K hc8 v2 0 st24 hG (lv_sub hl [0, 2] rfl) hw
        · replace hw := hw.2 hc
          refine lv_iconst (v := 1) hx hb dX9_opensSo_36 (by decide) ?_
          refine lv_goto (tgt := 41) hx hb dX9_opensSo_37 (by decide) ?_
          exact z_X9_opensSo_b41 l y  C (fun v1 v2 st => w_X9_opensSo_L8   K n v1 v2 st) K hc8 v2 1 st24 hG (lv_sub hl [0, 2] rfl) hw
theorem hd_X9_opensSo : yX9_opensSo.cls ≠ "java/lang/invoke/MethodHandle" ∧ yX9_opensSo.cls ≠ "java/lang/invoke/VarHandle" ∧ (parseMethodDescriptor yX9_opensSo.desc).map (fun d => d.parameters.length) = some 0 := by decide +kernel
set_option maxRecDepth 100000 in
set_option maxHeartbeats 4000000 in
theorem c_X9_opensSo (l : Launch) (y : Sy)  (st : St) (K : Int32 → St → Prop) (hw : w_X9_opensSo  st K) : Ci 17 enM l yX9_opensSo cX9_opensSo 3 (some .boolean) 4 93 y [.ref (ad y 0)] st K := by
  refine ent (by decide) (Nat.le_of_ble_eq_true rfl) ?_
  intro p e s m below meth c C hG ls hl
  have hl : lv_has ls 3 [(0, .ref (ad y 0))] := hl
  generalize ([.ref (ad y 0)] : List Value).toArray = args at C ⊢
  have C : Sd p s m args meth c cX9_opensSo 3 RX9 (some .boolean) y := C
  obtain ⟨hx, hb, hml, hown, hts, hr, hlk, hK, hN⟩ := id C
  generalize s.heap = H at hG ⊢
  generalize ([] : List Loc) = locs at hG ⊢
  unfold w_X9_opensSo at hw
  refine lv_aload_n hx hb dX9_opensSo_0 rfl (lv_at hl 0 rfl) ?_
  refine r_kv (r_run_V (k := 0) (As := []) (rest := []) hx hb hml hown hts hK hN hG (c_X9_thinks l y  st _ hw) (by decide) rfl rfl rfl qM_X9_217 qI_X9_thinks qS_X9_thinks qN_X9 qC_X9_thinks hd_X9_thinks ⟨Nat.le_of_ble_eq_true rfl, Nat.le_of_ble_eq_true rfl⟩ hl.1 rfl (Nat.le_of_ble_eq_true rfl) dX9_opensSo_1) hG (fun st1 H locs hw hG => ?_)
  refine lv_iconst (v := 1) hx hb dX9_opensSo_4 (by decide) ?_
  refine lv_istore_n (lv' := [(1, .int 1), (0, .ref (ad y 0))]) hx hb dX9_opensSo_5 rfl hl (Nat.le_of_ble_eq_true rfl) rfl (fun ls hl => ?_)
  refine lv_iconst (v := 0) hx hb dX9_opensSo_6 (by decide) ?_
  refine lv_istore_n (lv' := [(2, .int 0), (1, .int 1), (0, .ref (ad y 0))]) hx hb dX9_opensSo_7 rfl hl (Nat.le_of_ble_eq_true rfl) rfl (fun ls hl => ?_)
  obtain ⟨n8, hw⟩ := hw
  exact z_X9_opensSo_L8 l y  C  K  n8 1 0 st1 H locs _ hG (lv_sub hl [2, 1, 0] rfl) hw
set_option maxRecDepth 100000 in
set_option maxHeartbeats 4000000 in
theorem z_X9_whoHates_b110 {p : Program} {e : Env} {s : State} {m : MethodId} {args : Array Value} {below : List Frame} {meth : Method} {c : Code} (l : Launch) (y : Sy) (x1 : Int32) (x2 : Int32) (x3 : Int32) (C : Sd p s m args meth c cX9_whoHates 10 RX9 (some .int) y) (c64 : Int32 → Int32 → Int32 → Int32 → Int32 → St → Prop) (K : Int32 → St → Prop) (hc64 : ∀ (v5 : Int32) (v6 : Int32) (v7 : Int32) (v8 : Int32) (v9 : Int32) (st : St) (H : Heap) (locs : List Loc) (ls : Array Slot), gH 17 enM y st s H locs → lv_has ls 10 [(0, .ref (ad y 0)), (1, .int x1), (2, .int x2), (3, .int x3), (5, .int v5), (6, .int v6), (7, .int v7), (8, .int v8), (9, .int v9)] → c64 v5 v6 v7 v8 v9 st → W p l e (rmm 5 115) s m args below meth c H locs 0 0 (MQ below (va_Qi K (gB 17 enM y) (gA 17 y)) args s 0 0 (gA 17 y)) (F0 m 64 ls [])) (v5 : Int32) (v6 : Int32) (v7 : Int32) (v8 : Int32) (v9 : Int32) (st : St) {H : Heap} {locs : List Loc} {ls : Array Slot} (hG : gH 17 enM y st s H locs) (hl : lv_has ls 10 [(0, .ref (ad y 0)), (1, .int x1), (2, .int x2), (3, .int x3), (5, .int v5), (6, .int v6), (7, .int v7), (8, .int v8), (9, .int v9)]) (hw : w_X9_whoHates_b110 x1 x2 x3 c64 K v5 v6 v7 v8 v9 st) : W p l e (rmm 5 115) s m args below meth c H locs 0 0 (MQ below (va_Qi K (gB 17 enM y) (gA 17 y)) args s 0 0 (gA 17 y)) (F0 m 110 ls []) := by
  obtain ⟨hx, hb, hml, hown, hts, hr, hlk, hK, hN⟩ := id C
  unfold w_X9_whoHates_b110 at hw
  refine lv_iinc (v := (v9 + 1)) (lv' := [(9, .int (v9 + 1)), (0, .ref (ad y 0)), (1, .int x1), (2, .int x2), (3, .int x3), (5, .int v5), (6, .int v6), (7, .int v7), (8, .int v8)]) hx hb dX9_whoHates_110 hl (k := 8) rfl rfl (Nat.le_of_ble_eq_true rfl) rfl (fun ls hl => ?_)
  refine lv_goto (tgt := 64) hx hb dX9_whoHates_113 (by decide) ?_
  exact hc64 v5 v6 v7 v8 (v9 + 1) st H locs _ hG (lv_sub hl [1, 2, 3, 4, 5, 6, 7, 8, 0] rfl) hw
set_option maxRecDepth 100000 in
set_option maxHeartbeats 4000000 in
theorem z_X9_whoHates_b104 {p : Program} {e : Env} {s : State} {m : MethodId} {args : Array Value} {below : List Frame} {meth : Method} {c : Code} (l : Launch) (y : Sy) (x1 : Int32) (x2 : Int32) (x3 : Int32) (C : Sd p s m args meth c cX9_whoHates 10 RX9 (some .int) y) (c64 : Int32 → Int32 → Int32 → Int32 → Int32 → St → Prop) (K : Int32 → St → Prop) (hc64 : ∀ (v5 : Int32) (v6 : Int32) (v7 : Int32) (v8 : Int32) (v9 : Int32) (st : St) (H : Heap) (locs : List Loc) (ls : Array Slot), gH 17 enM y st s H locs → lv_has ls 10 [(0, .ref (ad y 0)), (1, .int x1), (2, .int x2), (3, .int x3), (5, .int v5), (6, .int v6), (7, .int v7), (8, .int v8), (9, .int v9)] → c64 v5 v6 v7 v8 v9 st → W p l e (rmm 5 115) s m args below meth c H locs 0 0 (MQ below (va_Qi K (gB 17 enM y) (gA 17 y)) args s 0 0 (gA 17 y)) (F0 m 64 ls [])) (v5 : Int32) (v6 : Int32) (v9 : Int32) (s0 : Int32) (st : St) {H : Heap} {locs : List Loc} {ls : Array Slot} (hG : gH 17 enM y st s H locs) (hl : lv_has ls 10 [(0, .ref (ad y 0)), (1, .int x1), (2, .int x2), (3, .int x3), (5, .int v5), (6, .int v6), (9, .int v9)]) (hw : w_X9_whoHates_b104 x1 x2 x3 c64 K v5 v6 v9 s0 st) : W p l e (rmm 5 115) s m args below meth c H locs 0 0 (MQ below (va_Qi K (gB 17 enM y) (gA 17 y)) args s 0 0 (gA 17 y)) (F0 m 104 ls [.int s0]) := by
  obtain ⟨hx, hb, hml, hown, hts, hr, hlk, hK, hN⟩ := id C
  unfold w_X9_whoHates_b104 at hw
  refine lv_istore (lv' := [(7, .int s0), (0, .ref (ad y 0)), (1, .int x1), (2, .int x2), (3, .int x3), (5, .int v5), (6, .int v6), (9, .int v9)]) hx hb dX9_whoHates_104 hl (Nat.le_of_ble_eq_true rfl) rfl (fun ls hl => ?_)
  refine lv_iload hx hb dX9_whoHates_106 (lv_at hl 7 rfl) ?_
  refine lv_istore (lv' := [(8, .int v9), (7, .int s0), (0, .ref (ad y 0)), (1, .int x1), (2, .int x2), (3, .int x3), (5, .int v5), (6, .int v6), (9, .int v9)]) hx hb dX9_whoHates_108 hl (Nat.le_of_ble_eq_true rfl) rfl (fun ls hl => ?_)
  exact z_X9_whoHates_b110 l y x1 x2 x3 C c64 K hc64 v5 v6 s0 v9 v9 st hG (lv_sub hl [2, 3, 4, 5, 6, 7, 1, 0, 8] rfl) hw
set_option maxRecDepth 100000 in
set_option maxHeartbeats 4000000 in
theorem z_X9_whoHates_b116 {p : Program} {e : Env} {s : State} {m : MethodId} {args : Array Value} {below : List Frame} {meth : Method} {c : Code} (l : Launch) (y : Sy) (x1 : Int32) (x2 : Int32) (x3 : Int32) (C : Sd p s m args meth c cX9_whoHates 10 RX9 (some .int) y)  (K : Int32 → St → Prop)  (v5 : Int32) (v6 : Int32) (v7 : Int32) (v8 : Int32) (st : St) {H : Heap} {locs : List Loc} {ls : Array Slot} (hG : gH 17 enM y st s H locs) (hl : lv_has ls 10 [(0, .ref (ad y 0)), (1, .int x1), (2, .int x2), (3, .int x3), (5, .int v5), (6, .int v6), (7, .int v7), (8, .int v8)]) (hw : w_X9_whoHates_b116 x1 x2 x3  K v5 v6 v7 v8 st) : W p l e (rmm 5 115) s m args below meth c H locs 0 0 (MQ below (va_Qi K (gB 17 enM y) (gA 17 y)) args s 0 0 (gA 17 y)) (F0 m 116 ls []) := by
  obtain ⟨hx, hb, hml, hown, hts, hr, hlk, hK, hN⟩ := id C
  unfold w_X9_whoHates_b116 at hw
  refine lv_aload_n hx hb dX9_whoHates_116 rfl (lv_at hl 0 rfl) ?_
  refine lv_iload_n hx hb dX9_whoHates_117 rfl (lv_at hl 1 rfl) ?_
  refine lv_iload_n hx hb dX9_whoHates_118 rfl (lv_at hl 2 rfl) ?_
  refine lv_iload hx hb dX9_whoHates_119 (lv_at hl 4 rfl) ?_
  refine r_kv (r_run_V (k := 0) (As := [.int x1, .int x2, .int v5]) (rest := []) hx hb hml hown hts hK hN hG (c_X9_sets l y x1 x2 v5 st _ hw) (by decide) rfl rfl rfl qM_X9_128 qI_X9_sets qS_X9_sets qN_X9 qC_X9_sets hd_X9_sets ⟨Nat.le_of_ble_eq_true rfl, Nat.le_of_ble_eq_true rfl⟩ hl.1 rfl (Nat.le_of_ble_eq_true rfl) dX9_whoHates_121) hG (fun st121 H locs hw hG => ?_)
  refine lv_iload_n hx hb dX9_whoHates_124 rfl (lv_at hl 3 rfl) ?_
  refine lv_if_ne (tgt := 133) hx hb dX9_whoHates_125 (by decide) (fun hc => ?_) (fun hc => ?_)
  · replace hw := hw.1 hc
    refine lv_iload_n hx hb dX9_whoHates_133 rfl (lv_at hl 3 rfl) ?_
    refine lv_iconst (v := 1) hx hb dX9_whoHates_134 (by decide) ?_
    refine lv_icmp_ne (tgt := 143) hx hb dX9_whoHates_135 (by decide) (fun hc => ?_) (fun hc => ?_)
    · replace hw := hw.1 hc
      refine lv_iload hx hb dX9_whoHates_143 (lv_at hl 7 rfl) ?_
      exact r_iret hx hb hr hlk hK hG rfl hw dX9_whoHates_145
    · replace hw := hw.2 hc
      refine lv_iload hx hb dX9_whoHates_138 (lv_at hl 6 rfl) ?_
      refine lv_goto (tgt := 145) hx hb dX9_whoHates_140 (by decide) ?_
      exact r_iret hx hb hr hlk hK hG rfl hw dX9_whoHates_145
  · replace hw := hw.2 hc
    refine lv_iload hx hb dX9_whoHates_128 (lv_at hl 5 rfl) ?_
    refine lv_goto (tgt := 145) hx hb dX9_whoHates_130 (by decide) ?_
    exact r_iret hx hb hr hlk hK hG rfl hw dX9_whoHates_145
set_option maxRecDepth 100000 in
set_option maxHeartbeats 4000000 in
theorem z_X9_whoHates_L64 {p : Program} {e : Env} {s : State} {m : MethodId} {args : Array Value} {below : List Frame} {meth : Method} {c : Code} (l : Launch) (y : Sy) (x1 : Int32) (x2 : Int32) (x3 : Int32) (C : Sd p s m args meth c cX9_whoHates 10 RX9 (some .int) y)  (K : Int32 → St → Prop)  : ∀ (n : Nat) (v5 : Int32) (v6 : Int32) (v7 : Int32) (v8 : Int32) (v9 : Int32) (st : St) (H : Heap) (locs : List Loc) (ls : Array Slot), gH 17 enM y st s H locs → lv_has ls 10 [(0, .ref (ad y 0)), (1, .int x1), (2, .int x2), (3, .int x3), (5, .int v5), (6, .int v6), (7, .int v7), (8, .int v8), (9, .int v9)] → w_X9_whoHates_L64 x1 x2 x3  K n v5 v6 v7 v8 v9 st → W p l e (rmm 5 115) s m args below meth c H locs 0 0 (MQ below (va_Qi K (gB 17 enM y) (gA 17 y)) args s 0 0 (gA 17 y)) (F0 m 64 ls []) := by
  obtain ⟨hx, hb, hml, hown, hts, hr, hlk, hK, hN⟩ := id C
  intro n
  induction n with
  | zero => intro v5 v6 v7 v8 v9 st H locs ls hG hl hw; exact False.elim hw
  | succ n hc64 =>
    intro v5 v6 v7 v8 v9 st H locs ls hG hl hw
    have hw : w_X9_whoHates_L64q x1 x2 x3  K (fun v5 v6 v7 v8 v9 st => w_X9_whoHates_L64 x1 x2 x3  K n v5 v6 v7 v8 v9 st) v5 v6 v7 v8 v9 st := hw
    unfold w_X9_whoHates_L64q at hw
    refine lv_iload hx hb dX9_whoHates_64 (lv_at hl 8 rfl) ?_
    refine lv_bipush (v := 99) hx hb dX9_whoHates_66 (by decide) ?_
    refine lv_icmp_gt (tgt := 116) hx hb dX9_whoHates_68 (by decide) (fun hc => ?_) (fun hc => ?_)
    · replace hw := hw.1 hc
      exact z_X9_whoHates_b116 l y x1 x2 x3 C  K  v5 v6 v7 v8 st hG (lv_sub hl [0, 1, 2, 3, 4, 5, 6, 7] rfl) hw
    · replace hw := hw.2 hc
      refine lv_aload_n hx hb dX9_whoHates_71 rfl (lv_at hl 0 rfl) ?_
      refine lv_iload_n hx hb dX9_whoHates_72 rfl (lv_at hl 1 rfl) ?_
      refine lv_iload_n hx hb dX9_whoHates_73 rfl (lv_at hl 2 rfl) ?_
      refine lv_iload hx hb dX9_whoHates_74 (lv_at hl 8 rfl) ?_
      refine r_kv (r_run_V (k := 0) (As := [.int x1, .int x2, .int v9]) (rest := []) hx hb hml hown hts hK hN hG (c_X9_sets l y x1 x2 v9 st _ hw) (by decide) rfl rfl rfl qM_X9_128 qI_X9_sets qS_X9_sets qN_X9 qC_X9_sets hd_X9_sets ⟨Nat.le_of_ble_eq_true rfl, Nat.le_of_ble_eq_true rfl⟩ hl.1 rfl (Nat.le_of_ble_eq_true rfl) dX9_whoHates_76) hG (fun st76 H locs hw hG => ?_)
      refine lv_aload_n hx hb dX9_whoHates_79 rfl (lv_at hl 0 rfl) ?_
      refine r_ki (r_run_V (k := 0) (As := []) (rest := []) hx hb hml hown hts hK hN hG (c_X9_opensSo l y  st76 _ hw) (by decide) rfl rfl rfl qM_X9_271 qI_X9_opensSo qS_X9_opensSo qN_X9 qC_X9_opensSo hd_X9_opensSo ⟨Nat.le_of_ble_eq_true rfl, Nat.le_of_ble_eq_true rfl⟩ hl.1 rfl (Nat.le_of_ble_eq_true rfl) dX9_whoHates_80) hG (fun r80 st80 H locs hw hG => ?_)
      refine lv_if_ne (tgt := 89) hx hb dX9_whoHates_83 (by decide) (fun hc => ?_) (fun hc => ?_)
      · replace hw := hw.1 hc
        refine lv_iinc (v := (v6 + 1)) (lv' := [(6, .int (v6 + 1)), (0, .ref (ad y 0)), (1, .int x1), (2, .int x2), (3, .int x3), (5, .int v5), (7, .int v7), (8, .int v8), (9, .int v9)]) hx hb dX9_whoHates_89 hl (k := 5) rfl rfl (Nat.le_of_ble_eq_true rfl) rfl (fun ls hl => ?_)
        refine lv_iload hx hb dX9_whoHates_92 (lv_at hl 6 rfl) ?_
        refine lv_if_ge (tgt := 102) hx hb dX9_whoHates_94 (by decide) (fun hc => ?_) (fun hc => ?_)
        · replace hw := hw.1 hc
          refine lv_iload hx hb dX9_whoHates_102 (lv_at hl 6 rfl) ?_
          exact z_X9_whoHates_b104 l y x1 x2 x3 C (fun v5 v6 v7 v8 v9 st => w_X9_whoHates_L64 x1 x2 x3  K n v5 v6 v7 v8 v9 st) K hc64 v5 (v6 + 1) v9 v7 st80 hG (lv_sub hl [1, 2, 3, 4, 5, 0, 8] rfl) hw
        · replace hw := hw.2 hc
          refine lv_iload hx hb dX9_whoHates_97 (lv_at hl 8 rfl) ?_
          refine lv_goto (tgt := 104) hx hb dX9_whoHates_99 (by decide) ?_
          exact z_X9_whoHates_b104 l y x1 x2 x3 C (fun v5 v6 v7 v8 v9 st => w_X9_whoHates_L64 x1 x2 x3  K n v5 v6 v7 v8 v9 st) K hc64 v5 (v6 + 1) v9 v9 st80 hG (lv_sub hl [1, 2, 3, 4, 5, 0, 8] rfl) hw
      · replace hw := hw.2 hc
        refine lv_goto (tgt := 110) hx hb dX9_whoHates_86 (by decide) ?_
        exact z_X9_whoHates_b110 l y x1 x2 x3 C (fun v5 v6 v7 v8 v9 st => w_X9_whoHates_L64 x1 x2 x3  K n v5 v6 v7 v8 v9 st) K hc64 v5 v6 v7 v8 v9 st80 hG (lv_sub hl [0, 1, 2, 3, 4, 5, 6, 7, 8] rfl) hw
set_option maxRecDepth 100000 in
set_option maxHeartbeats 4000000 in
theorem z_X9_whoHates_b28 {p : Program} {e : Env} {s : State} {m : MethodId} {args : Array Value} {below : List Frame} {meth : Method} {c : Code} (l : Launch) (y : Sy) (x1 : Int32) (x2 : Int32) (x3 : Int32) (C : Sd p s m args meth c cX9_whoHates 10 RX9 (some .int) y)  (K : Int32 → St → Prop)  (s0 : Int32) (st : St) {H : Heap} {locs : List Loc} {ls : Array Slot} (hG : gH 17 enM y st s H locs) (hl : lv_has ls 10 [(0, .ref (ad y 0)), (1, .int x1), (2, .int x2), (3, .int x3)]) (hw : w_X9_whoHates_b28 x1 x2 x3  K s0 st) : W p l e (rmm 5 115) s m args below meth c H locs 0 0 (MQ below (va_Qi K (gB 17 enM y) (gA 17 y)) args s 0 0 (gA 17 y)) (F0 m 28 ls [.int s0]) := by
  obtain ⟨hx, hb, hml, hown, hts, hr, hlk, hK, hN⟩ := id C
  unfold w_X9_whoHates_b28 at hw
  refine lv_istore (lv' := [(4, .int s0), (0, .ref (ad y 0)), (1, .int x1), (2, .int x2), (3, .int x3)]) hx hb dX9_whoHates_28 hl (Nat.le_of_ble_eq_true rfl) rfl (fun ls hl => ?_)
  refine lv_iload hx hb dX9_whoHates_30 (lv_at hl 0 rfl) ?_
  refine lv_if_eq (tgt := 42) hx hb dX9_whoHates_32 (by decide) (fun hc => ?_) (fun hc => ?_)
  · replace hw := hw.1 hc
    refine lv_aload_n hx hb dX9_whoHates_42 rfl (lv_at hl 1 rfl) ?_
    refine lv_iload_n hx hb dX9_whoHates_43 rfl (lv_at hl 2 rfl) ?_
    refine lv_iload_n hx hb dX9_whoHates_44 rfl (lv_at hl 3 rfl) ?_
    refine r_ki (r_run_V (k := 0) (As := [.int x1, .int x2]) (rest := []) hx hb hml hown hts hK hN hG (c_X9_hateOf l y x1 x2 st _ hw) (by decide) rfl rfl rfl qM_X9_180 qI_X9_hateOf qS_X9_hateOf qN_X9 qC_X9_hateOf hd_X9_hateOf ⟨Nat.le_of_ble_eq_true rfl, Nat.le_of_ble_eq_true rfl⟩ hl.1 rfl (Nat.le_of_ble_eq_true rfl) dX9_whoHates_45) hG (fun r45 st45 H locs hw hG => ?_)
    refine lv_istore (lv' := [(5, .int r45), (4, .int s0), (0, .ref (ad y 0)), (1, .int x1), (2, .int x2), (3, .int x3)]) hx hb dX9_whoHates_48 hl (Nat.le_of_ble_eq_true rfl) rfl (fun ls hl => ?_)
    refine lv_iconst (v := 0) hx hb dX9_whoHates_50 (by decide) ?_
    refine lv_istore (lv' := [(6, .int 0), (5, .int r45), (4, .int s0), (0, .ref (ad y 0)), (1, .int x1), (2, .int x2), (3, .int x3)]) hx hb dX9_whoHates_51 hl (Nat.le_of_ble_eq_true rfl) rfl (fun ls hl => ?_)
    refine lv_bipush (v := (-9)) hx hb dX9_whoHates_53 (by decide) ?_
    refine lv_istore (lv' := [(7, .int (-9)), (6, .int 0), (5, .int r45), (4, .int s0), (0, .ref (ad y 0)), (1, .int x1), (2, .int x2), (3, .int x3)]) hx hb dX9_whoHates_55 hl (Nat.le_of_ble_eq_true rfl) rfl (fun ls hl => ?_)
    refine lv_bipush (v := (-9)) hx hb dX9_whoHates_57 (by decide) ?_
    refine lv_istore (lv' := [(8, .int (-9)), (7, .int (-9)), (6, .int 0), (5, .int r45), (4, .int s0), (0, .ref (ad y 0)), (1, .int x1), (2, .int x2), (3, .int x3)]) hx hb dX9_whoHates_59 hl (Nat.le_of_ble_eq_true rfl) rfl (fun ls hl => ?_)
    refine lv_iconst (v := 0) hx hb dX9_whoHates_61 (by decide) ?_
    refine lv_istore (lv' := [(9, .int 0), (8, .int (-9)), (7, .int (-9)), (6, .int 0), (5, .int r45), (4, .int s0), (0, .ref (ad y 0)), (1, .int x1), (2, .int x2), (3, .int x3)]) hx hb dX9_whoHates_62 hl (Nat.le_of_ble_eq_true rfl) rfl (fun ls hl => ?_)
    obtain ⟨n64, hw⟩ := hw
    exact z_X9_whoHates_L64 l y x1 x2 x3 C  K  n64 r45 0 (-9) (-9) 0 st45 H locs _ hG (lv_sub hl [6, 7, 8, 9, 4, 3, 2, 1, 0] rfl) hw
  · replace hw := hw.2 hc
    refine lv_aload_n hx hb dX9_whoHates_35 rfl (lv_at hl 1 rfl) ?_
    refine lv_iload hx hb dX9_whoHates_36 (lv_at hl 0 rfl) ?_
    refine r_ki (r_run_V (k := 0) (As := [.int s0]) (rest := []) hx hb hml hown hts hK hN hG (c_X9_no l y s0 st _ hw) (by decide) rfl rfl rfl qM_X9_79 qI_X9_no qS_X9_no qN_X9 qC_X9_no hd_X9_no ⟨Nat.le_of_ble_eq_true rfl, Nat.le_of_ble_eq_true rfl⟩ hl.1 rfl (Nat.le_of_ble_eq_true rfl) dX9_whoHates_38) hG (fun r38 st38 H locs hw hG => ?_)
    exact r_iret hx hb hr hlk hK hG rfl hw dX9_whoHates_41
theorem hd_X9_whoHates : yX9_whoHates.cls ≠ "java/lang/invoke/MethodHandle" ∧ yX9_whoHates.cls ≠ "java/lang/invoke/VarHandle" ∧ (parseMethodDescriptor yX9_whoHates.desc).map (fun d => d.parameters.length) = some 3 := by decide +kernel
set_option maxRecDepth 100000 in
set_option maxHeartbeats 4000000 in
theorem c_X9_whoHates (l : Launch) (y : Sy) (x1 : Int32) (x2 : Int32) (x3 : Int32) (st : St) (K : Int32 → St → Prop) (hw : w_X9_whoHates x1 x2 x3 st K) : Ci 17 enM l yX9_whoHates cX9_whoHates 10 (some .int) 5 115 y [.ref (ad y 0), .int x1, .int x2, .int x3] st K := by
  refine ent (by decide) (Nat.le_of_ble_eq_true rfl) ?_
  intro p e s m below meth c C hG ls hl
  have hl : lv_has ls 10 [(0, .ref (ad y 0)), (1, .int x1), (2, .int x2), (3, .int x3)] := hl
  generalize ([.ref (ad y 0), .int x1, .int x2, .int x3] : List Value).toArray = args at C ⊢
  have C : Sd p s m args meth c cX9_whoHates 10 RX9 (some .int) y := C
  obtain ⟨hx, hb, hml, hown, hts, hr, hlk, hK, hN⟩ := id C
  generalize s.heap = H at hG ⊢
  generalize ([] : List Loc) = locs at hG ⊢
  unfold w_X9_whoHates at hw
  refine lv_aload_n hx hb dX9_whoHates_0 rfl (lv_at hl 0 rfl) ?_
  refine lv_iload_n hx hb dX9_whoHates_1 rfl (lv_at hl 1 rfl) ?_
  refine lv_iload_n hx hb dX9_whoHates_2 rfl (lv_at hl 2 rfl) ?_
  refine r_ki (r_run_V (k := 0) (As := [.int x1, .int x2]) (rest := []) hx hb hml hown hts hK hN hG (c_X9_areTwo l y x1 x2 st _ hw) (by decide) rfl rfl rfl qM_X9_125 qI_X9_areTwo qS_X9_areTwo qN_X9 qC_X9_areTwo hd_X9_areTwo ⟨Nat.le_of_ble_eq_true rfl, Nat.le_of_ble_eq_true rfl⟩ hl.1 rfl (Nat.le_of_ble_eq_true rfl) dX9_whoHates_3) hG (fun r3 st3 H locs hw hG => ?_)
  refine lv_if_ne (tgt := 13) hx hb dX9_whoHates_6 (by decide) (fun hc => ?_) (fun hc => ?_)
  · replace hw := hw.1 hc
    refine lv_iload_n hx hb dX9_whoHates_13 rfl (lv_at hl 3 rfl) ?_
    refine lv_iconst (v := 0) hx hb dX9_whoHates_14 (by decide) ?_
    refine lv_iconst (v := 2) hx hb dX9_whoHates_15 (by decide) ?_
    refine r_ki (r_run_S (As := [.int x3, .int 0, .int 2]) (rest := []) hx hb hml hown hts hK hN hG (c_X9_isIn l y x3 0 2 st3 _ hw) qM_X9_90 qT_X9_isIn qN_X9 qC_X9_isIn hd_X9_isIn ⟨Nat.le_of_ble_eq_true rfl, Nat.le_of_ble_eq_true rfl⟩ hl.1 rfl (Nat.le_of_ble_eq_true rfl) dX9_whoHates_16) hG (fun r16 st16 H locs hw hG => ?_)
    refine lv_if_ne (tgt := 27) hx hb dX9_whoHates_19 (by decide) (fun hc => ?_) (fun hc => ?_)
    · replace hw := hw.1 hc
      refine lv_iconst (v := 0) hx hb dX9_whoHates_27 (by decide) ?_
      exact z_X9_whoHates_b28 l y x1 x2 x3 C  K  0 st16 hG (lv_sub hl [0, 1, 2, 3] rfl) hw
    · replace hw := hw.2 hc
      refine lv_bipush (v := (-2)) hx hb dX9_whoHates_22 (by decide) ?_
      refine lv_goto (tgt := 28) hx hb dX9_whoHates_24 (by decide) ?_
      exact z_X9_whoHates_b28 l y x1 x2 x3 C  K  (-2) st16 hG (lv_sub hl [0, 1, 2, 3] rfl) hw
  · replace hw := hw.2 hc
    refine lv_iconst (v := (-1)) hx hb dX9_whoHates_9 (by decide) ?_
    refine lv_goto (tgt := 28) hx hb dX9_whoHates_10 (by decide) ?_
    exact z_X9_whoHates_b28 l y x1 x2 x3 C  K  (-1) st3 hG (lv_sub hl [0, 1, 2, 3] rfl) hw
set_option maxRecDepth 100000 in
set_option maxHeartbeats 4000000 in
theorem z_X9_hatesSo_b43 {p : Program} {e : Env} {s : State} {m : MethodId} {args : Array Value} {below : List Frame} {meth : Method} {c : Code} (l : Launch) (y : Sy) (x1 : Int32) (x2 : Int32) (C : Sd p s m args meth c cX9_hatesSo 5 RX9 (some .boolean) y) (c9 : Int32 → Int32 → St → Prop) (K : Int32 → St → Prop) (hc9 : ∀ (v3 : Int32) (v4 : Int32) (st : St) (H : Heap) (locs : List Loc) (ls : Array Slot), gH 17 enM y st s H locs → lv_has ls 5 [(0, .ref (ad y 0)), (1, .int x1), (2, .int x2), (3, .int v3), (4, .int v4)] → c9 v3 v4 st → W p l e (rmm 4 93) s m args below meth c H locs 0 0 (MQ below (va_Qi K (gB 17 enM y) (gA 17 y)) args s 0 0 (gA 17 y)) (F0 m 9 ls [])) (v4 : Int32) (s0 : Int32) (st : St) {H : Heap} {locs : List Loc} {ls : Array Slot} (hG : gH 17 enM y st s H locs) (hl : lv_has ls 5 [(0, .ref (ad y 0)), (1, .int x1), (2, .int x2), (4, .int v4)]) (hw : w_X9_hatesSo_b43 x1 x2 c9 K v4 s0 st) : W p l e (rmm 4 93) s m args below meth c H locs 0 0 (MQ below (va_Qi K (gB 17 enM y) (gA 17 y)) args s 0 0 (gA 17 y)) (F0 m 43 ls [.int s0]) := by
  obtain ⟨hx, hb, hml, hown, hts, hr, hlk, hK, hN⟩ := id C
  unfold w_X9_hatesSo_b43 at hw
  refine lv_istore_n (lv' := [(3, .int s0), (0, .ref (ad y 0)), (1, .int x1), (2, .int x2), (4, .int v4)]) hx hb dX9_hatesSo_43 rfl hl (Nat.le_of_ble_eq_true rfl) rfl (fun ls hl => ?_)
  refine lv_aload_n hx hb dX9_hatesSo_44 rfl (lv_at hl 1 rfl) ?_
  refine r_kv (r_run_V (k := 0) (As := []) (rest := []) hx hb hml hown hts hK hN hG (c_X9_goesWeek l y  st _ hw) (by decide) rfl rfl rfl qM_X9_202 qI_X9_goesWeek qS_X9_goesWeek qN_X9 qC_X9_goesWeek hd_X9_goesWeek ⟨Nat.le_of_ble_eq_true rfl, Nat.le_of_ble_eq_true rfl⟩ hl.1 rfl (Nat.le_of_ble_eq_true rfl) dX9_hatesSo_45) hG (fun st45 H locs hw hG => ?_)
  refine lv_iinc (v := (v4 + 1)) (lv' := [(4, .int (v4 + 1)), (3, .int s0), (0, .ref (ad y 0)), (1, .int x1), (2, .int x2)]) hx hb dX9_hatesSo_48 hl (k := 4) rfl rfl (Nat.le_of_ble_eq_true rfl) rfl (fun ls hl => ?_)
  refine lv_goto (tgt := 9) hx hb dX9_hatesSo_51 (by decide) ?_
  exact hc9 s0 (v4 + 1) st45 H locs _ hG (lv_sub hl [2, 3, 4, 1, 0] rfl) hw
set_option maxRecDepth 100000 in
set_option maxHeartbeats 4000000 in
theorem z_X9_hatesSo_b54 {p : Program} {e : Env} {s : State} {m : MethodId} {args : Array Value} {below : List Frame} {meth : Method} {c : Code} (l : Launch) (y : Sy) (x1 : Int32) (x2 : Int32) (C : Sd p s m args meth c cX9_hatesSo 5 RX9 (some .boolean) y)  (K : Int32 → St → Prop)  (v3 : Int32) (st : St) {H : Heap} {locs : List Loc} {ls : Array Slot} (hG : gH 17 enM y st s H locs) (hl : lv_has ls 5 [(0, .ref (ad y 0)), (3, .int v3)]) (hw : w_X9_hatesSo_b54 x1 x2  K v3 st) : W p l e (rmm 4 93) s m args below meth c H locs 0 0 (MQ below (va_Qi K (gB 17 enM y) (gA 17 y)) args s 0 0 (gA 17 y)) (F0 m 54 ls []) := by
  obtain ⟨hx, hb, hml, hown, hts, hr, hlk, hK, hN⟩ := id C
  unfold w_X9_hatesSo_b54 at hw
  refine lv_aload_n hx hb dX9_hatesSo_54 rfl (lv_at hl 0 rfl) ?_
  refine r_kv (r_run_V (k := 0) (As := []) (rest := []) hx hb hml hown hts hK hN hG (c_X9_forgets l y  st _ hw) (by decide) rfl rfl rfl qM_X9_220 qI_X9_forgets qS_X9_forgets qN_X9 qC_X9_forgets hd_X9_forgets ⟨Nat.le_of_ble_eq_true rfl, Nat.le_of_ble_eq_true rfl⟩ hl.1 rfl (Nat.le_of_ble_eq_true rfl) dX9_hatesSo_55) hG (fun st55 H locs hw hG => ?_)
  refine lv_iload_n hx hb dX9_hatesSo_58 rfl (lv_at hl 1 rfl) ?_
  exact r_iret hx hb hr hlk hK hG (r_nb hw.1) hw.2 dX9_hatesSo_59
set_option maxRecDepth 100000 in
set_option maxHeartbeats 4000000 in
theorem z_X9_hatesSo_L9 {p : Program} {e : Env} {s : State} {m : MethodId} {args : Array Value} {below : List Frame} {meth : Method} {c : Code} (l : Launch) (y : Sy) (x1 : Int32) (x2 : Int32) (C : Sd p s m args meth c cX9_hatesSo 5 RX9 (some .boolean) y)  (K : Int32 → St → Prop)  : ∀ (n : Nat) (v3 : Int32) (v4 : Int32) (st : St) (H : Heap) (locs : List Loc) (ls : Array Slot), gH 17 enM y st s H locs → lv_has ls 5 [(0, .ref (ad y 0)), (1, .int x1), (2, .int x2), (3, .int v3), (4, .int v4)] → w_X9_hatesSo_L9 x1 x2  K n v3 v4 st → W p l e (rmm 4 93) s m args below meth c H locs 0 0 (MQ below (va_Qi K (gB 17 enM y) (gA 17 y)) args s 0 0 (gA 17 y)) (F0 m 9 ls []) := by
  obtain ⟨hx, hb, hml, hown, hts, hr, hlk, hK, hN⟩ := id C
  intro n
  induction n with
  | zero => intro v3 v4 st H locs ls hG hl hw; exact False.elim hw
  | succ n hc9 =>
    intro v3 v4 st H locs ls hG hl hw
    have hw : w_X9_hatesSo_L9q x1 x2  K (fun v3 v4 st => w_X9_hatesSo_L9 x1 x2  K n v3 v4 st) v3 v4 st := hw
    unfold w_X9_hatesSo_L9q at hw
    refine lv_iload hx hb dX9_hatesSo_9 (lv_at hl 4 rfl) ?_
    refine lv_aload_n hx hb dX9_hatesSo_11 rfl (lv_at hl 0 rfl) ?_
    refine r_get (C := RX9) (T := TX9) (Nf := 31) hx hb hts hown hK hG (by decide) rfl rfl inX9 29 (by decide) qF_X9_268 rfl dX9_hatesSo_12 ?_
    refine lv_icmp_ge (tgt := 54) hx hb dX9_hatesSo_15 (by decide) (fun hc => ?_) (fun hc => ?_)
    · replace hw := hw.1 hc
      exact z_X9_hatesSo_b54 l y x1 x2 C  K  v3 st hG (lv_sub hl [0, 3] rfl) hw
    · replace hw := hw.2 hc
      refine lv_iload_n hx hb dX9_hatesSo_18 rfl (lv_at hl 3 rfl) ?_
      refine lv_if_eq (tgt := 54) hx hb dX9_hatesSo_19 (by decide) (fun hc => ?_) (fun hc => ?_)
      · replace hw := hw.1 hc
        exact z_X9_hatesSo_b54 l y x1 x2 C  K  v3 st hG (lv_sub hl [0, 3] rfl) hw
      · replace hw := hw.2 hc
        refine lv_aload_n hx hb dX9_hatesSo_22 rfl (lv_at hl 0 rfl) ?_
        refine lv_iload_n hx hb dX9_hatesSo_23 rfl (lv_at hl 1 rfl) ?_
        refine lv_iload_n hx hb dX9_hatesSo_24 rfl (lv_at hl 2 rfl) ?_
        refine r_ki (r_run_V (k := 0) (As := [.int x1, .int x2]) (rest := []) hx hb hml hown hts hK hN hG (c_X9_hateOf l y x1 x2 st _ hw) (by decide) rfl rfl rfl qM_X9_180 qI_X9_hateOf qS_X9_hateOf qN_X9 qC_X9_hateOf hd_X9_hateOf ⟨Nat.le_of_ble_eq_true rfl, Nat.le_of_ble_eq_true rfl⟩ hl.1 rfl (Nat.le_of_ble_eq_true rfl) dX9_hatesSo_25) hG (fun r25 st25 H locs hw hG => ?_)
        refine lv_aload_n hx hb dX9_hatesSo_28 rfl (lv_at hl 0 rfl) ?_
        refine r_get (C := RX9) (T := TX9) (Nf := 31) hx hb hts hown hK hG (by decide) rfl rfl inX9 28 (by decide) qF_X9_55 rfl dX9_hatesSo_29 ?_
        refine lv_iload hx hb dX9_hatesSo_32 (lv_at hl 4 rfl) ?_
        obtain ⟨hi, hw⟩ := hw
        refine r_iald hx hb hK hG (isB_16).1 ((isB_16).2 y _) hi dX9_hatesSo_34 ?_
        refine lv_icmp_ne (tgt := 42) hx hb dX9_hatesSo_35 (by decide) (fun hc => ?_) (fun hc => ?_)
        · replace hw := hw.1 hc
          refine lv_iconst (v := 0) hx hb dX9_hatesSo_42 (by decide) ?_
          exact z_X9_hatesSo_b43 l y x1 x2 C (fun v3 v4 st => w_X9_hatesSo_L9 x1 x2  K n v3 v4 st) K hc9 v4 0 st25 hG (lv_sub hl [0, 1, 2, 4] rfl) hw
        · replace hw := hw.2 hc
          refine lv_iconst (v := 1) hx hb dX9_hatesSo_38 (by decide) ?_
          refine lv_goto (tgt := 43) hx hb dX9_hatesSo_39 (by decide) ?_
          exact z_X9_hatesSo_b43 l y x1 x2 C (fun v3 v4 st => w_X9_hatesSo_L9 x1 x2  K n v3 v4 st) K hc9 v4 1 st25 hG (lv_sub hl [0, 1, 2, 4] rfl) hw
theorem hd_X9_hatesSo : yX9_hatesSo.cls ≠ "java/lang/invoke/MethodHandle" ∧ yX9_hatesSo.cls ≠ "java/lang/invoke/VarHandle" ∧ (parseMethodDescriptor yX9_hatesSo.desc).map (fun d => d.parameters.length) = some 2 := by decide +kernel
set_option maxRecDepth 100000 in
set_option maxHeartbeats 4000000 in
theorem c_X9_hatesSo (l : Launch) (y : Sy) (x1 : Int32) (x2 : Int32) (st : St) (K : Int32 → St → Prop) (hw : w_X9_hatesSo x1 x2 st K) : Ci 17 enM l yX9_hatesSo cX9_hatesSo 5 (some .boolean) 4 93 y [.ref (ad y 0), .int x1, .int x2] st K := by
  refine ent (by decide) (Nat.le_of_ble_eq_true rfl) ?_
  intro p e s m below meth c C hG ls hl
  have hl : lv_has ls 5 [(0, .ref (ad y 0)), (1, .int x1), (2, .int x2)] := hl
  generalize ([.ref (ad y 0), .int x1, .int x2] : List Value).toArray = args at C ⊢
  have C : Sd p s m args meth c cX9_hatesSo 5 RX9 (some .boolean) y := C
  obtain ⟨hx, hb, hml, hown, hts, hr, hlk, hK, hN⟩ := id C
  generalize s.heap = H at hG ⊢
  generalize ([] : List Loc) = locs at hG ⊢
  unfold w_X9_hatesSo at hw
  refine lv_aload_n hx hb dX9_hatesSo_0 rfl (lv_at hl 0 rfl) ?_
  refine r_kv (r_run_V (k := 0) (As := []) (rest := []) hx hb hml hown hts hK hN hG (c_X9_thinks l y  st _ hw) (by decide) rfl rfl rfl qM_X9_217 qI_X9_thinks qS_X9_thinks qN_X9 qC_X9_thinks hd_X9_thinks ⟨Nat.le_of_ble_eq_true rfl, Nat.le_of_ble_eq_true rfl⟩ hl.1 rfl (Nat.le_of_ble_eq_true rfl) dX9_hatesSo_1) hG (fun st1 H locs hw hG => ?_)
  refine lv_iconst (v := 1) hx hb dX9_hatesSo_4 (by decide) ?_
  refine lv_istore_n (lv' := [(3, .int 1), (0, .ref (ad y 0)), (1, .int x1), (2, .int x2)]) hx hb dX9_hatesSo_5 rfl hl (Nat.le_of_ble_eq_true rfl) rfl (fun ls hl => ?_)
  refine lv_iconst (v := 0) hx hb dX9_hatesSo_6 (by decide) ?_
  refine lv_istore (lv' := [(4, .int 0), (3, .int 1), (0, .ref (ad y 0)), (1, .int x1), (2, .int x2)]) hx hb dX9_hatesSo_7 hl (Nat.le_of_ble_eq_true rfl) rfl (fun ls hl => ?_)
  obtain ⟨n9, hw⟩ := hw
  exact z_X9_hatesSo_L9 l y x1 x2 C  K  n9 1 0 st1 H locs _ hG (lv_sub hl [2, 3, 4, 1, 0] rfl) hw
set_option maxRecDepth 100000 in
set_option maxHeartbeats 4000000 in
theorem z_X9_bitsFor_b42 {p : Program} {e : Env} {s : State} {m : MethodId} {args : Array Value} {below : List Frame} {meth : Method} {c : Code} (l : Launch) (y : Sy) (k1 : Nat) (n1 : Nat) (h1 : isB k1 n1) (x2 : Int32) (x3 : Int32) (x4 : Int32) (C : Sd p s m args meth c cX9_bitsFor 8 RX9 (some .int) y) (c11 : Int32 → Int32 → Int32 → St → Prop) (K : Int32 → St → Prop) (hc11 : ∀ (v5 : Int32) (v6 : Int32) (v7 : Int32) (st : St) (H : Heap) (locs : List Loc) (ls : Array Slot), gH 17 enM y st s H locs → lv_has ls 8 [(0, .ref (ad y 0)), (1, .ref (ad y k1)), (2, .int x2), (3, .int x3), (4, .int x4), (5, .int v5), (6, .int v6), (7, .int v7)] → c11 v5 v6 v7 st → W p l e (rmm 5 117) s m args below meth c H locs 0 0 (MQ below (va_Qi K (gB 17 enM y) (gA 17 y)) args s 0 0 (gA 17 y)) (F0 m 11 ls [])) (v5 : Int32) (v7 : Int32) (s0 : Int32) (s1 : Int32) (st : St) {H : Heap} {locs : List Loc} {ls : Array Slot} (hG : gH 17 enM y st s H locs) (hl : lv_has ls 8 [(0, .ref (ad y 0)), (1, .ref (ad y k1)), (2, .int x2), (3, .int x3), (4, .int x4), (5, .int v5), (7, .int v7)]) (hw : w_X9_bitsFor_b42 k1 n1 x2 x3 x4 c11 K v5 v7 s0 s1 st) : W p l e (rmm 5 117) s m args below meth c H locs 0 0 (MQ below (va_Qi K (gB 17 enM y) (gA 17 y)) args s 0 0 (gA 17 y)) (F0 m 42 ls [.int s0, .int s1]) := by
  obtain ⟨hx, hb, hml, hown, hts, hr, hlk, hK, hN⟩ := id C
  unfold w_X9_bitsFor_b42 at hw
  refine lv_ior hx hb dX9_bitsFor_42 ?_
  refine lv_istore (lv' := [(6, .int (s1 ||| s0)), (0, .ref (ad y 0)), (1, .ref (ad y k1)), (2, .int x2), (3, .int x3), (4, .int x4), (5, .int v5), (7, .int v7)]) hx hb dX9_bitsFor_43 hl (Nat.le_of_ble_eq_true rfl) rfl (fun ls hl => ?_)
  refine lv_iinc (v := (v7 + 1)) (lv' := [(7, .int (v7 + 1)), (6, .int (s1 ||| s0)), (0, .ref (ad y 0)), (1, .ref (ad y k1)), (2, .int x2), (3, .int x3), (4, .int x4), (5, .int v5)]) hx hb dX9_bitsFor_45 hl (k := 7) rfl rfl (Nat.le_of_ble_eq_true rfl) rfl (fun ls hl => ?_)
  refine lv_goto (tgt := 11) hx hb dX9_bitsFor_48 (by decide) ?_
  exact hc11 v5 (s1 ||| s0) (v7 + 1) st H locs _ hG (lv_sub hl [2, 3, 4, 5, 6, 7, 1, 0] rfl) hw
set_option maxRecDepth 100000 in
set_option maxHeartbeats 4000000 in
theorem z_X9_bitsFor_b51 {p : Program} {e : Env} {s : State} {m : MethodId} {args : Array Value} {below : List Frame} {meth : Method} {c : Code} (l : Launch) (y : Sy) (k1 : Nat) (n1 : Nat) (h1 : isB k1 n1) (x2 : Int32) (x3 : Int32) (x4 : Int32) (C : Sd p s m args meth c cX9_bitsFor 8 RX9 (some .int) y)  (K : Int32 → St → Prop)  (v5 : Int32) (v6 : Int32) (st : St) {H : Heap} {locs : List Loc} {ls : Array Slot} (hG : gH 17 enM y st s H locs) (hl : lv_has ls 8 [(1, .ref (ad y k1)), (2, .int x2), (5, .int v5), (6, .int v6)]) (hw : w_X9_bitsFor_b51 k1 n1 x2 x3 x4  K v5 v6 st) : W p l e (rmm 5 117) s m args below meth c H locs 0 0 (MQ below (va_Qi K (gB 17 enM y) (gA 17 y)) args s 0 0 (gA 17 y)) (F0 m 51 ls []) := by
  obtain ⟨hx, hb, hml, hown, hts, hr, hlk, hK, hN⟩ := id C
  unfold w_X9_bitsFor_b51 at hw
  refine lv_aload_n hx hb dX9_bitsFor_51 rfl (lv_at hl 0 rfl) ?_
  refine lv_iload_n hx hb dX9_bitsFor_52 rfl (lv_at hl 1 rfl) ?_
  refine lv_iload hx hb dX9_bitsFor_53 (lv_at hl 2 rfl) ?_
  obtain ⟨hi, hw⟩ := hw
  refine r_iast hx hb hK hG (h1).1 (fun f => (h1).2 y f) hi dX9_bitsFor_55 (fun H locs hG => ?_)
  refine lv_iload hx hb dX9_bitsFor_56 (lv_at hl 3 rfl) ?_
  exact r_iret hx hb hr hlk hK hG rfl hw dX9_bitsFor_58
set_option maxRecDepth 100000 in
set_option maxHeartbeats 4000000 in
theorem z_X9_bitsFor_L11 {p : Program} {e : Env} {s : State} {m : MethodId} {args : Array Value} {below : List Frame} {meth : Method} {c : Code} (l : Launch) (y : Sy) (k1 : Nat) (n1 : Nat) (h1 : isB k1 n1) (x2 : Int32) (x3 : Int32) (x4 : Int32) (C : Sd p s m args meth c cX9_bitsFor 8 RX9 (some .int) y)  (K : Int32 → St → Prop)  : ∀ (n : Nat) (v5 : Int32) (v6 : Int32) (v7 : Int32) (st : St) (H : Heap) (locs : List Loc) (ls : Array Slot), gH 17 enM y st s H locs → lv_has ls 8 [(0, .ref (ad y 0)), (1, .ref (ad y k1)), (2, .int x2), (3, .int x3), (4, .int x4), (5, .int v5), (6, .int v6), (7, .int v7)] → w_X9_bitsFor_L11 k1 n1 x2 x3 x4  K n v5 v6 v7 st → W p l e (rmm 5 117) s m args below meth c H locs 0 0 (MQ below (va_Qi K (gB 17 enM y) (gA 17 y)) args s 0 0 (gA 17 y)) (F0 m 11 ls []) := by
  obtain ⟨hx, hb, hml, hown, hts, hr, hlk, hK, hN⟩ := id C
  intro n
  induction n with
  | zero => intro v5 v6 v7 st H locs ls hG hl hw; exact False.elim hw
  | succ n hc11 =>
    intro v5 v6 v7 st H locs ls hG hl hw
    have hw : w_X9_bitsFor_L11q k1 n1 x2 x3 x4  K (fun v5 v6 v7 st => w_X9_bitsFor_L11 k1 n1 x2 x3 x4  K n v5 v6 v7 st) v5 v6 v7 st := hw
    unfold w_X9_bitsFor_L11q at hw
    refine lv_iload hx hb dX9_bitsFor_11 (lv_at hl 7 rfl) ?_
    refine lv_iload hx hb dX9_bitsFor_13 (lv_at hl 4 rfl) ?_
    refine lv_icmp_ge (tgt := 51) hx hb dX9_bitsFor_15 (by decide) (fun hc => ?_) (fun hc => ?_)
    · replace hw := hw.1 hc
      exact z_X9_bitsFor_b51 l y k1 n1 h1 x2 x3 x4 C  K  v5 v6 st hG (lv_sub hl [1, 2, 5, 6] rfl) hw
    · replace hw := hw.2 hc
      refine lv_aload_n hx hb dX9_bitsFor_18 rfl (lv_at hl 1 rfl) ?_
      refine lv_iload_n hx hb dX9_bitsFor_19 rfl (lv_at hl 2 rfl) ?_
      refine lv_iload hx hb dX9_bitsFor_20 (lv_at hl 7 rfl) ?_
      obtain ⟨hi, hw⟩ := hw
      refine r_iast hx hb hK hG (h1).1 (fun f => (h1).2 y f) hi dX9_bitsFor_22 (fun H locs hG => ?_)
      refine lv_iload hx hb dX9_bitsFor_23 (lv_at hl 6 rfl) ?_
      refine lv_aload_n hx hb dX9_bitsFor_25 rfl (lv_at hl 0 rfl) ?_
      refine lv_iload_n hx hb dX9_bitsFor_26 rfl (lv_at hl 2 rfl) ?_
      refine lv_iload_n hx hb dX9_bitsFor_27 rfl (lv_at hl 3 rfl) ?_
      refine r_ki (r_run_V (k := 0) (As := [.int x2, .int x3]) (rest := [.int v6]) hx hb hml hown hts hK hN hG (c_X9_hatesSo l y x2 x3 (u2 st k1 (x2).toNatClampNeg v7) _ hw) (by decide) rfl rfl rfl qM_X9_274 qI_X9_hatesSo qS_X9_hatesSo qN_X9 qC_X9_hatesSo hd_X9_hatesSo ⟨Nat.le_of_ble_eq_true rfl, Nat.le_of_ble_eq_true rfl⟩ hl.1 rfl (Nat.le_of_ble_eq_true rfl) dX9_bitsFor_28) hG (fun r28 st28 H locs hw hG => ?_)
      refine lv_if_eq (tgt := 41) hx hb dX9_bitsFor_31 (by decide) (fun hc => ?_) (fun hc => ?_)
      · replace hw := hw.1 hc
        refine lv_iconst (v := 0) hx hb dX9_bitsFor_41 (by decide) ?_
        exact z_X9_bitsFor_b42 l y k1 n1 h1 x2 x3 x4 C (fun v5 v6 v7 st => w_X9_bitsFor_L11 k1 n1 x2 x3 x4  K n v5 v6 v7 st) K hc11 v5 v7 0 v6 st28 hG (lv_sub hl [0, 1, 2, 3, 4, 5, 7] rfl) hw
      · replace hw := hw.2 hc
        refine lv_iconst (v := 1) hx hb dX9_bitsFor_34 (by decide) ?_
        refine lv_iload hx hb dX9_bitsFor_35 (lv_at hl 7 rfl) ?_
        refine lv_ishl hx hb dX9_bitsFor_37 ?_
        refine lv_goto (tgt := 42) hx hb dX9_bitsFor_38 (by decide) ?_
        exact z_X9_bitsFor_b42 l y k1 n1 h1 x2 x3 x4 C (fun v5 v6 v7 st => w_X9_bitsFor_L11 k1 n1 x2 x3 x4  K n v5 v6 v7 st) K hc11 v5 v7 ((1 : Int32) <<< (v7 &&& 31)) v6 st28 hG (lv_sub hl [0, 1, 2, 3, 4, 5, 7] rfl) hw
theorem hd_X9_bitsFor : yX9_bitsFor.cls ≠ "java/lang/invoke/MethodHandle" ∧ yX9_bitsFor.cls ≠ "java/lang/invoke/VarHandle" ∧ (parseMethodDescriptor yX9_bitsFor.desc).map (fun d => d.parameters.length) = some 4 := by decide +kernel
set_option maxRecDepth 100000 in
set_option maxHeartbeats 4000000 in
theorem c_X9_bitsFor (l : Launch) (y : Sy) (k1 : Nat) (n1 : Nat) (h1 : isB k1 n1) (x2 : Int32) (x3 : Int32) (x4 : Int32) (st : St) (K : Int32 → St → Prop) (hw : w_X9_bitsFor k1 n1 x2 x3 x4 st K) : Ci 17 enM l yX9_bitsFor cX9_bitsFor 8 (some .int) 5 117 y [.ref (ad y 0), .ref (ad y k1), .int x2, .int x3, .int x4] st K := by
  refine ent (by decide) (Nat.le_of_ble_eq_true rfl) ?_
  intro p e s m below meth c C hG ls hl
  have hl : lv_has ls 8 [(0, .ref (ad y 0)), (1, .ref (ad y k1)), (2, .int x2), (3, .int x3), (4, .int x4)] := hl
  generalize ([.ref (ad y 0), .ref (ad y k1), .int x2, .int x3, .int x4] : List Value).toArray = args at C ⊢
  have C : Sd p s m args meth c cX9_bitsFor 8 RX9 (some .int) y := C
  obtain ⟨hx, hb, hml, hown, hts, hr, hlk, hK, hN⟩ := id C
  generalize s.heap = H at hG ⊢
  generalize ([] : List Loc) = locs at hG ⊢
  unfold w_X9_bitsFor at hw
  refine lv_aload_n hx hb dX9_bitsFor_0 rfl (lv_at hl 1 rfl) ?_
  refine lv_iload_n hx hb dX9_bitsFor_1 rfl (lv_at hl 2 rfl) ?_
  obtain ⟨hi, hw⟩ := hw
  refine r_iald hx hb hK hG (h1).1 ((h1).2 y _) hi dX9_bitsFor_2 ?_
  refine lv_istore (lv' := [(5, .int (st k1 (x2).toNatClampNeg)), (0, .ref (ad y 0)), (1, .ref (ad y k1)), (2, .int x2), (3, .int x3), (4, .int x4)]) hx hb dX9_bitsFor_3 hl (Nat.le_of_ble_eq_true rfl) rfl (fun ls hl => ?_)
  refine lv_iconst (v := 0) hx hb dX9_bitsFor_5 (by decide) ?_
  refine lv_istore (lv' := [(6, .int 0), (5, .int (st k1 (x2).toNatClampNeg)), (0, .ref (ad y 0)), (1, .ref (ad y k1)), (2, .int x2), (3, .int x3), (4, .int x4)]) hx hb dX9_bitsFor_6 hl (Nat.le_of_ble_eq_true rfl) rfl (fun ls hl => ?_)
  refine lv_iconst (v := 0) hx hb dX9_bitsFor_8 (by decide) ?_
  refine lv_istore (lv' := [(7, .int 0), (6, .int 0), (5, .int (st k1 (x2).toNatClampNeg)), (0, .ref (ad y 0)), (1, .ref (ad y k1)), (2, .int x2), (3, .int x3), (4, .int x4)]) hx hb dX9_bitsFor_9 hl (Nat.le_of_ble_eq_true rfl) rfl (fun ls hl => ?_)
  obtain ⟨n11, hw⟩ := hw
  exact z_X9_bitsFor_L11 l y k1 n1 h1 x2 x3 x4 C  K  n11 (st k1 (x2).toNatClampNeg) 0 0 st H locs _ hG (lv_sub hl [3, 4, 5, 6, 7, 2, 1, 0] rfl) hw
set_option maxRecDepth 100000 in
set_option maxHeartbeats 4000000 in
theorem z_X9_whatKind_b28 {p : Program} {e : Env} {s : State} {m : MethodId} {args : Array Value} {below : List Frame} {meth : Method} {c : Code} (l : Launch) (y : Sy) (x1 : Int32) (x2 : Int32) (x3 : Int32) (C : Sd p s m args meth c cX9_whatKind 5 RX9 (some .int) y)  (K : Int32 → St → Prop)  (s0 : Int32) (st : St) {H : Heap} {locs : List Loc} {ls : Array Slot} (hG : gH 17 enM y st s H locs) (hl : lv_has ls 5 [(0, .ref (ad y 0)), (1, .int x1), (2, .int x2), (3, .int x3)]) (hw : w_X9_whatKind_b28 x1 x2 x3  K s0 st) : W p l e (rmm 6 144) s m args below meth c H locs 0 0 (MQ below (va_Qi K (gB 17 enM y) (gA 17 y)) args s 0 0 (gA 17 y)) (F0 m 28 ls [.int s0]) := by
  obtain ⟨hx, hb, hml, hown, hts, hr, hlk, hK, hN⟩ := id C
  unfold w_X9_whatKind_b28 at hw
  refine lv_istore (lv' := [(4, .int s0), (0, .ref (ad y 0)), (1, .int x1), (2, .int x2), (3, .int x3)]) hx hb dX9_whatKind_28 hl (Nat.le_of_ble_eq_true rfl) rfl (fun ls hl => ?_)
  refine lv_iload hx hb dX9_whatKind_30 (lv_at hl 0 rfl) ?_
  refine lv_if_eq (tgt := 42) hx hb dX9_whatKind_32 (by decide) (fun hc => ?_) (fun hc => ?_)
  · replace hw := hw.1 hc
    refine lv_iload_n hx hb dX9_whatKind_42 rfl (lv_at hl 4 rfl) ?_
    refine lv_if_ne (tgt := 61) hx hb dX9_whatKind_43 (by decide) (fun hc => ?_) (fun hc => ?_)
    · replace hw := hw.1 hc
      refine lv_aload_n hx hb dX9_whatKind_61 rfl (lv_at hl 1 rfl) ?_
      refine lv_aload_n hx hb dX9_whatKind_62 rfl (lv_at hl 1 rfl) ?_
      refine r_get (C := RX9) (T := TX9) (Nf := 31) hx hb hts hown hK hG (by decide) rfl rfl inX9 2 (by decide) qF_X9_16 rfl dX9_whatKind_63 ?_
      refine lv_iload_n hx hb dX9_whatKind_66 rfl (lv_at hl 2 rfl) ?_
      refine lv_iload_n hx hb dX9_whatKind_67 rfl (lv_at hl 3 rfl) ?_
      refine lv_bipush (v := 10) hx hb dX9_whatKind_68 (by decide) ?_
      refine r_ki (r_run_V (k := 0) (As := [.ref (ad y 3), .int x1, .int x2, .int 10]) (rest := []) hx hb hml hown hts hK hN hG (c_X9_bitsFor l y 3 6 isB_3 x1 x2 10 st _ hw) (by decide) rfl rfl rfl qM_X9_277 qI_X9_bitsFor qS_X9_bitsFor qN_X9 qC_X9_bitsFor hd_X9_bitsFor ⟨Nat.le_of_ble_eq_true rfl, Nat.le_of_ble_eq_true rfl⟩ hl.1 rfl (Nat.le_of_ble_eq_true rfl) dX9_whatKind_70) hG (fun r70 st70 H locs hw hG => ?_)
      exact r_iret hx hb hr hlk hK hG rfl hw dX9_whatKind_73
    · replace hw := hw.2 hc
      refine lv_aload_n hx hb dX9_whatKind_46 rfl (lv_at hl 1 rfl) ?_
      refine lv_aload_n hx hb dX9_whatKind_47 rfl (lv_at hl 1 rfl) ?_
      refine r_get (C := RX9) (T := TX9) (Nf := 31) hx hb hts hown hK hG (by decide) rfl rfl inX9 1 (by decide) qF_X9_13 rfl dX9_whatKind_48 ?_
      refine lv_iload_n hx hb dX9_whatKind_51 rfl (lv_at hl 2 rfl) ?_
      refine lv_iload_n hx hb dX9_whatKind_52 rfl (lv_at hl 3 rfl) ?_
      refine lv_bipush (v := 6) hx hb dX9_whatKind_53 (by decide) ?_
      refine r_ki (r_run_V (k := 0) (As := [.ref (ad y 2), .int x1, .int x2, .int 6]) (rest := []) hx hb hml hown hts hK hN hG (c_X9_bitsFor l y 2 6 isB_2 x1 x2 6 st _ hw) (by decide) rfl rfl rfl qM_X9_277 qI_X9_bitsFor qS_X9_bitsFor qN_X9 qC_X9_bitsFor hd_X9_bitsFor ⟨Nat.le_of_ble_eq_true rfl, Nat.le_of_ble_eq_true rfl⟩ hl.1 rfl (Nat.le_of_ble_eq_true rfl) dX9_whatKind_55) hG (fun r55 st55 H locs hw hG => ?_)
      refine lv_goto (tgt := 73) hx hb dX9_whatKind_58 (by decide) ?_
      exact r_iret hx hb hr hlk hK hG rfl hw dX9_whatKind_73
  · replace hw := hw.2 hc
    refine lv_aload_n hx hb dX9_whatKind_35 rfl (lv_at hl 1 rfl) ?_
    refine lv_iload hx hb dX9_whatKind_36 (lv_at hl 0 rfl) ?_
    refine r_ki (r_run_V (k := 0) (As := [.int s0]) (rest := []) hx hb hml hown hts hK hN hG (c_X9_no l y s0 st _ hw) (by decide) rfl rfl rfl qM_X9_79 qI_X9_no qS_X9_no qN_X9 qC_X9_no hd_X9_no ⟨Nat.le_of_ble_eq_true rfl, Nat.le_of_ble_eq_true rfl⟩ hl.1 rfl (Nat.le_of_ble_eq_true rfl) dX9_whatKind_38) hG (fun r38 st38 H locs hw hG => ?_)
    exact r_iret hx hb hr hlk hK hG rfl hw dX9_whatKind_41
theorem hd_X9_whatKind : yX9_whatKind.cls ≠ "java/lang/invoke/MethodHandle" ∧ yX9_whatKind.cls ≠ "java/lang/invoke/VarHandle" ∧ (parseMethodDescriptor yX9_whatKind.desc).map (fun d => d.parameters.length) = some 3 := by decide +kernel
set_option maxRecDepth 100000 in
set_option maxHeartbeats 4000000 in
theorem c_X9_whatKind (l : Launch) (y : Sy) (x1 : Int32) (x2 : Int32) (x3 : Int32) (st : St) (K : Int32 → St → Prop) (hw : w_X9_whatKind x1 x2 x3 st K) : Ci 17 enM l yX9_whatKind cX9_whatKind 5 (some .int) 6 144 y [.ref (ad y 0), .int x1, .int x2, .int x3] st K := by
  refine ent (by decide) (Nat.le_of_ble_eq_true rfl) ?_
  intro p e s m below meth c C hG ls hl
  have hl : lv_has ls 5 [(0, .ref (ad y 0)), (1, .int x1), (2, .int x2), (3, .int x3)] := hl
  generalize ([.ref (ad y 0), .int x1, .int x2, .int x3] : List Value).toArray = args at C ⊢
  have C : Sd p s m args meth c cX9_whatKind 5 RX9 (some .int) y := C
  obtain ⟨hx, hb, hml, hown, hts, hr, hlk, hK, hN⟩ := id C
  generalize s.heap = H at hG ⊢
  generalize ([] : List Loc) = locs at hG ⊢
  unfold w_X9_whatKind at hw
  refine lv_aload_n hx hb dX9_whatKind_0 rfl (lv_at hl 0 rfl) ?_
  refine lv_iload_n hx hb dX9_whatKind_1 rfl (lv_at hl 1 rfl) ?_
  refine lv_iload_n hx hb dX9_whatKind_2 rfl (lv_at hl 2 rfl) ?_
  refine r_ki (r_run_V (k := 0) (As := [.int x1, .int x2]) (rest := []) hx hb hml hown hts hK hN hG (c_X9_areTwo l y x1 x2 st _ hw) (by decide) rfl rfl rfl qM_X9_125 qI_X9_areTwo qS_X9_areTwo qN_X9 qC_X9_areTwo hd_X9_areTwo ⟨Nat.le_of_ble_eq_true rfl, Nat.le_of_ble_eq_true rfl⟩ hl.1 rfl (Nat.le_of_ble_eq_true rfl) dX9_whatKind_3) hG (fun r3 st3 H locs hw hG => ?_)
  refine lv_if_ne (tgt := 13) hx hb dX9_whatKind_6 (by decide) (fun hc => ?_) (fun hc => ?_)
  · replace hw := hw.1 hc
    refine lv_iload_n hx hb dX9_whatKind_13 rfl (lv_at hl 3 rfl) ?_
    refine lv_iconst (v := 0) hx hb dX9_whatKind_14 (by decide) ?_
    refine lv_iconst (v := 1) hx hb dX9_whatKind_15 (by decide) ?_
    refine r_ki (r_run_S (As := [.int x3, .int 0, .int 1]) (rest := []) hx hb hml hown hts hK hN hG (c_X9_isIn l y x3 0 1 st3 _ hw) qM_X9_90 qT_X9_isIn qN_X9 qC_X9_isIn hd_X9_isIn ⟨Nat.le_of_ble_eq_true rfl, Nat.le_of_ble_eq_true rfl⟩ hl.1 rfl (Nat.le_of_ble_eq_true rfl) dX9_whatKind_16) hG (fun r16 st16 H locs hw hG => ?_)
    refine lv_if_ne (tgt := 27) hx hb dX9_whatKind_19 (by decide) (fun hc => ?_) (fun hc => ?_)
    · replace hw := hw.1 hc
      refine lv_iconst (v := 0) hx hb dX9_whatKind_27 (by decide) ?_
      exact z_X9_whatKind_b28 l y x1 x2 x3 C  K  0 st16 hG (lv_sub hl [0, 1, 2, 3] rfl) hw
    · replace hw := hw.2 hc
      refine lv_bipush (v := (-2)) hx hb dX9_whatKind_22 (by decide) ?_
      refine lv_goto (tgt := 28) hx hb dX9_whatKind_24 (by decide) ?_
      exact z_X9_whatKind_b28 l y x1 x2 x3 C  K  (-2) st16 hG (lv_sub hl [0, 1, 2, 3] rfl) hw
  · replace hw := hw.2 hc
    refine lv_iconst (v := (-1)) hx hb dX9_whatKind_9 (by decide) ?_
    refine lv_goto (tgt := 28) hx hb dX9_whatKind_10 (by decide) ?_
    exact z_X9_whatKind_b28 l y x1 x2 x3 C  K  (-1) st3 hG (lv_sub hl [0, 1, 2, 3] rfl) hw
set_option maxRecDepth 100000 in
set_option maxHeartbeats 4000000 in
theorem z_X9_divisor_L6 {p : Program} {e : Env} {s : State} {m : MethodId} {args : Array Value} {below : List Frame} {meth : Method} {c : Code} (l : Launch) (y : Sy) (x0 : Int64) (x2 : Int64) (C : Sd p s m args meth c cX9_divisor 10 RX9 (some .long) y)  (K : Int64 → St → Prop)  : ∀ (n : Nat) (v4 : Int64) (v6 : Int64) (st : St) (H : Heap) (locs : List Loc) (ls : Array Slot), gH 17 enM y st s H locs → lv_has ls 10 [(4, .long v4), (6, .long v6)] → w_X9_divisor_L6 x0 x2  K n v4 v6 st → W p l e (rmm 0 0) s m args below meth c H locs 0 0 (MQ below (va_Ql K (gB 17 enM y) (gA 17 y)) args s 0 0 (gA 17 y)) (F0 m 6 ls []) := by
  obtain ⟨hx, hb, hml, hown, hts, hr, hlk, hK, hN⟩ := id C
  intro n
  induction n with
  | zero => intro v4 v6 st H locs ls hG hl hw; exact False.elim hw
  | succ n hc6 =>
    intro v4 v6 st H locs ls hG hl hw
    have hw : w_X9_divisor_L6q x0 x2  K (fun v4 v6 st => w_X9_divisor_L6 x0 x2  K n v4 v6 st) v4 v6 st := hw
    unfold w_X9_divisor_L6q at hw
    refine lv_lload hx hb dX9_divisor_6 (lv_at hl 1 rfl) ?_
    refine lv_lconst (v := 0) hx hb dX9_divisor_8 (by decide) ?_
    refine W.lcmp hx hb dX9_divisor_9 ?_
    refine lv_if_eq (tgt := 31) hx hb dX9_divisor_10 (by decide) (fun hc => ?_) (fun hc => ?_)
    · replace hw := hw.1 hc
      refine lv_lload hx hb dX9_divisor_31 (lv_at hl 0 rfl) ?_
      exact r_lret hx hb hr hlk hK hG hw dX9_divisor_33
    · replace hw := hw.2 hc
      refine lv_lload hx hb dX9_divisor_13 (lv_at hl 0 rfl) ?_
      refine lv_lload hx hb dX9_divisor_15 (lv_at hl 1 rfl) ?_
      obtain ⟨h17, hw⟩ := hw
      refine lv_lrem hx hb dX9_divisor_17 h17 ?_
      refine lv_lstore (lv' := [(8, .long (v4 - v4 / v6 * v6)), (4, .long v4), (6, .long v6)]) hx hb dX9_divisor_18 hl (Nat.le_of_ble_eq_true rfl) rfl (fun ls hl => ?_)
      refine lv_lload hx hb dX9_divisor_20 (lv_at hl 2 rfl) ?_
      refine lv_lstore (lv' := [(4, .long v6), (8, .long (v4 - v4 / v6 * v6)), (6, .long v6)]) hx hb dX9_divisor_22 hl (Nat.le_of_ble_eq_true rfl) rfl (fun ls hl => ?_)
      refine lv_lload hx hb dX9_divisor_24 (lv_at hl 1 rfl) ?_
      refine lv_lstore (lv' := [(6, .long (v4 - v4 / v6 * v6)), (4, .long v6), (8, .long (v4 - v4 / v6 * v6))]) hx hb dX9_divisor_26 hl (Nat.le_of_ble_eq_true rfl) rfl (fun ls hl => ?_)
      refine lv_goto (tgt := 6) hx hb dX9_divisor_28 (by decide) ?_
      exact hc6 v6 (v4 - v4 / v6 * v6) st H locs _ hG (lv_sub hl [1, 0] rfl) hw
theorem hd_X9_divisor : yX9_divisor.cls ≠ "java/lang/invoke/MethodHandle" ∧ yX9_divisor.cls ≠ "java/lang/invoke/VarHandle" ∧ (parseMethodDescriptor yX9_divisor.desc).map (fun d => d.parameters.length) = some 2 := by decide +kernel
set_option maxRecDepth 100000 in
set_option maxHeartbeats 4000000 in
theorem c_X9_divisor (l : Launch) (y : Sy) (x0 : Int64) (x2 : Int64) (st : St) (K : Int64 → St → Prop) (hw : w_X9_divisor x0 x2 st K) : Cl 17 enM l yX9_divisor cX9_divisor 10 (some .long) 0 0 y [.long x0, .long x2] st K := by
  refine ent (by decide) (Nat.le_of_ble_eq_true rfl) ?_
  intro p e s m below meth c C hG ls hl
  have hl : lv_has ls 10 [(0, .long x0), (2, .long x2)] := hl
  generalize ([.long x0, .long x2] : List Value).toArray = args at C ⊢
  have C : Sd p s m args meth c cX9_divisor 10 RX9 (some .long) y := C
  obtain ⟨hx, hb, hml, hown, hts, hr, hlk, hK, hN⟩ := id C
  generalize s.heap = H at hG ⊢
  generalize ([] : List Loc) = locs at hG ⊢
  unfold w_X9_divisor at hw
  refine lv_lload_n hx hb dX9_divisor_0 rfl (lv_at hl 0 rfl) ?_
  refine lv_lstore (lv' := [(4, .long x0), (0, .long x0), (2, .long x2)]) hx hb dX9_divisor_1 hl (Nat.le_of_ble_eq_true rfl) rfl (fun ls hl => ?_)
  refine lv_lload_n hx hb dX9_divisor_3 rfl (lv_at hl 2 rfl) ?_
  refine lv_lstore (lv' := [(6, .long x2), (4, .long x0), (0, .long x0), (2, .long x2)]) hx hb dX9_divisor_4 hl (Nat.le_of_ble_eq_true rfl) rfl (fun ls hl => ?_)
  obtain ⟨n6, hw⟩ := hw
  exact z_X9_divisor_L6 l y x0 x2 C  K  n6 x0 x2 st H locs _ hG (lv_sub hl [1, 0] rfl) hw
set_option maxRecDepth 100000 in
set_option maxHeartbeats 4000000 in
theorem z_X9_partOf_b10 {p : Program} {e : Env} {s : State} {m : MethodId} {args : Array Value} {below : List Frame} {meth : Method} {c : Code} (l : Launch) (y : Sy) (x0 : Int64) (x2 : Int64) (x4 : Int32) (C : Sd p s m args meth c cX9_partOf 5 RX9 (some .long) y)  (K : Int64 → St → Prop)  (s0 : Int64) (st : St) {H : Heap} {locs : List Loc} {ls : Array Slot} (hG : gH 17 enM y st s H locs) (hl : lv_has ls 5 [(0, .long x0), (2, .long x2)]) (hw : w_X9_partOf_b10 x0 x2 x4  K s0 st) : W p l e (rmm 1 29) s m args below meth c H locs 0 0 (MQ below (va_Ql K (gB 17 enM y) (gA 17 y)) args s 0 0 (gA 17 y)) (F0 m 10 ls [.long s0]) := by
  obtain ⟨hx, hb, hml, hown, hts, hr, hlk, hK, hN⟩ := id C
  unfold w_X9_partOf_b10 at hw
  refine lv_lload_n hx hb dX9_partOf_10 rfl (lv_at hl 0 rfl) ?_
  refine lv_lload_n hx hb dX9_partOf_11 rfl (lv_at hl 1 rfl) ?_
  refine r_kl (r_run_S (As := [.long x0, .long x2]) (rest := [.long s0]) hx hb hml hown hts hK hN hG (c_X9_divisor l y x0 x2 st _ hw) qM_X9_281 qT_X9_divisor qN_X9 qC_X9_divisor hd_X9_divisor ⟨Nat.le_of_ble_eq_true rfl, Nat.le_of_ble_eq_true rfl⟩ hl.1 rfl (Nat.le_of_ble_eq_true rfl) dX9_partOf_12) hG (fun r12 st12 H locs hw hG => ?_)
  obtain ⟨h15, hw⟩ := hw
  refine lv_ldiv hx hb dX9_partOf_15 h15 ?_
  exact r_lret hx hb hr hlk hK hG hw dX9_partOf_16
theorem hd_X9_partOf : yX9_partOf.cls ≠ "java/lang/invoke/MethodHandle" ∧ yX9_partOf.cls ≠ "java/lang/invoke/VarHandle" ∧ (parseMethodDescriptor yX9_partOf.desc).map (fun d => d.parameters.length) = some 3 := by decide +kernel
set_option maxRecDepth 100000 in
set_option maxHeartbeats 4000000 in
theorem c_X9_partOf (l : Launch) (y : Sy) (x0 : Int64) (x2 : Int64) (x4 : Int32) (st : St) (K : Int64 → St → Prop) (hw : w_X9_partOf x0 x2 x4 st K) : Cl 17 enM l yX9_partOf cX9_partOf 5 (some .long) 1 29 y [.long x0, .long x2, .int x4] st K := by
  refine ent (by decide) (Nat.le_of_ble_eq_true rfl) ?_
  intro p e s m below meth c C hG ls hl
  have hl : lv_has ls 5 [(0, .long x0), (2, .long x2), (4, .int x4)] := hl
  generalize ([.long x0, .long x2, .int x4] : List Value).toArray = args at C ⊢
  have C : Sd p s m args meth c cX9_partOf 5 RX9 (some .long) y := C
  obtain ⟨hx, hb, hml, hown, hts, hr, hlk, hK, hN⟩ := id C
  generalize s.heap = H at hG ⊢
  generalize ([] : List Loc) = locs at hG ⊢
  unfold w_X9_partOf at hw
  refine lv_iload hx hb dX9_partOf_0 (lv_at hl 2 rfl) ?_
  refine lv_if_ne (tgt := 9) hx hb dX9_partOf_2 (by decide) (fun hc => ?_) (fun hc => ?_)
  · replace hw := hw.1 hc
    refine lv_lload_n hx hb dX9_partOf_9 rfl (lv_at hl 1 rfl) ?_
    exact z_X9_partOf_b10 l y x0 x2 x4 C  K  x2 st hG (lv_sub hl [0, 1] rfl) hw
  · replace hw := hw.2 hc
    refine lv_lload_n hx hb dX9_partOf_5 rfl (lv_at hl 0 rfl) ?_
    refine lv_goto (tgt := 10) hx hb dX9_partOf_6 (by decide) ?_
    exact z_X9_partOf_b10 l y x0 x2 x4 C  K  x0 st hG (lv_sub hl [0, 1] rfl) hw
set_option maxRecDepth 100000 in
set_option maxHeartbeats 4000000 in
theorem z_X9_partsOf_b29 {p : Program} {e : Env} {s : State} {m : MethodId} {args : Array Value} {below : List Frame} {meth : Method} {c : Code} (l : Launch) (y : Sy) (x0 : Int32) (x1 : Int32) (x2 : Int32) (C : Sd p s m args meth c cX9_partsOf 6 RX9 (some .long) y) (c5 : Int64 → Int32 → St → Prop) (K : Int64 → St → Prop) (hc5 : ∀ (v3 : Int64) (v5 : Int32) (st : St) (H : Heap) (locs : List Loc) (ls : Array Slot), gH 17 enM y st s H locs → lv_has ls 6 [(0, .int x0), (1, .int x1), (2, .int x2), (3, .long v3), (5, .int v5)] → c5 v3 v5 st → W p l e (rmm 1 21) s m args below meth c H locs 0 0 (MQ below (va_Ql K (gB 17 enM y) (gA 17 y)) args s 0 0 (gA 17 y)) (F0 m 5 ls [])) (v5 : Int32) (s0 : Int64) (s1 : Int64) (st : St) {H : Heap} {locs : List Loc} {ls : Array Slot} (hG : gH 17 enM y st s H locs) (hl : lv_has ls 6 [(0, .int x0), (1, .int x1), (2, .int x2), (5, .int v5)]) (hw : w_X9_partsOf_b29 x0 x1 x2 c5 K v5 s0 s1 st) : W p l e (rmm 1 21) s m args below meth c H locs 0 0 (MQ below (va_Ql K (gB 17 enM y) (gA 17 y)) args s 0 0 (gA 17 y)) (F0 m 29 ls [.long s0, .long s1]) := by
  obtain ⟨hx, hb, hml, hown, hts, hr, hlk, hK, hN⟩ := id C
  unfold w_X9_partsOf_b29 at hw
  refine lv_lmul hx hb dX9_partsOf_29 ?_
  refine lv_lstore_n (lv' := [(3, .long (s1 * s0)), (0, .int x0), (1, .int x1), (2, .int x2), (5, .int v5)]) hx hb dX9_partsOf_30 rfl hl (Nat.le_of_ble_eq_true rfl) rfl (fun ls hl => ?_)
  refine lv_iinc (v := (v5 + 1)) (lv' := [(5, .int (v5 + 1)), (3, .long (s1 * s0)), (0, .int x0), (1, .int x1), (2, .int x2)]) hx hb dX9_partsOf_31 hl (k := 4) rfl rfl (Nat.le_of_ble_eq_true rfl) rfl (fun ls hl => ?_)
  refine lv_goto (tgt := 5) hx hb dX9_partsOf_34 (by decide) ?_
  exact hc5 (s1 * s0) (v5 + 1) st H locs _ hG (lv_sub hl [2, 3, 4, 1, 0] rfl) hw
set_option maxRecDepth 100000 in
set_option maxHeartbeats 4000000 in
theorem z_X9_partsOf_L5 {p : Program} {e : Env} {s : State} {m : MethodId} {args : Array Value} {below : List Frame} {meth : Method} {c : Code} (l : Launch) (y : Sy) (x0 : Int32) (x1 : Int32) (x2 : Int32) (C : Sd p s m args meth c cX9_partsOf 6 RX9 (some .long) y)  (K : Int64 → St → Prop)  : ∀ (n : Nat) (v3 : Int64) (v5 : Int32) (st : St) (H : Heap) (locs : List Loc) (ls : Array Slot), gH 17 enM y st s H locs → lv_has ls 6 [(0, .int x0), (1, .int x1), (2, .int x2), (3, .long v3), (5, .int v5)] → w_X9_partsOf_L5 x0 x1 x2  K n v3 v5 st → W p l e (rmm 1 21) s m args below meth c H locs 0 0 (MQ below (va_Ql K (gB 17 enM y) (gA 17 y)) args s 0 0 (gA 17 y)) (F0 m 5 ls []) := by
  obtain ⟨hx, hb, hml, hown, hts, hr, hlk, hK, hN⟩ := id C
  intro n
  induction n with
  | zero => intro v3 v5 st H locs ls hG hl hw; exact False.elim hw
  | succ n hc5 =>
    intro v3 v5 st H locs ls hG hl hw
    have hw : w_X9_partsOf_L5q x0 x1 x2  K (fun v3 v5 st => w_X9_partsOf_L5 x0 x1 x2  K n v3 v5 st) v3 v5 st := hw
    unfold w_X9_partsOf_L5q at hw
    refine lv_iload hx hb dX9_partsOf_5 (lv_at hl 4 rfl) ?_
    refine lv_iload_n hx hb dX9_partsOf_7 rfl (lv_at hl 1 rfl) ?_
    refine lv_icmp_ge (tgt := 37) hx hb dX9_partsOf_8 (by decide) (fun hc => ?_) (fun hc => ?_)
    · replace hw := hw.1 hc
      refine lv_lload_n hx hb dX9_partsOf_37 rfl (lv_at hl 3 rfl) ?_
      exact r_lret hx hb hr hlk hK hG hw dX9_partsOf_38
    · replace hw := hw.2 hc
      refine lv_lload_n hx hb dX9_partsOf_11 rfl (lv_at hl 3 rfl) ?_
      refine lv_iload_n hx hb dX9_partsOf_12 rfl (lv_at hl 0 rfl) ?_
      refine lv_iload hx hb dX9_partsOf_13 (lv_at hl 4 rfl) ?_
      refine r_ki (r_run_S (As := [.int x0, .int v5]) (rest := [.long v3]) hx hb hml hown hts hK hN hG (c_X9_has l y x0 v5 st _ hw) qM_X9_174 qT_X9_has qN_X9 qC_X9_has hd_X9_has ⟨Nat.le_of_ble_eq_true rfl, Nat.le_of_ble_eq_true rfl⟩ hl.1 rfl (Nat.le_of_ble_eq_true rfl) dX9_partsOf_15) hG (fun r15 st15 H locs hw hG => ?_)
      refine lv_if_eq (tgt := 25) hx hb dX9_partsOf_18 (by decide) (fun hc => ?_) (fun hc => ?_)
      · replace hw := hw.1 hc
        refine lv_iload_n hx hb dX9_partsOf_25 rfl (lv_at hl 2 rfl) ?_
        refine lv_iconst (v := 1) hx hb dX9_partsOf_26 (by decide) ?_
        refine lv_isub hx hb dX9_partsOf_27 ?_
        refine lv_i2l (v := ((x2 - 1)).toInt64) hx hb dX9_partsOf_28 rfl ?_
        exact z_X9_partsOf_b29 l y x0 x1 x2 C (fun v3 v5 st => w_X9_partsOf_L5 x0 x1 x2  K n v3 v5 st) K hc5 v5 (((x2 - 1)).toInt64) v3 st15 hG (lv_sub hl [0, 1, 2, 4] rfl) hw
      · replace hw := hw.2 hc
        refine lv_lconst (v := 1) hx hb dX9_partsOf_21 (by decide) ?_
        refine lv_goto (tgt := 29) hx hb dX9_partsOf_22 (by decide) ?_
        exact z_X9_partsOf_b29 l y x0 x1 x2 C (fun v3 v5 st => w_X9_partsOf_L5 x0 x1 x2  K n v3 v5 st) K hc5 v5 1 v3 st15 hG (lv_sub hl [0, 1, 2, 4] rfl) hw
theorem hd_X9_partsOf : yX9_partsOf.cls ≠ "java/lang/invoke/MethodHandle" ∧ yX9_partsOf.cls ≠ "java/lang/invoke/VarHandle" ∧ (parseMethodDescriptor yX9_partsOf.desc).map (fun d => d.parameters.length) = some 3 := by decide +kernel
set_option maxRecDepth 100000 in
set_option maxHeartbeats 4000000 in
theorem c_X9_partsOf (l : Launch) (y : Sy) (x0 : Int32) (x1 : Int32) (x2 : Int32) (st : St) (K : Int64 → St → Prop) (hw : w_X9_partsOf x0 x1 x2 st K) : Cl 17 enM l yX9_partsOf cX9_partsOf 6 (some .long) 1 21 y [.int x0, .int x1, .int x2] st K := by
  refine ent (by decide) (Nat.le_of_ble_eq_true rfl) ?_
  intro p e s m below meth c C hG ls hl
  have hl : lv_has ls 6 [(0, .int x0), (1, .int x1), (2, .int x2)] := hl
  generalize ([.int x0, .int x1, .int x2] : List Value).toArray = args at C ⊢
  have C : Sd p s m args meth c cX9_partsOf 6 RX9 (some .long) y := C
  obtain ⟨hx, hb, hml, hown, hts, hr, hlk, hK, hN⟩ := id C
  generalize s.heap = H at hG ⊢
  generalize ([] : List Loc) = locs at hG ⊢
  unfold w_X9_partsOf at hw
  refine lv_lconst (v := 1) hx hb dX9_partsOf_0 (by decide) ?_
  refine lv_lstore_n (lv' := [(3, .long 1), (0, .int x0), (1, .int x1), (2, .int x2)]) hx hb dX9_partsOf_1 rfl hl (Nat.le_of_ble_eq_true rfl) rfl (fun ls hl => ?_)
  refine lv_iconst (v := 0) hx hb dX9_partsOf_2 (by decide) ?_
  refine lv_istore (lv' := [(5, .int 0), (3, .long 1), (0, .int x0), (1, .int x1), (2, .int x2)]) hx hb dX9_partsOf_3 hl (Nat.le_of_ble_eq_true rfl) rfl (fun ls hl => ?_)
  obtain ⟨n5, hw⟩ := hw
  exact z_X9_partsOf_L5 l y x0 x1 x2 C  K  n5 1 0 st H locs _ hG (lv_sub hl [2, 3, 4, 1, 0] rfl) hw
set_option maxRecDepth 100000 in
set_option maxHeartbeats 4000000 in
theorem z_X9_power_L5 {p : Program} {e : Env} {s : State} {m : MethodId} {args : Array Value} {below : List Frame} {meth : Method} {c : Code} (l : Launch) (y : Sy) (x0 : Int32) (x1 : Int32) (C : Sd p s m args meth c cX9_power 5 RX9 (some .long) y)  (K : Int64 → St → Prop)  : ∀ (n : Nat) (v2 : Int64) (v4 : Int32) (st : St) (H : Heap) (locs : List Loc) (ls : Array Slot), gH 17 enM y st s H locs → lv_has ls 5 [(0, .int x0), (1, .int x1), (2, .long v2), (4, .int v4)] → w_X9_power_L5 x0 x1  K n v2 v4 st → W p l e (rmm 0 0) s m args below meth c H locs 0 0 (MQ below (va_Ql K (gB 17 enM y) (gA 17 y)) args s 0 0 (gA 17 y)) (F0 m 5 ls []) := by
  obtain ⟨hx, hb, hml, hown, hts, hr, hlk, hK, hN⟩ := id C
  intro n
  induction n with
  | zero => intro v2 v4 st H locs ls hG hl hw; exact False.elim hw
  | succ n hc5 =>
    intro v2 v4 st H locs ls hG hl hw
    have hw : w_X9_power_L5q x0 x1  K (fun v2 v4 st => w_X9_power_L5 x0 x1  K n v2 v4 st) v2 v4 st := hw
    unfold w_X9_power_L5q at hw
    refine lv_iload hx hb dX9_power_5 (lv_at hl 3 rfl) ?_
    refine lv_iload_n hx hb dX9_power_7 rfl (lv_at hl 1 rfl) ?_
    refine lv_icmp_ge (tgt := 22) hx hb dX9_power_8 (by decide) (fun hc => ?_) (fun hc => ?_)
    · replace hw := hw.1 hc
      refine lv_lload_n hx hb dX9_power_22 rfl (lv_at hl 2 rfl) ?_
      exact r_lret hx hb hr hlk hK hG hw dX9_power_23
    · replace hw := hw.2 hc
      refine lv_lload_n hx hb dX9_power_11 rfl (lv_at hl 2 rfl) ?_
      refine lv_iload_n hx hb dX9_power_12 rfl (lv_at hl 0 rfl) ?_
      refine lv_i2l (v := (x0).toInt64) hx hb dX9_power_13 rfl ?_
      refine lv_lmul hx hb dX9_power_14 ?_
      refine lv_lstore_n (lv' := [(2, .long (v2 * ((x0).toInt64))), (0, .int x0), (1, .int x1), (4, .int v4)]) hx hb dX9_power_15 rfl hl (Nat.le_of_ble_eq_true rfl) rfl (fun ls hl => ?_)
      refine lv_iinc (v := (v4 + 1)) (lv' := [(4, .int (v4 + 1)), (2, .long (v2 * ((x0).toInt64))), (0, .int x0), (1, .int x1)]) hx hb dX9_power_16 hl (k := 3) rfl rfl (Nat.le_of_ble_eq_true rfl) rfl (fun ls hl => ?_)
      refine lv_goto (tgt := 5) hx hb dX9_power_19 (by decide) ?_
      exact hc5 (v2 * ((x0).toInt64)) (v4 + 1) st H locs _ hG (lv_sub hl [2, 3, 1, 0] rfl) hw
theorem hd_X9_power : yX9_power.cls ≠ "java/lang/invoke/MethodHandle" ∧ yX9_power.cls ≠ "java/lang/invoke/VarHandle" ∧ (parseMethodDescriptor yX9_power.desc).map (fun d => d.parameters.length) = some 2 := by decide +kernel
set_option maxRecDepth 100000 in
set_option maxHeartbeats 4000000 in
theorem c_X9_power (l : Launch) (y : Sy) (x0 : Int32) (x1 : Int32) (st : St) (K : Int64 → St → Prop) (hw : w_X9_power x0 x1 st K) : Cl 17 enM l yX9_power cX9_power 5 (some .long) 0 0 y [.int x0, .int x1] st K := by
  refine ent (by decide) (Nat.le_of_ble_eq_true rfl) ?_
  intro p e s m below meth c C hG ls hl
  have hl : lv_has ls 5 [(0, .int x0), (1, .int x1)] := hl
  generalize ([.int x0, .int x1] : List Value).toArray = args at C ⊢
  have C : Sd p s m args meth c cX9_power 5 RX9 (some .long) y := C
  obtain ⟨hx, hb, hml, hown, hts, hr, hlk, hK, hN⟩ := id C
  generalize s.heap = H at hG ⊢
  generalize ([] : List Loc) = locs at hG ⊢
  unfold w_X9_power at hw
  refine lv_lconst (v := 1) hx hb dX9_power_0 (by decide) ?_
  refine lv_lstore_n (lv' := [(2, .long 1), (0, .int x0), (1, .int x1)]) hx hb dX9_power_1 rfl hl (Nat.le_of_ble_eq_true rfl) rfl (fun ls hl => ?_)
  refine lv_iconst (v := 0) hx hb dX9_power_2 (by decide) ?_
  refine lv_istore (lv' := [(4, .int 0), (2, .long 1), (0, .int x0), (1, .int x1)]) hx hb dX9_power_3 hl (Nat.le_of_ble_eq_true rfl) rfl (fun ls hl => ?_)
  obtain ⟨n5, hw⟩ := hw
  exact z_X9_power_L5 l y x0 x1 C  K  n5 1 0 st H locs _ hG (lv_sub hl [2, 3, 1, 0] rfl) hw
set_option maxRecDepth 100000 in
set_option maxHeartbeats 4000000 in
theorem z_X9_jug_b107 {p : Program} {e : Env} {s : State} {m : MethodId} {args : Array Value} {below : List Frame} {meth : Method} {c : Code} (l : Launch) (y : Sy) (x1 : Int32) (x2 : Int32) (x3 : Int32) (x4 : Int32) (C : Sd p s m args meth c cX9_jug 9 RX9 (some .long) y) (c77 : Int64 → Int32 → St → Prop) (K : Int64 → St → Prop) (hc77 : ∀ (v6 : Int64) (v8 : Int32) (st : St) (H : Heap) (locs : List Loc) (ls : Array Slot), gH 17 enM y st s H locs → lv_has ls 9 [(1, .int x1), (2, .int x2), (3, .int x3), (4, .int x4), (6, .long v6), (8, .int v8)] → c77 v6 v8 st → W p l e (rmm 2 53) s m args below meth c H locs 0 0 (MQ below (va_Ql K (gB 17 enM y) (gA 17 y)) args s 0 0 (gA 17 y)) (F0 m 77 ls [])) (v8 : Int32) (s0 : Int64) (s1 : Int64) (st : St) {H : Heap} {locs : List Loc} {ls : Array Slot} (hG : gH 17 enM y st s H locs) (hl : lv_has ls 9 [(1, .int x1), (2, .int x2), (3, .int x3), (4, .int x4), (8, .int v8)]) (hw : w_X9_jug_b107 x1 x2 x3 x4 c77 K v8 s0 s1 st) : W p l e (rmm 2 53) s m args below meth c H locs 0 0 (MQ below (va_Ql K (gB 17 enM y) (gA 17 y)) args s 0 0 (gA 17 y)) (F0 m 107 ls [.long s0, .long s1]) := by
  obtain ⟨hx, hb, hml, hown, hts, hr, hlk, hK, hN⟩ := id C
  unfold w_X9_jug_b107 at hw
  refine lv_ladd hx hb dX9_jug_107 ?_
  refine lv_lstore (lv' := [(6, .long (s1 + s0)), (1, .int x1), (2, .int x2), (3, .int x3), (4, .int x4), (8, .int v8)]) hx hb dX9_jug_108 hl (Nat.le_of_ble_eq_true rfl) rfl (fun ls hl => ?_)
  refine lv_iinc (v := (v8 + 1)) (lv' := [(8, .int (v8 + 1)), (6, .long (s1 + s0)), (1, .int x1), (2, .int x2), (3, .int x3), (4, .int x4)]) hx hb dX9_jug_110 hl (k := 5) rfl rfl (Nat.le_of_ble_eq_true rfl) rfl (fun ls hl => ?_)
  refine lv_goto (tgt := 77) hx hb dX9_jug_113 (by decide) ?_
  exact hc77 (s1 + s0) (v8 + 1) st H locs _ hG (lv_sub hl [2, 3, 4, 5, 1, 0] rfl) hw
set_option maxRecDepth 100000 in
set_option maxHeartbeats 4000000 in
theorem z_X9_jug_b116 {p : Program} {e : Env} {s : State} {m : MethodId} {args : Array Value} {below : List Frame} {meth : Method} {c : Code} (l : Launch) (y : Sy) (x1 : Int32) (x2 : Int32) (x3 : Int32) (x4 : Int32) (C : Sd p s m args meth c cX9_jug 9 RX9 (some .long) y)  (K : Int64 → St → Prop)  (v6 : Int64) (st : St) {H : Heap} {locs : List Loc} {ls : Array Slot} (hG : gH 17 enM y st s H locs) (hl : lv_has ls 9 [(1, .int x1), (3, .int x3), (4, .int x4), (6, .long v6)]) (hw : w_X9_jug_b116 x1 x2 x3 x4  K v6 st) : W p l e (rmm 2 53) s m args below meth c H locs 0 0 (MQ below (va_Ql K (gB 17 enM y) (gA 17 y)) args s 0 0 (gA 17 y)) (F0 m 116 ls []) := by
  obtain ⟨hx, hb, hml, hown, hts, hr, hlk, hK, hN⟩ := id C
  unfold w_X9_jug_b116 at hw
  refine lv_lload hx hb dX9_jug_116 (lv_at hl 3 rfl) ?_
  refine lv_iload_n hx hb dX9_jug_118 rfl (lv_at hl 1 rfl) ?_
  refine lv_iload_n hx hb dX9_jug_119 rfl (lv_at hl 0 rfl) ?_
  refine r_kl (r_run_S (As := [.int x3, .int x1]) (rest := [.long v6]) hx hb hml hown hts hK hN hG (c_X9_power l y x3 x1 st _ hw) qM_X9_293 qT_X9_power qN_X9 qC_X9_power hd_X9_power ⟨Nat.le_of_ble_eq_true rfl, Nat.le_of_ble_eq_true rfl⟩ hl.1 rfl (Nat.le_of_ble_eq_true rfl) dX9_jug_120) hG (fun r120 st120 H locs hw hG => ?_)
  refine lv_iload hx hb dX9_jug_123 (lv_at hl 2 rfl) ?_
  refine r_kl (r_run_S (As := [.long v6, .long r120, .int x4]) (rest := []) hx hb hml hown hts hK hN hG (c_X9_partOf l y v6 r120 x4 st120 _ hw) qM_X9_297 qT_X9_partOf qN_X9 qC_X9_partOf hd_X9_partOf ⟨Nat.le_of_ble_eq_true rfl, Nat.le_of_ble_eq_true rfl⟩ hl.1 rfl (Nat.le_of_ble_eq_true rfl) dX9_jug_125) hG (fun r125 st125 H locs hw hG => ?_)
  exact r_lret hx hb hr hlk hK hG hw dX9_jug_128
set_option maxRecDepth 100000 in
set_option maxHeartbeats 4000000 in
theorem z_X9_jug_L77 {p : Program} {e : Env} {s : State} {m : MethodId} {args : Array Value} {below : List Frame} {meth : Method} {c : Code} (l : Launch) (y : Sy) (x1 : Int32) (x2 : Int32) (x3 : Int32) (x4 : Int32) (C : Sd p s m args meth c cX9_jug 9 RX9 (some .long) y)  (K : Int64 → St → Prop)  : ∀ (n : Nat) (v6 : Int64) (v8 : Int32) (st : St) (H : Heap) (locs : List Loc) (ls : Array Slot), gH 17 enM y st s H locs → lv_has ls 9 [(1, .int x1), (2, .int x2), (3, .int x3), (4, .int x4), (6, .long v6), (8, .int v8)] → w_X9_jug_L77 x1 x2 x3 x4  K n v6 v8 st → W p l e (rmm 2 53) s m args below meth c H locs 0 0 (MQ below (va_Ql K (gB 17 enM y) (gA 17 y)) args s 0 0 (gA 17 y)) (F0 m 77 ls []) := by
  obtain ⟨hx, hb, hml, hown, hts, hr, hlk, hK, hN⟩ := id C
  intro n
  induction n with
  | zero => intro v6 v8 st H locs ls hG hl hw; exact False.elim hw
  | succ n hc77 =>
    intro v6 v8 st H locs ls hG hl hw
    have hw : w_X9_jug_L77q x1 x2 x3 x4  K (fun v6 v8 st => w_X9_jug_L77 x1 x2 x3 x4  K n v6 v8 st) v6 v8 st := hw
    unfold w_X9_jug_L77q at hw
    refine lv_iload hx hb dX9_jug_77 (lv_at hl 5 rfl) ?_
    refine lv_iconst (v := 1) hx hb dX9_jug_79 (by decide) ?_
    refine lv_iload_n hx hb dX9_jug_80 rfl (lv_at hl 0 rfl) ?_
    refine lv_ishl hx hb dX9_jug_81 ?_
    refine lv_icmp_ge (tgt := 116) hx hb dX9_jug_82 (by decide) (fun hc => ?_) (fun hc => ?_)
    · replace hw := hw.1 hc
      exact z_X9_jug_b116 l y x1 x2 x3 x4 C  K  v6 st hG (lv_sub hl [0, 2, 3, 4] rfl) hw
    · replace hw := hw.2 hc
      refine lv_lload hx hb dX9_jug_85 (lv_at hl 4 rfl) ?_
      refine lv_iload hx hb dX9_jug_87 (lv_at hl 5 rfl) ?_
      refine r_ki (r_run_S (As := [.int v8]) (rest := [.long v6]) hx hb hml hown hts hK hN hG (c_X9_bits l y v8 st _ hw) qM_X9_214 qT_X9_bits qN_X9 qC_X9_bits hd_X9_bits ⟨Nat.le_of_ble_eq_true rfl, Nat.le_of_ble_eq_true rfl⟩ hl.1 rfl (Nat.le_of_ble_eq_true rfl) dX9_jug_89) hG (fun r89 st89 H locs hw hG => ?_)
      refine lv_iload_n hx hb dX9_jug_92 rfl (lv_at hl 1 rfl) ?_
      refine lv_icmp_lt (tgt := 106) hx hb dX9_jug_93 (by decide) (fun hc => ?_) (fun hc => ?_)
      · replace hw := hw.1 hc
        refine lv_lconst (v := 0) hx hb dX9_jug_106 (by decide) ?_
        exact z_X9_jug_b107 l y x1 x2 x3 x4 C (fun v6 v8 st => w_X9_jug_L77 x1 x2 x3 x4  K n v6 v8 st) K hc77 v8 0 v6 st89 hG (lv_sub hl [0, 1, 2, 3, 5] rfl) hw
      · replace hw := hw.2 hc
        refine lv_iload hx hb dX9_jug_96 (lv_at hl 5 rfl) ?_
        refine lv_iload_n hx hb dX9_jug_98 rfl (lv_at hl 0 rfl) ?_
        refine lv_iload_n hx hb dX9_jug_99 rfl (lv_at hl 2 rfl) ?_
        refine r_kl (r_run_S (As := [.int v8, .int x1, .int x3]) (rest := [.long v6]) hx hb hml hown hts hK hN hG (c_X9_partsOf l y v8 x1 x3 st89 _ hw) qM_X9_289 qT_X9_partsOf qN_X9 qC_X9_partsOf hd_X9_partsOf ⟨Nat.le_of_ble_eq_true rfl, Nat.le_of_ble_eq_true rfl⟩ hl.1 rfl (Nat.le_of_ble_eq_true rfl) dX9_jug_100) hG (fun r100 st100 H locs hw hG => ?_)
        refine lv_goto (tgt := 107) hx hb dX9_jug_103 (by decide) ?_
        exact z_X9_jug_b107 l y x1 x2 x3 x4 C (fun v6 v8 st => w_X9_jug_L77 x1 x2 x3 x4  K n v6 v8 st) K hc77 v8 r100 v6 st100 hG (lv_sub hl [0, 1, 2, 3, 5] rfl) hw
set_option maxRecDepth 100000 in
set_option maxHeartbeats 4000000 in
theorem z_X9_jug_b57 {p : Program} {e : Env} {s : State} {m : MethodId} {args : Array Value} {below : List Frame} {meth : Method} {c : Code} (l : Launch) (y : Sy) (x1 : Int32) (x2 : Int32) (x3 : Int32) (x4 : Int32) (C : Sd p s m args meth c cX9_jug 9 RX9 (some .long) y)  (K : Int64 → St → Prop)  (s0 : Int32) (st : St) {H : Heap} {locs : List Loc} {ls : Array Slot} (hG : gH 17 enM y st s H locs) (hl : lv_has ls 9 [(0, .ref (ad y 0)), (1, .int x1), (2, .int x2), (3, .int x3), (4, .int x4)]) (hw : w_X9_jug_b57 x1 x2 x3 x4  K s0 st) : W p l e (rmm 2 53) s m args below meth c H locs 0 0 (MQ below (va_Ql K (gB 17 enM y) (gA 17 y)) args s 0 0 (gA 17 y)) (F0 m 57 ls [.int s0]) := by
  obtain ⟨hx, hb, hml, hown, hts, hr, hlk, hK, hN⟩ := id C
  unfold w_X9_jug_b57 at hw
  refine lv_istore (lv' := [(5, .int s0), (0, .ref (ad y 0)), (1, .int x1), (2, .int x2), (3, .int x3), (4, .int x4)]) hx hb dX9_jug_57 hl (Nat.le_of_ble_eq_true rfl) rfl (fun ls hl => ?_)
  refine lv_iload hx hb dX9_jug_59 (lv_at hl 0 rfl) ?_
  refine lv_if_eq (tgt := 71) hx hb dX9_jug_61 (by decide) (fun hc => ?_) (fun hc => ?_)
  · replace hw := hw.1 hc
    refine lv_lconst (v := 0) hx hb dX9_jug_71 (by decide) ?_
    refine lv_lstore (lv' := [(6, .long 0), (5, .int s0), (0, .ref (ad y 0)), (1, .int x1), (2, .int x2), (3, .int x3), (4, .int x4)]) hx hb dX9_jug_72 hl (Nat.le_of_ble_eq_true rfl) rfl (fun ls hl => ?_)
    refine lv_iconst (v := 0) hx hb dX9_jug_74 (by decide) ?_
    refine lv_istore (lv' := [(8, .int 0), (6, .long 0), (5, .int s0), (0, .ref (ad y 0)), (1, .int x1), (2, .int x2), (3, .int x3), (4, .int x4)]) hx hb dX9_jug_75 hl (Nat.le_of_ble_eq_true rfl) rfl (fun ls hl => ?_)
    obtain ⟨n77, hw⟩ := hw
    exact z_X9_jug_L77 l y x1 x2 x3 x4 C  K  n77 0 0 st H locs _ hG (lv_sub hl [4, 5, 6, 7, 1, 0] rfl) hw
  · replace hw := hw.2 hc
    refine lv_aload_n hx hb dX9_jug_64 rfl (lv_at hl 1 rfl) ?_
    refine lv_iload hx hb dX9_jug_65 (lv_at hl 0 rfl) ?_
    refine r_kl (r_run_V (k := 0) (As := [.int s0]) (rest := []) hx hb hml hown hts hK hN hG (c_X9_lowestOf l y s0 st _ hw) (by decide) rfl rfl rfl qM_X9_285 qI_X9_lowestOf qS_X9_lowestOf qN_X9 qC_X9_lowestOf hd_X9_lowestOf ⟨Nat.le_of_ble_eq_true rfl, Nat.le_of_ble_eq_true rfl⟩ hl.1 rfl (Nat.le_of_ble_eq_true rfl) dX9_jug_67) hG (fun r67 st67 H locs hw hG => ?_)
    exact r_lret hx hb hr hlk hK hG hw dX9_jug_70
set_option maxRecDepth 100000 in
set_option maxHeartbeats 4000000 in
theorem z_X9_jug_b13 {p : Program} {e : Env} {s : State} {m : MethodId} {args : Array Value} {below : List Frame} {meth : Method} {c : Code} (l : Launch) (y : Sy) (x1 : Int32) (x2 : Int32) (x3 : Int32) (x4 : Int32) (C : Sd p s m args meth c cX9_jug 9 RX9 (some .long) y)  (K : Int64 → St → Prop)   (st : St) {H : Heap} {locs : List Loc} {ls : Array Slot} (hG : gH 17 enM y st s H locs) (hl : lv_has ls 9 [(0, .ref (ad y 0)), (1, .int x1), (2, .int x2), (3, .int x3), (4, .int x4)]) (hw : w_X9_jug_b13 x1 x2 x3 x4  K  st) : W p l e (rmm 2 53) s m args below meth c H locs 0 0 (MQ below (va_Ql K (gB 17 enM y) (gA 17 y)) args s 0 0 (gA 17 y)) (F0 m 13 ls []) := by
  obtain ⟨hx, hb, hml, hown, hts, hr, hlk, hK, hN⟩ := id C
  unfold w_X9_jug_b13 at hw
  refine lv_bipush (v := (-4)) hx hb dX9_jug_13 (by decide) ?_
  refine lv_goto (tgt := 57) hx hb dX9_jug_15 (by decide) ?_
  exact z_X9_jug_b57 l y x1 x2 x3 x4 C  K  (-4) st hG (lv_sub hl [0, 1, 2, 3, 4] rfl) hw
set_option maxRecDepth 100000 in
set_option maxHeartbeats 4000000 in
theorem z_X9_jug_b36 {p : Program} {e : Env} {s : State} {m : MethodId} {args : Array Value} {below : List Frame} {meth : Method} {c : Code} (l : Launch) (y : Sy) (x1 : Int32) (x2 : Int32) (x3 : Int32) (x4 : Int32) (C : Sd p s m args meth c cX9_jug 9 RX9 (some .long) y)  (K : Int64 → St → Prop)   (st : St) {H : Heap} {locs : List Loc} {ls : Array Slot} (hG : gH 17 enM y st s H locs) (hl : lv_has ls 9 [(0, .ref (ad y 0)), (1, .int x1), (2, .int x2), (3, .int x3), (4, .int x4)]) (hw : w_X9_jug_b36 x1 x2 x3 x4  K  st) : W p l e (rmm 2 53) s m args below meth c H locs 0 0 (MQ below (va_Ql K (gB 17 enM y) (gA 17 y)) args s 0 0 (gA 17 y)) (F0 m 36 ls []) := by
  obtain ⟨hx, hb, hml, hown, hts, hr, hlk, hK, hN⟩ := id C
  unfold w_X9_jug_b36 at hw
  refine lv_bipush (v := (-6)) hx hb dX9_jug_36 (by decide) ?_
  refine lv_goto (tgt := 57) hx hb dX9_jug_38 (by decide) ?_
  exact z_X9_jug_b57 l y x1 x2 x3 x4 C  K  (-6) st hG (lv_sub hl [0, 1, 2, 3, 4] rfl) hw
theorem hd_X9_jug : yX9_jug.cls ≠ "java/lang/invoke/MethodHandle" ∧ yX9_jug.cls ≠ "java/lang/invoke/VarHandle" ∧ (parseMethodDescriptor yX9_jug.desc).map (fun d => d.parameters.length) = some 4 := by decide +kernel
set_option maxRecDepth 100000 in
set_option maxHeartbeats 4000000 in
theorem c_X9_jug (l : Launch) (y : Sy) (x1 : Int32) (x2 : Int32) (x3 : Int32) (x4 : Int32) (st : St) (K : Int64 → St → Prop) (hw : w_X9_jug x1 x2 x3 x4 st K) : Cl 17 enM l yX9_jug cX9_jug 9 (some .long) 2 53 y [.ref (ad y 0), .int x1, .int x2, .int x3, .int x4] st K := by
  refine ent (by decide) (Nat.le_of_ble_eq_true rfl) ?_
  intro p e s m below meth c C hG ls hl
  have hl : lv_has ls 9 [(0, .ref (ad y 0)), (1, .int x1), (2, .int x2), (3, .int x3), (4, .int x4)] := hl
  generalize ([.ref (ad y 0), .int x1, .int x2, .int x3, .int x4] : List Value).toArray = args at C ⊢
  have C : Sd p s m args meth c cX9_jug 9 RX9 (some .long) y := C
  obtain ⟨hx, hb, hml, hown, hts, hr, hlk, hK, hN⟩ := id C
  generalize s.heap = H at hG ⊢
  generalize ([] : List Loc) = locs at hG ⊢
  unfold w_X9_jug at hw
  refine lv_iload_n hx hb dX9_jug_0 rfl (lv_at hl 1 rfl) ?_
  refine lv_if_lt (tgt := 13) hx hb dX9_jug_1 (by decide) (fun hc => ?_) (fun hc => ?_)
  · replace hw := hw.1 hc
    exact z_X9_jug_b13 l y x1 x2 x3 x4 C  K  st hG (lv_sub hl [0, 1, 2, 3, 4] rfl) hw
  · replace hw := hw.2 hc
    refine lv_iload_n hx hb dX9_jug_4 rfl (lv_at hl 2 rfl) ?_
    refine lv_if_lt (tgt := 13) hx hb dX9_jug_5 (by decide) (fun hc => ?_) (fun hc => ?_)
    · replace hw := hw.1 hc
      exact z_X9_jug_b13 l y x1 x2 x3 x4 C  K  st hG (lv_sub hl [0, 1, 2, 3, 4] rfl) hw
    · replace hw := hw.2 hc
      refine lv_iload_n hx hb dX9_jug_8 rfl (lv_at hl 3 rfl) ?_
      refine lv_iconst (v := 2) hx hb dX9_jug_9 (by decide) ?_
      refine lv_icmp_ge (tgt := 18) hx hb dX9_jug_10 (by decide) (fun hc => ?_) (fun hc => ?_)
      · replace hw := hw.1 hc
        refine lv_iload_n hx hb dX9_jug_18 rfl (lv_at hl 1 rfl) ?_
        refine lv_bipush (v := 8) hx hb dX9_jug_19 (by decide) ?_
        refine lv_icmp_gt (tgt := 36) hx hb dX9_jug_21 (by decide) (fun hc => ?_) (fun hc => ?_)
        · replace hw := hw.1 hc
          exact z_X9_jug_b36 l y x1 x2 x3 x4 C  K  st hG (lv_sub hl [0, 1, 2, 3, 4] rfl) hw
        · replace hw := hw.2 hc
          refine lv_iload_n hx hb dX9_jug_24 rfl (lv_at hl 2 rfl) ?_
          refine lv_bipush (v := 8) hx hb dX9_jug_25 (by decide) ?_
          refine lv_icmp_gt (tgt := 36) hx hb dX9_jug_27 (by decide) (fun hc => ?_) (fun hc => ?_)
          · replace hw := hw.1 hc
            exact z_X9_jug_b36 l y x1 x2 x3 x4 C  K  st hG (lv_sub hl [0, 1, 2, 3, 4] rfl) hw
          · replace hw := hw.2 hc
            refine lv_iload_n hx hb dX9_jug_30 rfl (lv_at hl 3 rfl) ?_
            refine lv_bipush (v := 20) hx hb dX9_jug_31 (by decide) ?_
            refine lv_icmp_le (tgt := 41) hx hb dX9_jug_33 (by decide) (fun hc => ?_) (fun hc => ?_)
            · replace hw := hw.1 hc
              refine lv_iload hx hb dX9_jug_41 (lv_at hl 4 rfl) ?_
              refine lv_iconst (v := 0) hx hb dX9_jug_43 (by decide) ?_
              refine lv_iconst (v := 1) hx hb dX9_jug_44 (by decide) ?_
              refine r_ki (r_run_S (As := [.int x4, .int 0, .int 1]) (rest := []) hx hb hml hown hts hK hN hG (c_X9_isIn l y x4 0 1 st _ hw) qM_X9_90 qT_X9_isIn qN_X9 qC_X9_isIn hd_X9_isIn ⟨Nat.le_of_ble_eq_true rfl, Nat.le_of_ble_eq_true rfl⟩ hl.1 rfl (Nat.le_of_ble_eq_true rfl) dX9_jug_45) hG (fun r45 st45 H locs hw hG => ?_)
              refine lv_if_ne (tgt := 56) hx hb dX9_jug_48 (by decide) (fun hc => ?_) (fun hc => ?_)
              · replace hw := hw.1 hc
                refine lv_iconst (v := 0) hx hb dX9_jug_56 (by decide) ?_
                exact z_X9_jug_b57 l y x1 x2 x3 x4 C  K  0 st45 hG (lv_sub hl [0, 1, 2, 3, 4] rfl) hw
              · replace hw := hw.2 hc
                refine lv_bipush (v := (-2)) hx hb dX9_jug_51 (by decide) ?_
                refine lv_goto (tgt := 57) hx hb dX9_jug_53 (by decide) ?_
                exact z_X9_jug_b57 l y x1 x2 x3 x4 C  K  (-2) st45 hG (lv_sub hl [0, 1, 2, 3, 4] rfl) hw
            · replace hw := hw.2 hc
              exact z_X9_jug_b36 l y x1 x2 x3 x4 C  K  st hG (lv_sub hl [0, 1, 2, 3, 4] rfl) hw
      · replace hw := hw.2 hc
        exact z_X9_jug_b13 l y x1 x2 x3 x4 C  K  st hG (lv_sub hl [0, 1, 2, 3, 4] rfl) hw
