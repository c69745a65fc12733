set_option maxRecDepth 100000 in
set_option maxHeartbeats 4000000 in
theorem z_X9_getsOf_b66 {p : Program} {e : Env} {s : State} {m : MethodId} {args : Array Value} {below : List Frame} {meth : Method} {c : Code} (l : Launch) (y : Sy) (x1 : Int32) (x2 : Int32) (x3 : Int32) (x4 : Int32) (C : Sd p s m args meth c cX9_getsOf 7 RX9 (some .int) y)  (K : Int32 → St → Prop)  (v5 : Int32) (s0 : Int32) (s1 : Int32) (st : St) {H : Heap} {locs : List Loc} {ls : Array Slot} (hG : gH 17 enM y st s H locs) (hl : lv_has ls 7 [(0, .ref (ad y 0)), (1, .int x1), (2, .int x2), (5, .int v5)]) (hw : w_X9_getsOf_b66 x1 x2 x3 x4  K v5 s0 s1 st) : W p l e (rmm 6 139) s m args below meth c H locs 0 0 (MQ below (va_Qi K (gB 17 enM y) (gA 17 y)) args s 0 0 (gA 17 y)) (F0 m 66 ls [.int s0, .int s1]) := by
  obtain ⟨hx, hb, hml, hown, hts, hr, hlk, hK, hN⟩ := id C
  unfold w_X9_getsOf_b66 at hw
  refine lv_isub hx hb dX9_getsOf_66 ?_
  refine lv_istore (lv' := [(6, .int (s1 - s0)), (0, .ref (ad y 0)), (1, .int x1), (2, .int x2), (5, .int v5)]) hx hb dX9_getsOf_67 hl (Nat.le_of_ble_eq_true rfl) rfl (fun ls hl => ?_)
  refine lv_aload_n hx hb dX9_getsOf_69 rfl (lv_at hl 1 rfl) ?_
  refine lv_iload_n hx hb dX9_getsOf_70 rfl (lv_at hl 2 rfl) ?_
  refine lv_iload_n hx hb dX9_getsOf_71 rfl (lv_at hl 3 rfl) ?_
  refine lv_iload hx hb dX9_getsOf_72 (lv_at hl 4 rfl) ?_
  refine r_kv (r_run_V (k := 0) (As := [.int x1, .int x2, .int v5]) (rest := []) hx hb hml hown hts hK hN hG (c_X9_sets l y x1 x2 v5 st _ hw) (by decide) rfl rfl rfl qM_X9_128 qI_X9_sets qS_X9_sets qN_X9 qC_X9_sets hd_X9_sets ⟨Nat.le_of_ble_eq_true rfl, Nat.le_of_ble_eq_true rfl⟩ hl.1 rfl (Nat.le_of_ble_eq_true rfl) dX9_getsOf_74) hG (fun st74 H locs hw hG => ?_)
  refine lv_iload hx hb dX9_getsOf_77 (lv_at hl 0 rfl) ?_
  exact r_iret hx hb hr hlk hK hG rfl hw dX9_getsOf_79
set_option maxRecDepth 100000 in
set_option maxHeartbeats 4000000 in
theorem z_X9_getsOf_b65 {p : Program} {e : Env} {s : State} {m : MethodId} {args : Array Value} {below : List Frame} {meth : Method} {c : Code} (l : Launch) (y : Sy) (x1 : Int32) (x2 : Int32) (x3 : Int32) (x4 : Int32) (C : Sd p s m args meth c cX9_getsOf 7 RX9 (some .int) y)  (K : Int32 → St → Prop)  (v5 : Int32) (s0 : Int32) (st : St) {H : Heap} {locs : List Loc} {ls : Array Slot} (hG : gH 17 enM y st s H locs) (hl : lv_has ls 7 [(0, .ref (ad y 0)), (1, .int x1), (2, .int x2), (5, .int v5)]) (hw : w_X9_getsOf_b65 x1 x2 x3 x4  K v5 s0 st) : W p l e (rmm 6 139) s m args below meth c H locs 0 0 (MQ below (va_Qi K (gB 17 enM y) (gA 17 y)) args s 0 0 (gA 17 y)) (F0 m 65 ls [.int s0]) := by
  obtain ⟨hx, hb, hml, hown, hts, hr, hlk, hK, hN⟩ := id C
  unfold w_X9_getsOf_b65 at hw
  refine lv_iconst (v := 0) hx hb dX9_getsOf_65 (by decide) ?_
  exact z_X9_getsOf_b66 l y x1 x2 x3 x4 C  K  v5 0 s0 st hG (lv_sub hl [0, 1, 2, 3] rfl) hw
set_option maxRecDepth 100000 in
set_option maxHeartbeats 4000000 in
theorem z_X9_getsOf_b31 {p : Program} {e : Env} {s : State} {m : MethodId} {args : Array Value} {below : List Frame} {meth : Method} {c : Code} (l : Launch) (y : Sy) (x1 : Int32) (x2 : Int32) (x3 : Int32) (x4 : Int32) (C : Sd p s m args meth c cX9_getsOf 7 RX9 (some .int) y)  (K : Int32 → St → Prop)  (v5 : Int32) (s0 : Int32) (s1 : Int32) (s2 : Int32) (st : St) {H : Heap} {locs : List Loc} {ls : Array Slot} (hG : gH 17 enM y st s H locs) (hl : lv_has ls 7 [(0, .ref (ad y 0)), (1, .int x1), (2, .int x2), (3, .int x3), (4, .int x4), (5, .int v5)]) (hw : w_X9_getsOf_b31 x1 x2 x3 x4  K v5 s0 s1 s2 st) : W p l e (rmm 6 139) s m args below meth c H locs 0 0 (MQ below (va_Qi K (gB 17 enM y) (gA 17 y)) args s 0 0 (gA 17 y)) (F0 m 31 ls [.int s0, .int s1, .int s2, .ref (ad y 0)]) := by
  obtain ⟨hx, hb, hml, hown, hts, hr, hlk, hK, hN⟩ := id C
  unfold w_X9_getsOf_b31 at hw
  refine r_kv (r_run_V (k := 0) (As := [.int s2, .int s1, .int s0]) (rest := []) hx hb hml hown hts hK hN hG (c_X9_sets l y s2 s1 s0 st _ hw) (by decide) rfl rfl rfl qM_X9_128 qI_X9_sets qS_X9_sets qN_X9 qC_X9_sets hd_X9_sets ⟨Nat.le_of_ble_eq_true rfl, Nat.le_of_ble_eq_true rfl⟩ hl.1 rfl (Nat.le_of_ble_eq_true rfl) dX9_getsOf_31) hG (fun st31 H locs hw hG => ?_)
  refine lv_iconst (v := 4) hx hb dX9_getsOf_34 (by decide) ?_
  refine lv_aload_n hx hb dX9_getsOf_35 rfl (lv_at hl 0 rfl) ?_
  refine lv_iload_n hx hb dX9_getsOf_36 rfl (lv_at hl 1 rfl) ?_
  refine r_ki (r_run_V (k := 0) (As := [.int x1]) (rest := [.int 4]) hx hb hml hown hts hK hN hG (c_X9_payOf l y x1 st31 _ hw) (by decide) rfl rfl rfl qM_X9_205 qI_X9_payOf qS_X9_payOf qN_X9 qC_X9_payOf hd_X9_payOf ⟨Nat.le_of_ble_eq_true rfl, Nat.le_of_ble_eq_true rfl⟩ hl.1 rfl (Nat.le_of_ble_eq_true rfl) dX9_getsOf_37) hG (fun r37 st37 H locs hw hG => ?_)
  refine lv_imul hx hb dX9_getsOf_40 ?_
  refine lv_aload_n hx hb dX9_getsOf_41 rfl (lv_at hl 0 rfl) ?_
  refine lv_iload_n hx hb dX9_getsOf_42 rfl (lv_at hl 1 rfl) ?_
  refine lv_iload_n hx hb dX9_getsOf_43 rfl (lv_at hl 2 rfl) ?_
  refine lv_iconst (v := 4) hx hb dX9_getsOf_44 (by decide) ?_
  refine r_ki (r_run_V (k := 0) (As := [.int x1, .int x2, .int 4]) (rest := [.int (4 * r37)]) hx hb hml hown hts hK hN hG (c_X9_hateIn l y x1 x2 4 st37 _ hw) (by decide) rfl rfl rfl qM_X9_226 qI_X9_hateIn qS_X9_hateIn qN_X9 qC_X9_hateIn hd_X9_hateIn ⟨Nat.le_of_ble_eq_true rfl, Nat.le_of_ble_eq_true rfl⟩ hl.1 rfl (Nat.le_of_ble_eq_true rfl) dX9_getsOf_45) hG (fun r45 st45 H locs hw hG => ?_)
  refine lv_iconst (v := 2) hx hb dX9_getsOf_48 (by decide) ?_
  refine lv_idiv hx hb dX9_getsOf_49 (by decide) ?_
  refine lv_isub hx hb dX9_getsOf_50 ?_
  refine lv_iload_n hx hb dX9_getsOf_51 rfl (lv_at hl 3 rfl) ?_
  refine lv_iconst (v := 1) hx hb dX9_getsOf_52 (by decide) ?_
  refine lv_icmp_ne (tgt := 65) hx hb dX9_getsOf_53 (by decide) (fun hc => ?_) (fun hc => ?_)
  · replace hw := hw.1 hc
    exact z_X9_getsOf_b65 l y x1 x2 x3 x4 C  K  v5 ((4 * r37) - (r45 / 2)) st45 hG (lv_sub hl [0, 1, 2, 5] rfl) hw
  · replace hw := hw.2 hc
    refine lv_iload hx hb dX9_getsOf_56 (lv_at hl 4 rfl) ?_
    refine lv_if_ne (tgt := 65) hx hb dX9_getsOf_58 (by decide) (fun hc => ?_) (fun hc => ?_)
    · replace hw := hw.1 hc
      exact z_X9_getsOf_b65 l y x1 x2 x3 x4 C  K  v5 ((4 * r37) - (r45 / 2)) st45 hG (lv_sub hl [0, 1, 2, 5] rfl) hw
    · replace hw := hw.2 hc
      refine lv_iconst (v := 3) hx hb dX9_getsOf_61 (by decide) ?_
      refine lv_goto (tgt := 66) hx hb dX9_getsOf_62 (by decide) ?_
      exact z_X9_getsOf_b66 l y x1 x2 x3 x4 C  K  v5 3 ((4 * r37) - (r45 / 2)) st45 hG (lv_sub hl [0, 1, 2, 5] rfl) hw
set_option maxRecDepth 100000 in
set_option maxHeartbeats 4000000 in
theorem z_X9_getsOf_b29 {p : Program} {e : Env} {s : State} {m : MethodId} {args : Array Value} {below : List Frame} {meth : Method} {c : Code} (l : Launch) (y : Sy) (x1 : Int32) (x2 : Int32) (x3 : Int32) (x4 : Int32) (C : Sd p s m args meth c cX9_getsOf 7 RX9 (some .int) y)  (K : Int32 → St → Prop)  (v5 : Int32) (s0 : Int32) (s1 : Int32) (st : St) {H : Heap} {locs : List Loc} {ls : Array Slot} (hG : gH 17 enM y st s H locs) (hl : lv_has ls 7 [(0, .ref (ad y 0)), (1, .int x1), (2, .int x2), (3, .int x3), (4, .int x4), (5, .int v5)]) (hw : w_X9_getsOf_b29 x1 x2 x3 x4  K v5 s0 s1 st) : W p l e (rmm 6 139) s m args below meth c H locs 0 0 (MQ below (va_Qi K (gB 17 enM y) (gA 17 y)) args s 0 0 (gA 17 y)) (F0 m 29 ls [.int s0, .int s1, .ref (ad y 0)]) := by
  obtain ⟨hx, hb, hml, hown, hts, hr, hlk, hK, hN⟩ := id C
  unfold w_X9_getsOf_b29 at hw
  refine lv_iload hx hb dX9_getsOf_29 (lv_at hl 5 rfl) ?_
  exact z_X9_getsOf_b31 l y x1 x2 x3 x4 C  K  v5 v5 s0 s1 st hG (lv_sub hl [0, 1, 2, 3, 4, 5] rfl) hw
theorem hd_X9_getsOf : yX9_getsOf.cls ≠ "java/lang/invoke/MethodHandle" ∧ yX9_getsOf.cls ≠ "java/lang/invoke/VarHandle" ∧ (parseMethodDescriptor yX9_getsOf.desc).map (fun d => d.parameters.length) = some 4 := by decide +kernel
set_option maxRecDepth 100000 in
set_option maxHeartbeats 4000000 in
theorem c_X9_getsOf (l : Launch) (y : Sy) (x1 : Int32) (x2 : Int32) (x3 : Int32) (x4 : Int32) (st : St) (K : Int32 → St → Prop) (hw : w_X9_getsOf x1 x2 x3 x4 st K) : Ci 17 enM l yX9_getsOf cX9_getsOf 7 (some .int) 6 139 y [.ref (ad y 0), .int x1, .int x2, .int x3, .int x4] st K := by
  refine ent (by decide) (Nat.le_of_ble_eq_true rfl) ?_
  intro p e s m below meth c C hG ls hl
  have hl : lv_has ls 7 [(0, .ref (ad y 0)), (1, .int x1), (2, .int x2), (3, .int x3), (4, .int x4)] := hl
  generalize ([.ref (ad y 0), .int x1, .int x2, .int x3, .int x4] : List Value).toArray = args at C ⊢
  have C : Sd p s m args meth c cX9_getsOf 7 RX9 (some .int) y := C
  obtain ⟨hx, hb, hml, hown, hts, hr, hlk, hK, hN⟩ := id C
  generalize s.heap = H at hG ⊢
  generalize ([] : List Loc) = locs at hG ⊢
  unfold w_X9_getsOf at hw
  refine lv_aload_n hx hb dX9_getsOf_0 rfl (lv_at hl 0 rfl) ?_
  refine lv_iload_n hx hb dX9_getsOf_1 rfl (lv_at hl 1 rfl) ?_
  refine lv_iload_n hx hb dX9_getsOf_2 rfl (lv_at hl 2 rfl) ?_
  refine r_ki (r_run_V (k := 0) (As := [.int x1, .int x2]) (rest := []) hx hb hml hown hts hK hN hG (c_X9_hateOf l y x1 x2 st _ hw) (by decide) rfl rfl rfl qM_X9_180 qI_X9_hateOf qS_X9_hateOf qN_X9 qC_X9_hateOf hd_X9_hateOf ⟨Nat.le_of_ble_eq_true rfl, Nat.le_of_ble_eq_true rfl⟩ hl.1 rfl (Nat.le_of_ble_eq_true rfl) dX9_getsOf_3) hG (fun r3 st3 H locs hw hG => ?_)
  refine lv_istore (lv' := [(5, .int r3), (0, .ref (ad y 0)), (1, .int x1), (2, .int x2), (3, .int x3), (4, .int x4)]) hx hb dX9_getsOf_6 hl (Nat.le_of_ble_eq_true rfl) rfl (fun ls hl => ?_)
  refine lv_aload_n hx hb dX9_getsOf_8 rfl (lv_at hl 1 rfl) ?_
  refine lv_iload_n hx hb dX9_getsOf_9 rfl (lv_at hl 2 rfl) ?_
  refine lv_iload_n hx hb dX9_getsOf_10 rfl (lv_at hl 3 rfl) ?_
  refine lv_iload_n hx hb dX9_getsOf_11 rfl (lv_at hl 4 rfl) ?_
  refine lv_iconst (v := 1) hx hb dX9_getsOf_12 (by decide) ?_
  refine lv_icmp_ne (tgt := 29) hx hb dX9_getsOf_13 (by decide) (fun hc => ?_) (fun hc => ?_)
  · replace hw := hw.1 hc
    exact z_X9_getsOf_b29 l y x1 x2 x3 x4 C  K  r3 x2 x1 st3 hG (lv_sub hl [1, 2, 3, 4, 5, 0] rfl) hw
  · replace hw := hw.2 hc
    refine lv_iload hx hb dX9_getsOf_16 (lv_at hl 5 rfl) ?_
    refine lv_iconst (v := 1) hx hb dX9_getsOf_18 (by decide) ?_
    refine lv_icmp_ne (tgt := 29) hx hb dX9_getsOf_19 (by decide) (fun hc => ?_) (fun hc => ?_)
    · replace hw := hw.1 hc
      exact z_X9_getsOf_b29 l y x1 x2 x3 x4 C  K  r3 x2 x1 st3 hG (lv_sub hl [1, 2, 3, 4, 5, 0] rfl) hw
    · replace hw := hw.2 hc
      refine lv_iload hx hb dX9_getsOf_22 (lv_at hl 0 rfl) ?_
      refine lv_iconst (v := 2) hx hb dX9_getsOf_24 (by decide) ?_
      refine lv_idiv hx hb dX9_getsOf_25 (by decide) ?_
      refine lv_goto (tgt := 31) hx hb dX9_getsOf_26 (by decide) ?_
      exact z_X9_getsOf_b31 l y x1 x2 x3 x4 C  K  r3 (r3 / 2) x2 x1 st3 hG (lv_sub hl [1, 2, 3, 4, 5, 0] rfl) hw
set_option maxRecDepth 100000 in
set_option maxHeartbeats 4000000 in
theorem z_X9_two_b82 {p : Program} {e : Env} {s : State} {m : MethodId} {args : Array Value} {below : List Frame} {meth : Method} {c : Code} (l : Launch) (y : Sy) (x1 : Int32) (x2 : Int32) (C : Sd p s m args meth c cX9_two 6 RX9 (some .int) y)  (K : Int32 → St → Prop)  (v4 : Int32) (v5 : Int32) (st : St) {H : Heap} {locs : List Loc} {ls : Array Slot} (hG : gH 17 enM y st s H locs) (hl : lv_has ls 6 [(4, .int v4), (5, .int v5)]) (hw : w_X9_two_b82 x1 x2  K v4 v5 st) : W p l e (rmm 7 165) s m args below meth c H locs 0 0 (MQ below (va_Qi K (gB 17 enM y) (gA 17 y)) args s 0 0 (gA 17 y)) (F0 m 82 ls []) := by
  obtain ⟨hx, hb, hml, hown, hts, hr, hlk, hK, hN⟩ := id C
  unfold w_X9_two_b82 at hw
  refine lv_bipush (v := 10) hx hb dX9_two_82 (by decide) ?_
  refine lv_iload hx hb dX9_two_84 (lv_at hl 0 rfl) ?_
  refine lv_imul hx hb dX9_two_86 ?_
  refine lv_iload hx hb dX9_two_87 (lv_at hl 1 rfl) ?_
  refine lv_iadd hx hb dX9_two_89 ?_
  exact r_iret hx hb hr hlk hK hG rfl hw dX9_two_90
set_option maxRecDepth 100000 in
set_option maxHeartbeats 4000000 in
theorem z_X9_two_b91 {p : Program} {e : Env} {s : State} {m : MethodId} {args : Array Value} {below : List Frame} {meth : Method} {c : Code} (l : Launch) (y : Sy) (x1 : Int32) (x2 : Int32) (C : Sd p s m args meth c cX9_two 6 RX9 (some .int) y) (c17 : Int32 → St → Prop) (K : Int32 → St → Prop) (hc17 : ∀ (v3 : Int32) (st : St) (H : Heap) (locs : List Loc) (ls : Array Slot), gH 17 enM y st s H locs → lv_has ls 6 [(0, .ref (ad y 0)), (1, .int x1), (2, .int x2), (3, .int v3)] → c17 v3 st → W p l e (rmm 7 165) s m args below meth c H locs 0 0 (MQ below (va_Qi K (gB 17 enM y) (gA 17 y)) args s 0 0 (gA 17 y)) (F0 m 17 ls [])) (v3 : Int32) (st : St) {H : Heap} {locs : List Loc} {ls : Array Slot} (hG : gH 17 enM y st s H locs) (hl : lv_has ls 6 [(0, .ref (ad y 0)), (1, .int x1), (2, .int x2), (3, .int v3)]) (hw : w_X9_two_b91 x1 x2 c17 K v3 st) : W p l e (rmm 7 165) s m args below meth c H locs 0 0 (MQ below (va_Qi K (gB 17 enM y) (gA 17 y)) args s 0 0 (gA 17 y)) (F0 m 91 ls []) := by
  obtain ⟨hx, hb, hml, hown, hts, hr, hlk, hK, hN⟩ := id C
  unfold w_X9_two_b91 at hw
  refine lv_iinc (v := (v3 + 1)) (lv' := [(3, .int (v3 + 1)), (0, .ref (ad y 0)), (1, .int x1), (2, .int x2)]) hx hb dX9_two_91 hl (k := 3) rfl rfl (Nat.le_of_ble_eq_true rfl) rfl (fun ls hl => ?_)
  refine lv_goto (tgt := 17) hx hb dX9_two_94 (by decide) ?_
  exact hc17 (v3 + 1) st H locs _ hG (lv_sub hl [1, 2, 3, 0] rfl) hw
set_option maxRecDepth 100000 in
set_option maxHeartbeats 4000000 in
theorem z_X9_two_L17 {p : Program} {e : Env} {s : State} {m : MethodId} {args : Array Value} {below : List Frame} {meth : Method} {c : Code} (l : Launch) (y : Sy) (x1 : Int32) (x2 : Int32) (C : Sd p s m args meth c cX9_two 6 RX9 (some .int) y)  (K : Int32 → St → Prop)  : ∀ (n : Nat) (v3 : Int32) (st : St) (H : Heap) (locs : List Loc) (ls : Array Slot), gH 17 enM y st s H locs → lv_has ls 6 [(0, .ref (ad y 0)), (1, .int x1), (2, .int x2), (3, .int v3)] → w_X9_two_L17 x1 x2  K n v3 st → W p l e (rmm 7 165) s m args below meth c H locs 0 0 (MQ below (va_Qi K (gB 17 enM y) (gA 17 y)) args s 0 0 (gA 17 y)) (F0 m 17 ls []) := by
  obtain ⟨hx, hb, hml, hown, hts, hr, hlk, hK, hN⟩ := id C
  intro n
  induction n with
  | zero => intro v3 st H locs ls hG hl hw; exact False.elim hw
  | succ n hc17 =>
    intro v3 st H locs ls hG hl hw
    have hw : w_X9_two_L17q x1 x2  K (fun v3 st => w_X9_two_L17 x1 x2  K n v3 st) v3 st := hw
    unfold w_X9_two_L17q at hw
    refine lv_iload_n hx hb dX9_two_17 rfl (lv_at hl 3 rfl) ?_
    refine lv_iconst (v := 4) hx hb dX9_two_18 (by decide) ?_
    refine lv_icmp_ge (tgt := 97) hx hb dX9_two_19 (by decide) (fun hc => ?_) (fun hc => ?_)
    · replace hw := hw.1 hc
      refine lv_bipush (v := (-9)) hx hb dX9_two_97 (by decide) ?_
      exact r_iret hx hb hr hlk hK hG rfl hw dX9_two_99
    · replace hw := hw.2 hc
      refine lv_iload_n hx hb dX9_two_22 rfl (lv_at hl 3 rfl) ?_
      refine lv_iconst (v := 2) hx hb dX9_two_23 (by decide) ?_
      refine lv_idiv hx hb dX9_two_24 (by decide) ?_
      refine lv_istore (lv' := [(4, .int (v3 / 2)), (0, .ref (ad y 0)), (1, .int x1), (2, .int x2), (3, .int v3)]) hx hb dX9_two_25 hl (Nat.le_of_ble_eq_true rfl) rfl (fun ls hl => ?_)
      refine lv_iload_n hx hb dX9_two_27 rfl (lv_at hl 4 rfl) ?_
      refine lv_iconst (v := 2) hx hb dX9_two_28 (by decide) ?_
      refine lv_irem hx hb dX9_two_29 (by decide) ?_
      refine lv_istore (lv' := [(5, .int (v3 - v3 / 2 * 2)), (4, .int (v3 / 2)), (0, .ref (ad y 0)), (1, .int x1), (2, .int x2), (3, .int v3)]) hx hb dX9_two_30 hl (Nat.le_of_ble_eq_true rfl) rfl (fun ls hl => ?_)
      refine lv_aload_n hx hb dX9_two_32 rfl (lv_at hl 2 rfl) ?_
      refine lv_iload_n hx hb dX9_two_33 rfl (lv_at hl 3 rfl) ?_
      refine lv_iload_n hx hb dX9_two_34 rfl (lv_at hl 4 rfl) ?_
      refine lv_iconst (v := 1) hx hb dX9_two_35 (by decide) ?_
      refine lv_iload hx hb dX9_two_36 (lv_at hl 1 rfl) ?_
      refine lv_isub hx hb dX9_two_38 ?_
      refine lv_iload hx hb dX9_two_39 (lv_at hl 0 rfl) ?_
      refine r_ki (r_run_V (k := 0) (As := [.int x1, .int x2, .int (1 - (v3 / 2)), .int (v3 - v3 / 2 * 2)]) (rest := []) hx hb hml hown hts hK hN hG (c_X9_getsOf l y x1 x2 (1 - (v3 / 2)) (v3 - v3 / 2 * 2) st _ hw) (by decide) rfl rfl rfl qM_X9_301 qI_X9_getsOf qS_X9_getsOf qN_X9 qC_X9_getsOf hd_X9_getsOf ⟨Nat.le_of_ble_eq_true rfl, Nat.le_of_ble_eq_true rfl⟩ hl.1 rfl (Nat.le_of_ble_eq_true rfl) dX9_two_41) hG (fun r41 st41 H locs hw hG => ?_)
      refine lv_aload_n hx hb dX9_two_44 rfl (lv_at hl 2 rfl) ?_
      refine lv_iload_n hx hb dX9_two_45 rfl (lv_at hl 3 rfl) ?_
      refine lv_iload_n hx hb dX9_two_46 rfl (lv_at hl 4 rfl) ?_
      refine lv_iload hx hb dX9_two_47 (lv_at hl 1 rfl) ?_
      refine lv_iload hx hb dX9_two_49 (lv_at hl 0 rfl) ?_
      refine r_ki (r_run_V (k := 0) (As := [.int x1, .int x2, .int (v3 / 2), .int (v3 - v3 / 2 * 2)]) (rest := [.int r41]) hx hb hml hown hts hK hN hG (c_X9_getsOf l y x1 x2 (v3 / 2) (v3 - v3 / 2 * 2) st41 _ hw) (by decide) rfl rfl rfl qM_X9_301 qI_X9_getsOf qS_X9_getsOf qN_X9 qC_X9_getsOf hd_X9_getsOf ⟨Nat.le_of_ble_eq_true rfl, Nat.le_of_ble_eq_true rfl⟩ hl.1 rfl (Nat.le_of_ble_eq_true rfl) dX9_two_51) hG (fun r51 st51 H locs hw hG => ?_)
      refine lv_icmp_gt (tgt := 91) hx hb dX9_two_54 (by decide) (fun hc => ?_) (fun hc => ?_)
      · replace hw := hw.1 hc
        exact z_X9_two_b91 l y x1 x2 C (fun v3 st => w_X9_two_L17 x1 x2  K n v3 st) K hc17 v3 st51 hG (lv_sub hl [2, 3, 4, 5] rfl) hw
      · replace hw := hw.2 hc
        refine lv_aload_n hx hb dX9_two_57 rfl (lv_at hl 2 rfl) ?_
        refine lv_iload_n hx hb dX9_two_58 rfl (lv_at hl 4 rfl) ?_
        refine lv_iload_n hx hb dX9_two_59 rfl (lv_at hl 3 rfl) ?_
        refine lv_iconst (v := 1) hx hb dX9_two_60 (by decide) ?_
        refine lv_iload hx hb dX9_two_61 (lv_at hl 0 rfl) ?_
        refine lv_isub hx hb dX9_two_63 ?_
        refine lv_iload hx hb dX9_two_64 (lv_at hl 1 rfl) ?_
        refine r_ki (r_run_V (k := 0) (As := [.int x2, .int x1, .int (1 - (v3 - v3 / 2 * 2)), .int (v3 / 2)]) (rest := []) hx hb hml hown hts hK hN hG (c_X9_getsOf l y x2 x1 (1 - (v3 - v3 / 2 * 2)) (v3 / 2) st51 _ hw) (by decide) rfl rfl rfl qM_X9_301 qI_X9_getsOf qS_X9_getsOf qN_X9 qC_X9_getsOf hd_X9_getsOf ⟨Nat.le_of_ble_eq_true rfl, Nat.le_of_ble_eq_true rfl⟩ hl.1 rfl (Nat.le_of_ble_eq_true rfl) dX9_two_66) hG (fun r66 st66 H locs hw hG => ?_)
        refine lv_aload_n hx hb dX9_two_69 rfl (lv_at hl 2 rfl) ?_
        refine lv_iload_n hx hb dX9_two_70 rfl (lv_at hl 4 rfl) ?_
        refine lv_iload_n hx hb dX9_two_71 rfl (lv_at hl 3 rfl) ?_
        refine lv_iload hx hb dX9_two_72 (lv_at hl 0 rfl) ?_
        refine lv_iload hx hb dX9_two_74 (lv_at hl 1 rfl) ?_
        refine r_ki (r_run_V (k := 0) (As := [.int x2, .int x1, .int (v3 - v3 / 2 * 2), .int (v3 / 2)]) (rest := [.int r66]) hx hb hml hown hts hK hN hG (c_X9_getsOf l y x2 x1 (v3 - v3 / 2 * 2) (v3 / 2) st66 _ hw) (by decide) rfl rfl rfl qM_X9_301 qI_X9_getsOf qS_X9_getsOf qN_X9 qC_X9_getsOf hd_X9_getsOf ⟨Nat.le_of_ble_eq_true rfl, Nat.le_of_ble_eq_true rfl⟩ hl.1 rfl (Nat.le_of_ble_eq_true rfl) dX9_two_76) hG (fun r76 st76 H locs hw hG => ?_)
        refine lv_icmp_gt (tgt := 91) hx hb dX9_two_79 (by decide) (fun hc => ?_) (fun hc => ?_)
        · replace hw := hw.1 hc
          exact z_X9_two_b91 l y x1 x2 C (fun v3 st => w_X9_two_L17 x1 x2  K n v3 st) K hc17 v3 st76 hG (lv_sub hl [2, 3, 4, 5] rfl) hw
        · replace hw := hw.2 hc
          exact z_X9_two_b82 l y x1 x2 C  K  (v3 / 2) (v3 - v3 / 2 * 2) st76 hG (lv_sub hl [1, 0] rfl) hw
theorem hd_X9_two : yX9_two.cls ≠ "java/lang/invoke/MethodHandle" ∧ yX9_two.cls ≠ "java/lang/invoke/VarHandle" ∧ (parseMethodDescriptor yX9_two.desc).map (fun d => d.parameters.length) = some 2 := by decide +kernel
set_option maxRecDepth 100000 in
set_option maxHeartbeats 4000000 in
theorem c_X9_two (l : Launch) (y : Sy) (x1 : Int32) (x2 : Int32) (st : St) (K : Int32 → St → Prop) (hw : w_X9_two x1 x2 st K) : Ci 17 enM l yX9_two cX9_two 6 (some .int) 7 165 y [.ref (ad y 0), .int x1, .int x2] st K := by
  refine ent (by decide) (Nat.le_of_ble_eq_true rfl) ?_
  intro p e s m below meth c C hG ls hl
  have hl : lv_has ls 6 [(0, .ref (ad y 0)), (1, .int x1), (2, .int x2)] := hl
  generalize ([.ref (ad y 0), .int x1, .int x2] : List Value).toArray = args at C ⊢
  have C : Sd p s m args meth c cX9_two 6 RX9 (some .int) y := C
  obtain ⟨hx, hb, hml, hown, hts, hr, hlk, hK, hN⟩ := id C
  generalize s.heap = H at hG ⊢
  generalize ([] : List Loc) = locs at hG ⊢
  unfold w_X9_two at hw
  refine lv_aload_n hx hb dX9_two_0 rfl (lv_at hl 0 rfl) ?_
  refine lv_iload_n hx hb dX9_two_1 rfl (lv_at hl 1 rfl) ?_
  refine lv_iload_n hx hb dX9_two_2 rfl (lv_at hl 2 rfl) ?_
  refine r_ki (r_run_V (k := 0) (As := [.int x1, .int x2]) (rest := []) hx hb hml hown hts hK hN hG (c_X9_areTwo l y x1 x2 st _ hw) (by decide) rfl rfl rfl qM_X9_125 qI_X9_areTwo qS_X9_areTwo qN_X9 qC_X9_areTwo hd_X9_areTwo ⟨Nat.le_of_ble_eq_true rfl, Nat.le_of_ble_eq_true rfl⟩ hl.1 rfl (Nat.le_of_ble_eq_true rfl) dX9_two_3) hG (fun r3 st3 H locs hw hG => ?_)
  refine lv_if_ne (tgt := 15) hx hb dX9_two_6 (by decide) (fun hc => ?_) (fun hc => ?_)
  · replace hw := hw.1 hc
    refine lv_iconst (v := 0) hx hb dX9_two_15 (by decide) ?_
    refine lv_istore_n (lv' := [(3, .int 0), (0, .ref (ad y 0)), (1, .int x1), (2, .int x2)]) hx hb dX9_two_16 rfl hl (Nat.le_of_ble_eq_true rfl) rfl (fun ls hl => ?_)
    obtain ⟨n17, hw⟩ := hw
    exact z_X9_two_L17 l y x1 x2 C  K  n17 0 st3 H locs _ hG (lv_sub hl [1, 2, 3, 0] rfl) hw
  · replace hw := hw.2 hc
    refine lv_aload_n hx hb dX9_two_9 rfl (lv_at hl 0 rfl) ?_
    refine lv_iconst (v := (-1)) hx hb dX9_two_10 (by decide) ?_
    refine r_ki (r_run_V (k := 0) (As := [.int (-1)]) (rest := []) hx hb hml hown hts hK hN hG (c_X9_no l y (-1) st3 _ hw) (by decide) rfl rfl rfl qM_X9_79 qI_X9_no qS_X9_no qN_X9 qC_X9_no hd_X9_no ⟨Nat.le_of_ble_eq_true rfl, Nat.le_of_ble_eq_true rfl⟩ hl.1 rfl (Nat.le_of_ble_eq_true rfl) dX9_two_11) hG (fun r11 st11 H locs hw hG => ?_)
    exact r_iret hx hb hr hlk hK hG rfl hw dX9_two_14
set_option maxRecDepth 100000 in
set_option maxHeartbeats 4000000 in
theorem z_X9_isOpenMeeting_b45 {p : Program} {e : Env} {s : State} {m : MethodId} {args : Array Value} {below : List Frame} {meth : Method} {c : Code} (l : Launch) (y : Sy) (x1 : Int32) (x2 : Int32) (x3 : Int32) (x4 : Int32) (x5 : Int32) (C : Sd p s m args meth c cX9_isOpenMeeting 7 RX9 (some .boolean) y) (c7 : Int32 → St → Prop) (K : Int32 → St → Prop) (hc7 : ∀ (v6 : Int32) (st : St) (H : Heap) (locs : List Loc) (ls : Array Slot), gH 17 enM y st s H locs → lv_has ls 7 [(0, .ref (ad y 0)), (1, .int x1), (2, .int x2), (3, .int x3), (4, .int x4), (5, .int x5), (6, .int v6)] → c7 v6 st → W p l e (rmm 4 93) s m args below meth c H locs 0 0 (MQ below (va_Qi K (gB 17 enM y) (gA 17 y)) args s 0 0 (gA 17 y)) (F0 m 7 ls [])) (v6 : Int32) (st : St) {H : Heap} {locs : List Loc} {ls : Array Slot} (hG : gH 17 enM y st s H locs) (hl : lv_has ls 7 [(0, .ref (ad y 0)), (1, .int x1), (2, .int x2), (3, .int x3), (4, .int x4), (5, .int x5), (6, .int v6)]) (hw : w_X9_isOpenMeeting_b45 x1 x2 x3 x4 x5 c7 K v6 st) : W p l e (rmm 4 93) s m args below meth c H locs 0 0 (MQ below (va_Qi K (gB 17 enM y) (gA 17 y)) args s 0 0 (gA 17 y)) (F0 m 45 ls []) := by
  obtain ⟨hx, hb, hml, hown, hts, hr, hlk, hK, hN⟩ := id C
  unfold w_X9_isOpenMeeting_b45 at hw
  refine lv_aload_n hx hb dX9_isOpenMeeting_45 rfl (lv_at hl 0 rfl) ?_
  refine r_kv (r_run_V (k := 0) (As := []) (rest := []) hx hb hml hown hts hK hN hG (c_X9_goesWeek l y  st _ hw) (by decide) rfl rfl rfl qM_X9_202 qI_X9_goesWeek qS_X9_goesWeek qN_X9 qC_X9_goesWeek hd_X9_goesWeek ⟨Nat.le_of_ble_eq_true rfl, Nat.le_of_ble_eq_true rfl⟩ hl.1 rfl (Nat.le_of_ble_eq_true rfl) dX9_isOpenMeeting_46) hG (fun st46 H locs hw hG => ?_)
  refine lv_iinc (v := (v6 + 1)) (lv' := [(6, .int (v6 + 1)), (0, .ref (ad y 0)), (1, .int x1), (2, .int x2), (3, .int x3), (4, .int x4), (5, .int x5)]) hx hb dX9_isOpenMeeting_49 hl (k := 6) rfl rfl (Nat.le_of_ble_eq_true rfl) rfl (fun ls hl => ?_)
  refine lv_goto (tgt := 7) hx hb dX9_isOpenMeeting_52 (by decide) ?_
  exact hc7 (v6 + 1) st46 H locs _ hG (lv_sub hl [1, 2, 3, 4, 5, 6, 0] rfl) hw
set_option maxRecDepth 100000 in
set_option maxHeartbeats 4000000 in
theorem z_X9_isOpenMeeting_b70 {p : Program} {e : Env} {s : State} {m : MethodId} {args : Array Value} {below : List Frame} {meth : Method} {c : Code} (l : Launch) (y : Sy) (x1 : Int32) (x2 : Int32) (x3 : Int32) (x4 : Int32) (x5 : Int32) (C : Sd p s m args meth c cX9_isOpenMeeting 7 RX9 (some .boolean) y)  (K : Int32 → St → Prop)  (s0 : Int32) (st : St) {H : Heap} {locs : List Loc} {ls : Array Slot} (hG : gH 17 enM y st s H locs) (hl : lv_has ls 7 [(0, .ref (ad y 0))]) (hw : w_X9_isOpenMeeting_b70 x1 x2 x3 x4 x5  K s0 st) : W p l e (rmm 4 93) s m args below meth c H locs 0 0 (MQ below (va_Qi K (gB 17 enM y) (gA 17 y)) args s 0 0 (gA 17 y)) (F0 m 70 ls [.int s0]) := by
  obtain ⟨hx, hb, hml, hown, hts, hr, hlk, hK, hN⟩ := id C
  unfold w_X9_isOpenMeeting_b70 at hw
  refine lv_istore (lv' := [(6, .int s0), (0, .ref (ad y 0))]) hx hb dX9_isOpenMeeting_70 hl (Nat.le_of_ble_eq_true rfl) rfl (fun ls hl => ?_)
  refine lv_aload_n hx hb dX9_isOpenMeeting_72 rfl (lv_at hl 1 rfl) ?_
  refine r_kv (r_run_V (k := 0) (As := []) (rest := []) hx hb hml hown hts hK hN hG (c_X9_forgets l y  st _ hw) (by decide) rfl rfl rfl qM_X9_220 qI_X9_forgets qS_X9_forgets qN_X9 qC_X9_forgets hd_X9_forgets ⟨Nat.le_of_ble_eq_true rfl, Nat.le_of_ble_eq_true rfl⟩ hl.1 rfl (Nat.le_of_ble_eq_true rfl) dX9_isOpenMeeting_73) hG (fun st73 H locs hw hG => ?_)
  refine lv_iload hx hb dX9_isOpenMeeting_76 (lv_at hl 0 rfl) ?_
  exact r_iret hx hb hr hlk hK hG (r_nb hw.1) hw.2 dX9_isOpenMeeting_78
set_option maxRecDepth 100000 in
set_option maxHeartbeats 4000000 in
theorem z_X9_isOpenMeeting_b55 {p : Program} {e : Env} {s : State} {m : MethodId} {args : Array Value} {below : List Frame} {meth : Method} {c : Code} (l : Launch) (y : Sy) (x1 : Int32) (x2 : Int32) (x3 : Int32) (x4 : Int32) (x5 : Int32) (C : Sd p s m args meth c cX9_isOpenMeeting 7 RX9 (some .boolean) y)  (K : Int32 → St → Prop)   (st : St) {H : Heap} {locs : List Loc} {ls : Array Slot} (hG : gH 17 enM y st s H locs) (hl : lv_has ls 7 [(0, .ref (ad y 0)), (3, .int x3)]) (hw : w_X9_isOpenMeeting_b55 x1 x2 x3 x4 x5  K  st) : W p l e (rmm 4 93) s m args below meth c H locs 0 0 (MQ below (va_Qi K (gB 17 enM y) (gA 17 y)) args s 0 0 (gA 17 y)) (F0 m 55 ls []) := by
  obtain ⟨hx, hb, hml, hown, hts, hr, hlk, hK, hN⟩ := id C
  unfold w_X9_isOpenMeeting_b55 at hw
  refine lv_aload_n hx hb dX9_isOpenMeeting_55 rfl (lv_at hl 0 rfl) ?_
  refine r_get (C := RX9) (T := TX9) (Nf := 31) hx hb hts hown hK hG (by decide) rfl rfl inX9 7 (by decide) qF_X9_31 rfl dX9_isOpenMeeting_56 ?_
  refine lv_iload_n hx hb dX9_isOpenMeeting_59 rfl (lv_at hl 1 rfl) ?_
  obtain ⟨hi, hw⟩ := hw
  refine r_iald hx hb hK hG (isB_8).1 ((isB_8).2 y _) hi dX9_isOpenMeeting_60 ?_
  refine lv_iconst (v := 1) hx hb dX9_isOpenMeeting_61 (by decide) ?_
  refine lv_icmp_ne (tgt := 69) hx hb dX9_isOpenMeeting_62 (by decide) (fun hc => ?_) (fun hc => ?_)
  · replace hw := hw.1 hc
    refine lv_iconst (v := 0) hx hb dX9_isOpenMeeting_69 (by decide) ?_
    exact z_X9_isOpenMeeting_b70 l y x1 x2 x3 x4 x5 C  K  0 st hG (lv_sub hl [0] rfl) hw
  · replace hw := hw.2 hc
    refine lv_iconst (v := 1) hx hb dX9_isOpenMeeting_65 (by decide) ?_
    refine lv_goto (tgt := 70) hx hb dX9_isOpenMeeting_66 (by decide) ?_
    exact z_X9_isOpenMeeting_b70 l y x1 x2 x3 x4 x5 C  K  1 st hG (lv_sub hl [0] rfl) hw
set_option maxRecDepth 100000 in
set_option maxHeartbeats 4000000 in
theorem z_X9_isOpenMeeting_L7 {p : Program} {e : Env} {s : State} {m : MethodId} {args : Array Value} {below : List Frame} {meth : Method} {c : Code} (l : Launch) (y : Sy) (x1 : Int32) (x2 : Int32) (x3 : Int32) (x4 : Int32) (x5 : Int32) (C : Sd p s m args meth c cX9_isOpenMeeting 7 RX9 (some .boolean) y)  (K : Int32 → St → Prop)  : ∀ (n : Nat) (v6 : Int32) (st : St) (H : Heap) (locs : List Loc) (ls : Array Slot), gH 17 enM y st s H locs → lv_has ls 7 [(0, .ref (ad y 0)), (1, .int x1), (2, .int x2), (3, .int x3), (4, .int x4), (5, .int x5), (6, .int v6)] → w_X9_isOpenMeeting_L7 x1 x2 x3 x4 x5  K n v6 st → W p l e (rmm 4 93) s m args below meth c H locs 0 0 (MQ below (va_Qi K (gB 17 enM y) (gA 17 y)) args s 0 0 (gA 17 y)) (F0 m 7 ls []) := by
  obtain ⟨hx, hb, hml, hown, hts, hr, hlk, hK, hN⟩ := id C
  intro n
  induction n with
  | zero => intro v6 st H locs ls hG hl hw; exact False.elim hw
  | succ n hc7 =>
    intro v6 st H locs ls hG hl hw
    have hw : w_X9_isOpenMeeting_L7q x1 x2 x3 x4 x5  K (fun v6 st => w_X9_isOpenMeeting_L7 x1 x2 x3 x4 x5  K n v6 st) v6 st := hw
    unfold w_X9_isOpenMeeting_L7q at hw
    refine lv_iload hx hb dX9_isOpenMeeting_7 (lv_at hl 6 rfl) ?_
    refine lv_iload hx hb dX9_isOpenMeeting_9 (lv_at hl 4 rfl) ?_
    refine lv_icmp_ge (tgt := 55) hx hb dX9_isOpenMeeting_11 (by decide) (fun hc => ?_) (fun hc => ?_)
    · replace hw := hw.1 hc
      exact z_X9_isOpenMeeting_b55 l y x1 x2 x3 x4 x5 C  K  st hG (lv_sub hl [0, 3] rfl) hw
    · replace hw := hw.2 hc
      refine lv_iload hx hb dX9_isOpenMeeting_14 (lv_at hl 5 rfl) ?_
      refine lv_iload hx hb dX9_isOpenMeeting_16 (lv_at hl 6 rfl) ?_
      refine r_ki (r_run_S (As := [.int x5, .int v6]) (rest := []) hx hb hml hown hts hK hN hG (c_X9_has l y x5 v6 st _ hw) qM_X9_174 qT_X9_has qN_X9 qC_X9_has hd_X9_has ⟨Nat.le_of_ble_eq_true rfl, Nat.le_of_ble_eq_true rfl⟩ hl.1 rfl (Nat.le_of_ble_eq_true rfl) dX9_isOpenMeeting_18) hG (fun r18 st18 H locs hw hG => ?_)
      refine lv_if_eq (tgt := 45) hx hb dX9_isOpenMeeting_21 (by decide) (fun hc => ?_) (fun hc => ?_)
      · replace hw := hw.1 hc
        exact z_X9_isOpenMeeting_b45 l y x1 x2 x3 x4 x5 C (fun v6 st => w_X9_isOpenMeeting_L7 x1 x2 x3 x4 x5  K n v6 st) K hc7 v6 st18 hG (lv_sub hl [0, 1, 2, 3, 4, 5, 6] rfl) hw
      · replace hw := hw.2 hc
        refine lv_aload_n hx hb dX9_isOpenMeeting_24 rfl (lv_at hl 0 rfl) ?_
        refine lv_iload_n hx hb dX9_isOpenMeeting_25 rfl (lv_at hl 1 rfl) ?_
        refine lv_iload_n hx hb dX9_isOpenMeeting_26 rfl (lv_at hl 2 rfl) ?_
        refine lv_aload_n hx hb dX9_isOpenMeeting_27 rfl (lv_at hl 0 rfl) ?_
        refine lv_iload_n hx hb dX9_isOpenMeeting_28 rfl (lv_at hl 1 rfl) ?_
        refine lv_iload_n hx hb dX9_isOpenMeeting_29 rfl (lv_at hl 2 rfl) ?_
        refine r_ki (r_run_V (k := 0) (As := [.int x1, .int x2]) (rest := [.int x2, .int x1, .ref (ad y 0)]) hx hb hml hown hts hK hN hG (c_X9_hateOf l y x1 x2 st18 _ hw) (by decide) rfl rfl rfl qM_X9_180 qI_X9_hateOf qS_X9_hateOf qN_X9 qC_X9_hateOf hd_X9_hateOf ⟨Nat.le_of_ble_eq_true rfl, Nat.le_of_ble_eq_true rfl⟩ hl.1 rfl (Nat.le_of_ble_eq_true rfl) dX9_isOpenMeeting_30) hG (fun r30 st30 H locs hw hG => ?_)
        refine lv_bipush (v := 10) hx hb dX9_isOpenMeeting_33 (by decide) ?_
        refine lv_isub hx hb dX9_isOpenMeeting_35 ?_
        refine lv_iconst (v := 0) hx hb dX9_isOpenMeeting_36 (by decide) ?_
        refine lv_bipush (v := 99) hx hb dX9_isOpenMeeting_37 (by decide) ?_
        refine r_ki (r_run_S (As := [.int (r30 - 10), .int 0, .int 99]) (rest := [.int x2, .int x1, .ref (ad y 0)]) hx hb hml hown hts hK hN hG (c_X9_held l y (r30 - 10) 0 99 st30 _ hw) qM_X9_187 qT_X9_held qN_X9 qC_X9_held hd_X9_held ⟨Nat.le_of_ble_eq_true rfl, Nat.le_of_ble_eq_true rfl⟩ hl.1 rfl (Nat.le_of_ble_eq_true rfl) dX9_isOpenMeeting_39) hG (fun r39 st39 H locs hw hG => ?_)
        refine r_kv (r_run_V (k := 0) (As := [.int x1, .int x2, .int r39]) (rest := []) hx hb hml hown hts hK hN hG (c_X9_sets l y x1 x2 r39 st39 _ hw) (by decide) rfl rfl rfl qM_X9_128 qI_X9_sets qS_X9_sets qN_X9 qC_X9_sets hd_X9_sets ⟨Nat.le_of_ble_eq_true rfl, Nat.le_of_ble_eq_true rfl⟩ hl.1 rfl (Nat.le_of_ble_eq_true rfl) dX9_isOpenMeeting_42) hG (fun st42 H locs hw hG => ?_)
        exact z_X9_isOpenMeeting_b45 l y x1 x2 x3 x4 x5 C (fun v6 st => w_X9_isOpenMeeting_L7 x1 x2 x3 x4 x5  K n v6 st) K hc7 v6 st42 hG (lv_sub hl [0, 1, 2, 3, 4, 5, 6] rfl) hw
theorem hd_X9_isOpenMeeting : yX9_isOpenMeeting.cls ≠ "java/lang/invoke/MethodHandle" ∧ yX9_isOpenMeeting.cls ≠ "java/lang/invoke/VarHandle" ∧ (parseMethodDescriptor yX9_isOpenMeeting.desc).map (fun d => d.parameters.length) = some 5 := by decide +kernel
set_option maxRecDepth 100000 in
set_option maxHeartbeats 4000000 in
theorem c_X9_isOpenMeeting (l : Launch) (y : Sy) (x1 : Int32) (x2 : Int32) (x3 : Int32) (x4 : Int32) (x5 : Int32) (st : St) (K : Int32 → St → Prop) (hw : w_X9_isOpenMeeting x1 x2 x3 x4 x5 st K) : Ci 17 enM l yX9_isOpenMeeting cX9_isOpenMeeting 7 (some .boolean) 4 93 y [.ref (ad y 0), .int x1, .int x2, .int x3, .int x4, .int x5] st K := by
  refine ent (by decide) (Nat.le_of_ble_eq_true rfl) ?_
  intro p e s m below meth c C hG ls hl
  have hl : lv_has ls 7 [(0, .ref (ad y 0)), (1, .int x1), (2, .int x2), (3, .int x3), (4, .int x4), (5, .int x5)] := hl
  generalize ([.ref (ad y 0), .int x1, .int x2, .int x3, .int x4, .int x5] : List Value).toArray = args at C ⊢
  have C : Sd p s m args meth c cX9_isOpenMeeting 7 RX9 (some .boolean) y := C
  obtain ⟨hx, hb, hml, hown, hts, hr, hlk, hK, hN⟩ := id C
  generalize s.heap = H at hG ⊢
  generalize ([] : List Loc) = locs at hG ⊢
  unfold w_X9_isOpenMeeting at hw
  refine lv_aload_n hx hb dX9_isOpenMeeting_0 rfl (lv_at hl 0 rfl) ?_
  refine r_kv (r_run_V (k := 0) (As := []) (rest := []) hx hb hml hown hts hK hN hG (c_X9_thinks l y  st _ hw) (by decide) rfl rfl rfl qM_X9_217 qI_X9_thinks qS_X9_thinks qN_X9 qC_X9_thinks hd_X9_thinks ⟨Nat.le_of_ble_eq_true rfl, Nat.le_of_ble_eq_true rfl⟩ hl.1 rfl (Nat.le_of_ble_eq_true rfl) dX9_isOpenMeeting_1) hG (fun st1 H locs hw hG => ?_)
  refine lv_iconst (v := 0) hx hb dX9_isOpenMeeting_4 (by decide) ?_
  refine lv_istore (lv' := [(6, .int 0), (0, .ref (ad y 0)), (1, .int x1), (2, .int x2), (3, .int x3), (4, .int x4), (5, .int x5)]) hx hb dX9_isOpenMeeting_5 hl (Nat.le_of_ble_eq_true rfl) rfl (fun ls hl => ?_)
  obtain ⟨n7, hw⟩ := hw
  exact z_X9_isOpenMeeting_L7 l y x1 x2 x3 x4 x5 C  K  n7 0 st1 H locs _ hG (lv_sub hl [1, 2, 3, 4, 5, 6, 0] rfl) hw
set_option maxRecDepth 100000 in
set_option maxHeartbeats 4000000 in
theorem z_X9_meetings_b130 {p : Program} {e : Env} {s : State} {m : MethodId} {args : Array Value} {below : List Frame} {meth : Method} {c : Code} (l : Launch) (y : Sy) (x1 : Int32) (x2 : Int32) (x3 : Int32) (x4 : Int32) (x5 : Int32) (x6 : Int32) (C : Sd p s m args meth c cX9_meetings 11 RX9 (some .long) y) (c92 : Int64 → Int32 → St → Prop) (K : Int64 → St → Prop) (hc92 : ∀ (v8 : Int64) (v10 : Int32) (st : St) (H : Heap) (locs : List Loc) (ls : Array Slot), gH 17 enM y st s H locs → lv_has ls 11 [(0, .ref (ad y 0)), (1, .int x1), (2, .int x2), (3, .int x3), (4, .int x4), (5, .int x5), (6, .int x6), (8, .long v8), (10, .int v10)] → c92 v8 v10 st → W p l e (rmm 5 119) s m args below meth c H locs 0 0 (MQ below (va_Ql K (gB 17 enM y) (gA 17 y)) args s 0 0 (gA 17 y)) (F0 m 92 ls [])) (v10 : Int32) (s0 : Int64) (s1 : Int64) (st : St) {H : Heap} {locs : List Loc} {ls : Array Slot} (hG : gH 17 enM y st s H locs) (hl : lv_has ls 11 [(0, .ref (ad y 0)), (1, .int x1), (2, .int x2), (3, .int x3), (4, .int x4), (5, .int x5), (6, .int x6), (10, .int v10)]) (hw : w_X9_meetings_b130 x1 x2 x3 x4 x5 x6 c92 K v10 s0 s1 st) : W p l e (rmm 5 119) s m args below meth c H locs 0 0 (MQ below (va_Ql K (gB 17 enM y) (gA 17 y)) args s 0 0 (gA 17 y)) (F0 m 130 ls [.long s0, .long s1]) := by
  obtain ⟨hx, hb, hml, hown, hts, hr, hlk, hK, hN⟩ := id C
  unfold w_X9_meetings_b130 at hw
  refine lv_ladd hx hb dX9_meetings_130 ?_
  refine lv_lstore (lv' := [(8, .long (s1 + s0)), (0, .ref (ad y 0)), (1, .int x1), (2, .int x2), (3, .int x3), (4, .int x4), (5, .int x5), (6, .int x6), (10, .int v10)]) hx hb dX9_meetings_131 hl (Nat.le_of_ble_eq_true rfl) rfl (fun ls hl => ?_)
  refine lv_iinc (v := (v10 + 1)) (lv' := [(10, .int (v10 + 1)), (8, .long (s1 + s0)), (0, .ref (ad y 0)), (1, .int x1), (2, .int x2), (3, .int x3), (4, .int x4), (5, .int x5), (6, .int x6)]) hx hb dX9_meetings_133 hl (k := 8) rfl rfl (Nat.le_of_ble_eq_true rfl) rfl (fun ls hl => ?_)
  refine lv_goto (tgt := 92) hx hb dX9_meetings_136 (by decide) ?_
  exact hc92 (s1 + s0) (v10 + 1) st H locs _ hG (lv_sub hl [2, 3, 4, 5, 6, 7, 8, 1, 0] rfl) hw
set_option maxRecDepth 100000 in
set_option maxHeartbeats 4000000 in
theorem z_X9_meetings_b139 {p : Program} {e : Env} {s : State} {m : MethodId} {args : Array Value} {below : List Frame} {meth : Method} {c : Code} (l : Launch) (y : Sy) (x1 : Int32) (x2 : Int32) (x3 : Int32) (x4 : Int32) (x5 : Int32) (x6 : Int32) (C : Sd p s m args meth c cX9_meetings 11 RX9 (some .long) y)  (K : Int64 → St → Prop)  (v8 : Int64) (st : St) {H : Heap} {locs : List Loc} {ls : Array Slot} (hG : gH 17 enM y st s H locs) (hl : lv_has ls 11 [(4, .int x4), (5, .int x5), (6, .int x6), (8, .long v8)]) (hw : w_X9_meetings_b139 x1 x2 x3 x4 x5 x6  K v8 st) : W p l e (rmm 5 119) s m args below meth c H locs 0 0 (MQ below (va_Ql K (gB 17 enM y) (gA 17 y)) args s 0 0 (gA 17 y)) (F0 m 139 ls []) := by
  obtain ⟨hx, hb, hml, hown, hts, hr, hlk, hK, hN⟩ := id C
  unfold w_X9_meetings_b139 at hw
  refine lv_lload hx hb dX9_meetings_139 (lv_at hl 3 rfl) ?_
  refine lv_iload hx hb dX9_meetings_141 (lv_at hl 1 rfl) ?_
  refine lv_iload hx hb dX9_meetings_143 (lv_at hl 0 rfl) ?_
  refine r_kl (r_run_S (As := [.int x5, .int x4]) (rest := [.long v8]) hx hb hml hown hts hK hN hG (c_X9_power l y x5 x4 st _ hw) qM_X9_293 qT_X9_power qN_X9 qC_X9_power hd_X9_power ⟨Nat.le_of_ble_eq_true rfl, Nat.le_of_ble_eq_true rfl⟩ hl.1 rfl (Nat.le_of_ble_eq_true rfl) dX9_meetings_145) hG (fun r145 st145 H locs hw hG => ?_)
  refine lv_iload hx hb dX9_meetings_148 (lv_at hl 2 rfl) ?_
  refine r_kl (r_run_S (As := [.long v8, .long r145, .int x6]) (rest := []) hx hb hml hown hts hK hN hG (c_X9_partOf l y v8 r145 x6 st145 _ hw) qM_X9_297 qT_X9_partOf qN_X9 qC_X9_partOf hd_X9_partOf ⟨Nat.le_of_ble_eq_true rfl, Nat.le_of_ble_eq_true rfl⟩ hl.1 rfl (Nat.le_of_ble_eq_true rfl) dX9_meetings_150) hG (fun r150 st150 H locs hw hG => ?_)
  exact r_lret hx hb hr hlk hK hG hw dX9_meetings_153
set_option maxRecDepth 100000 in
set_option maxHeartbeats 4000000 in
theorem z_X9_meetings_L92 {p : Program} {e : Env} {s : State} {m : MethodId} {args : Array Value} {below : List Frame} {meth : Method} {c : Code} (l : Launch) (y : Sy) (x1 : Int32) (x2 : Int32) (x3 : Int32) (x4 : Int32) (x5 : Int32) (x6 : Int32) (C : Sd p s m args meth c cX9_meetings 11 RX9 (some .long) y)  (K : Int64 → St → Prop)  : ∀ (n : Nat) (v8 : Int64) (v10 : Int32) (st : St) (H : Heap) (locs : List Loc) (ls : Array Slot), gH 17 enM y st s H locs → lv_has ls 11 [(0, .ref (ad y 0)), (1, .int x1), (2, .int x2), (3, .int x3), (4, .int x4), (5, .int x5), (6, .int x6), (8, .long v8), (10, .int v10)] → w_X9_meetings_L92 x1 x2 x3 x4 x5 x6  K n v8 v10 st → W p l e (rmm 5 119) s m args below meth c H locs 0 0 (MQ below (va_Ql K (gB 17 enM y) (gA 17 y)) args s 0 0 (gA 17 y)) (F0 m 92 ls []) := by
  obtain ⟨hx, hb, hml, hown, hts, hr, hlk, hK, hN⟩ := id C
  intro n
  induction n with
  | zero => intro v8 v10 st H locs ls hG hl hw; exact False.elim hw
  | succ n hc92 =>
    intro v8 v10 st H locs ls hG hl hw
    have hw : w_X9_meetings_L92q x1 x2 x3 x4 x5 x6  K (fun v8 v10 st => w_X9_meetings_L92 x1 x2 x3 x4 x5 x6  K n v8 v10 st) v8 v10 st := hw
    unfold w_X9_meetings_L92q at hw
    refine lv_iload hx hb dX9_meetings_92 (lv_at hl 8 rfl) ?_
    refine lv_iconst (v := 1) hx hb dX9_meetings_94 (by decide) ?_
    refine lv_iload hx hb dX9_meetings_95 (lv_at hl 4 rfl) ?_
    refine lv_ishl hx hb dX9_meetings_97 ?_
    refine lv_icmp_ge (tgt := 139) hx hb dX9_meetings_98 (by decide) (fun hc => ?_) (fun hc => ?_)
    · replace hw := hw.1 hc
      exact z_X9_meetings_b139 l y x1 x2 x3 x4 x5 x6 C  K  v8 st hG (lv_sub hl [4, 5, 6, 7] rfl) hw
    · replace hw := hw.2 hc
      refine lv_lload hx hb dX9_meetings_101 (lv_at hl 7 rfl) ?_
      refine lv_aload_n hx hb dX9_meetings_103 rfl (lv_at hl 0 rfl) ?_
      refine lv_iload_n hx hb dX9_meetings_104 rfl (lv_at hl 1 rfl) ?_
      refine lv_iload_n hx hb dX9_meetings_105 rfl (lv_at hl 2 rfl) ?_
      refine lv_iload_n hx hb dX9_meetings_106 rfl (lv_at hl 3 rfl) ?_
      refine lv_iload hx hb dX9_meetings_107 (lv_at hl 4 rfl) ?_
      refine lv_iload hx hb dX9_meetings_109 (lv_at hl 8 rfl) ?_
      refine r_ki (r_run_V (k := 0) (As := [.int x1, .int x2, .int x3, .int x4, .int v10]) (rest := [.long v8]) hx hb hml hown hts hK hN hG (c_X9_isOpenMeeting l y x1 x2 x3 x4 v10 st _ hw) (by decide) rfl rfl rfl qM_X9_305 qI_X9_isOpenMeeting qS_X9_isOpenMeeting qN_X9 qC_X9_isOpenMeeting hd_X9_isOpenMeeting ⟨Nat.le_of_ble_eq_true rfl, Nat.le_of_ble_eq_true rfl⟩ hl.1 rfl (Nat.le_of_ble_eq_true rfl) dX9_meetings_111) hG (fun r111 st111 H locs hw hG => ?_)
      refine lv_if_eq (tgt := 129) hx hb dX9_meetings_114 (by decide) (fun hc => ?_) (fun hc => ?_)
      · replace hw := hw.1 hc
        refine lv_lconst (v := 0) hx hb dX9_meetings_129 (by decide) ?_
        exact z_X9_meetings_b130 l y x1 x2 x3 x4 x5 x6 C (fun v8 v10 st => w_X9_meetings_L92 x1 x2 x3 x4 x5 x6  K n v8 v10 st) K hc92 v10 0 v8 st111 hG (lv_sub hl [0, 1, 2, 3, 4, 5, 6, 8] rfl) hw
      · replace hw := hw.2 hc
        refine lv_iload hx hb dX9_meetings_117 (lv_at hl 8 rfl) ?_
        refine lv_iload hx hb dX9_meetings_119 (lv_at hl 4 rfl) ?_
        refine lv_iload hx hb dX9_meetings_121 (lv_at hl 5 rfl) ?_
        refine r_kl (r_run_S (As := [.int v10, .int x4, .int x5]) (rest := [.long v8]) hx hb hml hown hts hK hN hG (c_X9_partsOf l y v10 x4 x5 st111 _ hw) qM_X9_289 qT_X9_partsOf qN_X9 qC_X9_partsOf hd_X9_partsOf ⟨Nat.le_of_ble_eq_true rfl, Nat.le_of_ble_eq_true rfl⟩ hl.1 rfl (Nat.le_of_ble_eq_true rfl) dX9_meetings_123) hG (fun r123 st123 H locs hw hG => ?_)
        refine lv_goto (tgt := 130) hx hb dX9_meetings_126 (by decide) ?_
        exact z_X9_meetings_b130 l y x1 x2 x3 x4 x5 x6 C (fun v8 v10 st => w_X9_meetings_L92 x1 x2 x3 x4 x5 x6  K n v8 v10 st) K hc92 v10 r123 v8 st123 hG (lv_sub hl [0, 1, 2, 3, 4, 5, 6, 8] rfl) hw
set_option maxRecDepth 100000 in
set_option maxHeartbeats 4000000 in
theorem z_X9_meetings_b72 {p : Program} {e : Env} {s : State} {m : MethodId} {args : Array Value} {below : List Frame} {meth : Method} {c : Code} (l : Launch) (y : Sy) (x1 : Int32) (x2 : Int32) (x3 : Int32) (x4 : Int32) (x5 : Int32) (x6 : Int32) (C : Sd p s m args meth c cX9_meetings 11 RX9 (some .long) y)  (K : Int64 → St → Prop)  (s0 : Int32) (st : St) {H : Heap} {locs : List Loc} {ls : Array Slot} (hG : gH 17 enM y st s H locs) (hl : lv_has ls 11 [(0, .ref (ad y 0)), (1, .int x1), (2, .int x2), (3, .int x3), (4, .int x4), (5, .int x5), (6, .int x6)]) (hw : w_X9_meetings_b72 x1 x2 x3 x4 x5 x6  K s0 st) : W p l e (rmm 5 119) s m args below meth c H locs 0 0 (MQ below (va_Ql K (gB 17 enM y) (gA 17 y)) args s 0 0 (gA 17 y)) (F0 m 72 ls [.int s0]) := by
  obtain ⟨hx, hb, hml, hown, hts, hr, hlk, hK, hN⟩ := id C
  unfold w_X9_meetings_b72 at hw
  refine lv_istore (lv' := [(7, .int s0), (0, .ref (ad y 0)), (1, .int x1), (2, .int x2), (3, .int x3), (4, .int x4), (5, .int x5), (6, .int x6)]) hx hb dX9_meetings_72 hl (Nat.le_of_ble_eq_true rfl) rfl (fun ls hl => ?_)
  refine lv_iload hx hb dX9_meetings_74 (lv_at hl 0 rfl) ?_
  refine lv_if_eq (tgt := 86) hx hb dX9_meetings_76 (by decide) (fun hc => ?_) (fun hc => ?_)
  · replace hw := hw.1 hc
    refine lv_lconst (v := 0) hx hb dX9_meetings_86 (by decide) ?_
    refine lv_lstore (lv' := [(8, .long 0), (7, .int s0), (0, .ref (ad y 0)), (1, .int x1), (2, .int x2), (3, .int x3), (4, .int x4), (5, .int x5), (6, .int x6)]) hx hb dX9_meetings_87 hl (Nat.le_of_ble_eq_true rfl) rfl (fun ls hl => ?_)
    refine lv_iconst (v := 0) hx hb dX9_meetings_89 (by decide) ?_
    refine lv_istore (lv' := [(10, .int 0), (8, .long 0), (7, .int s0), (0, .ref (ad y 0)), (1, .int x1), (2, .int x2), (3, .int x3), (4, .int x4), (5, .int x5), (6, .int x6)]) hx hb dX9_meetings_90 hl (Nat.le_of_ble_eq_true rfl) rfl (fun ls hl => ?_)
    obtain ⟨n92, hw⟩ := hw
    exact z_X9_meetings_L92 l y x1 x2 x3 x4 x5 x6 C  K  n92 0 0 st H locs _ hG (lv_sub hl [3, 4, 5, 6, 7, 8, 9, 1, 0] rfl) hw
  · replace hw := hw.2 hc
    refine lv_aload_n hx hb dX9_meetings_79 rfl (lv_at hl 1 rfl) ?_
    refine lv_iload hx hb dX9_meetings_80 (lv_at hl 0 rfl) ?_
    refine r_kl (r_run_V (k := 0) (As := [.int s0]) (rest := []) hx hb hml hown hts hK hN hG (c_X9_lowestOf l y s0 st _ hw) (by decide) rfl rfl rfl qM_X9_285 qI_X9_lowestOf qS_X9_lowestOf qN_X9 qC_X9_lowestOf hd_X9_lowestOf ⟨Nat.le_of_ble_eq_true rfl, Nat.le_of_ble_eq_true rfl⟩ hl.1 rfl (Nat.le_of_ble_eq_true rfl) dX9_meetings_82) hG (fun r82 st82 H locs hw hG => ?_)
    exact r_lret hx hb hr hlk hK hG hw dX9_meetings_85
set_option maxRecDepth 100000 in
set_option maxHeartbeats 4000000 in
theorem z_X9_meetings_b17 {p : Program} {e : Env} {s : State} {m : MethodId} {args : Array Value} {below : List Frame} {meth : Method} {c : Code} (l : Launch) (y : Sy) (x1 : Int32) (x2 : Int32) (x3 : Int32) (x4 : Int32) (x5 : Int32) (x6 : Int32) (C : Sd p s m args meth c cX9_meetings 11 RX9 (some .long) y)  (K : Int64 → St → Prop)   (st : St) {H : Heap} {locs : List Loc} {ls : Array Slot} (hG : gH 17 enM y st s H locs) (hl : lv_has ls 11 [(0, .ref (ad y 0)), (1, .int x1), (2, .int x2), (3, .int x3), (4, .int x4), (5, .int x5), (6, .int x6)]) (hw : w_X9_meetings_b17 x1 x2 x3 x4 x5 x6  K  st) : W p l e (rmm 5 119) s m args below meth c H locs 0 0 (MQ below (va_Ql K (gB 17 enM y) (gA 17 y)) args s 0 0 (gA 17 y)) (F0 m 17 ls []) := by
  obtain ⟨hx, hb, hml, hown, hts, hr, hlk, hK, hN⟩ := id C
  unfold w_X9_meetings_b17 at hw
  refine lv_iconst (v := (-1)) hx hb dX9_meetings_17 (by decide) ?_
  refine lv_goto (tgt := 72) hx hb dX9_meetings_18 (by decide) ?_
  exact z_X9_meetings_b72 l y x1 x2 x3 x4 x5 x6 C  K  (-1) st hG (lv_sub hl [0, 1, 2, 3, 4, 5, 6] rfl) hw
set_option maxRecDepth 100000 in
set_option maxHeartbeats 4000000 in
theorem z_X9_meetings_b32 {p : Program} {e : Env} {s : State} {m : MethodId} {args : Array Value} {below : List Frame} {meth : Method} {c : Code} (l : Launch) (y : Sy) (x1 : Int32) (x2 : Int32) (x3 : Int32) (x4 : Int32) (x5 : Int32) (x6 : Int32) (C : Sd p s m args meth c cX9_meetings 11 RX9 (some .long) y)  (K : Int64 → St → Prop)   (st : St) {H : Heap} {locs : List Loc} {ls : Array Slot} (hG : gH 17 enM y st s H locs) (hl : lv_has ls 11 [(0, .ref (ad y 0)), (1, .int x1), (2, .int x2), (3, .int x3), (4, .int x4), (5, .int x5), (6, .int x6)]) (hw : w_X9_meetings_b32 x1 x2 x3 x4 x5 x6  K  st) : W p l e (rmm 5 119) s m args below meth c H locs 0 0 (MQ below (va_Ql K (gB 17 enM y) (gA 17 y)) args s 0 0 (gA 17 y)) (F0 m 32 ls []) := by
  obtain ⟨hx, hb, hml, hown, hts, hr, hlk, hK, hN⟩ := id C
  unfold w_X9_meetings_b32 at hw
  refine lv_bipush (v := (-4)) hx hb dX9_meetings_32 (by decide) ?_
  refine lv_goto (tgt := 72) hx hb dX9_meetings_34 (by decide) ?_
  exact z_X9_meetings_b72 l y x1 x2 x3 x4 x5 x6 C  K  (-4) st hG (lv_sub hl [0, 1, 2, 3, 4, 5, 6] rfl) hw
set_option maxRecDepth 100000 in
set_option maxHeartbeats 4000000 in
theorem z_X9_meetings_b51 {p : Program} {e : Env} {s : State} {m : MethodId} {args : Array Value} {below : List Frame} {meth : Method} {c : Code} (l : Launch) (y : Sy) (x1 : Int32) (x2 : Int32) (x3 : Int32) (x4 : Int32) (x5 : Int32) (x6 : Int32) (C : Sd p s m args meth c cX9_meetings 11 RX9 (some .long) y)  (K : Int64 → St → Prop)   (st : St) {H : Heap} {locs : List Loc} {ls : Array Slot} (hG : gH 17 enM y st s H locs) (hl : lv_has ls 11 [(0, .ref (ad y 0)), (1, .int x1), (2, .int x2), (3, .int x3), (4, .int x4), (5, .int x5), (6, .int x6)]) (hw : w_X9_meetings_b51 x1 x2 x3 x4 x5 x6  K  st) : W p l e (rmm 5 119) s m args below meth c H locs 0 0 (MQ below (va_Ql K (gB 17 enM y) (gA 17 y)) args s 0 0 (gA 17 y)) (F0 m 51 ls []) := by
  obtain ⟨hx, hb, hml, hown, hts, hr, hlk, hK, hN⟩ := id C
  unfold w_X9_meetings_b51 at hw
  refine lv_bipush (v := (-6)) hx hb dX9_meetings_51 (by decide) ?_
  refine lv_goto (tgt := 72) hx hb dX9_meetings_53 (by decide) ?_
  exact z_X9_meetings_b72 l y x1 x2 x3 x4 x5 x6 C  K  (-6) st hG (lv_sub hl [0, 1, 2, 3, 4, 5, 6] rfl) hw
theorem hd_X9_meetings : yX9_meetings.cls ≠ "java/lang/invoke/MethodHandle" ∧ yX9_meetings.cls ≠ "java/lang/invoke/VarHandle" ∧ (parseMethodDescriptor yX9_meetings.desc).map (fun d => d.parameters.length) = some 6 := by decide +kernel
set_option maxRecDepth 100000 in
set_option maxHeartbeats 4000000 in
theorem c_X9_meetings (l : Launch) (y : Sy) (x1 : Int32) (x2 : Int32) (x3 : Int32) (x4 : Int32) (x5 : Int32) (x6 : Int32) (st : St) (K : Int64 → St → Prop) (hw : w_X9_meetings x1 x2 x3 x4 x5 x6 st K) : Cl 17 enM l yX9_meetings cX9_meetings 11 (some .long) 5 119 y [.ref (ad y 0), .int x1, .int x2, .int x3, .int x4, .int x5, .int x6] st K := by
  refine ent (by decide) (Nat.le_of_ble_eq_true rfl) ?_
  intro p e s m below meth c C hG ls hl
  have hl : lv_has ls 11 [(0, .ref (ad y 0)), (1, .int x1), (2, .int x2), (3, .int x3), (4, .int x4), (5, .int x5), (6, .int x6)] := hl
  generalize ([.ref (ad y 0), .int x1, .int x2, .int x3, .int x4, .int x5, .int x6] : List Value).toArray = args at C ⊢
  have C : Sd p s m args meth c cX9_meetings 11 RX9 (some .long) y := C
  obtain ⟨hx, hb, hml, hown, hts, hr, hlk, hK, hN⟩ := id C
  generalize s.heap = H at hG ⊢
  generalize ([] : List Loc) = locs at hG ⊢
  unfold w_X9_meetings at hw
  refine lv_aload_n hx hb dX9_meetings_0 rfl (lv_at hl 0 rfl) ?_
  refine lv_iload_n hx hb dX9_meetings_1 rfl (lv_at hl 1 rfl) ?_
  refine lv_iload_n hx hb dX9_meetings_2 rfl (lv_at hl 2 rfl) ?_
  refine r_ki (r_run_V (k := 0) (As := [.int x1, .int x2]) (rest := []) hx hb hml hown hts hK hN hG (c_X9_areTwo l y x1 x2 st _ hw) (by decide) rfl rfl rfl qM_X9_125 qI_X9_areTwo qS_X9_areTwo qN_X9 qC_X9_areTwo hd_X9_areTwo ⟨Nat.le_of_ble_eq_true rfl, Nat.le_of_ble_eq_true rfl⟩ hl.1 rfl (Nat.le_of_ble_eq_true rfl) dX9_meetings_3) hG (fun r3 st3 H locs hw hG => ?_)
  refine lv_if_eq (tgt := 17) hx hb dX9_meetings_6 (by decide) (fun hc => ?_) (fun hc => ?_)
  · replace hw := hw.1 hc
    exact z_X9_meetings_b17 l y x1 x2 x3 x4 x5 x6 C  K  st3 hG (lv_sub hl [0, 1, 2, 3, 4, 5, 6] rfl) hw
  · replace hw := hw.2 hc
    refine lv_aload_n hx hb dX9_meetings_9 rfl (lv_at hl 0 rfl) ?_
    refine lv_iload_n hx hb dX9_meetings_10 rfl (lv_at hl 3 rfl) ?_
    refine r_ki (r_run_V (k := 0) (As := [.int x3]) (rest := []) hx hb hml hown hts hK hN hG (c_X9_isLetter l y x3 st3 _ hw) (by decide) rfl rfl rfl qM_X9_134 qI_X9_isLetter qS_X9_isLetter qN_X9 qC_X9_isLetter hd_X9_isLetter ⟨Nat.le_of_ble_eq_true rfl, Nat.le_of_ble_eq_true rfl⟩ hl.1 rfl (Nat.le_of_ble_eq_true rfl) dX9_meetings_11) hG (fun r11 st11 H locs hw hG => ?_)
    refine lv_if_ne (tgt := 21) hx hb dX9_meetings_14 (by decide) (fun hc => ?_) (fun hc => ?_)
    · replace hw := hw.1 hc
      refine lv_iload hx hb dX9_meetings_21 (lv_at hl 4 rfl) ?_
      refine lv_if_lt (tgt := 32) hx hb dX9_meetings_23 (by decide) (fun hc => ?_) (fun hc => ?_)
      · replace hw := hw.1 hc
        exact z_X9_meetings_b32 l y x1 x2 x3 x4 x5 x6 C  K  st11 hG (lv_sub hl [0, 1, 2, 3, 4, 5, 6] rfl) hw
      · replace hw := hw.2 hc
        refine lv_iload hx hb dX9_meetings_26 (lv_at hl 5 rfl) ?_
        refine lv_iconst (v := 2) hx hb dX9_meetings_28 (by decide) ?_
        refine lv_icmp_ge (tgt := 37) hx hb dX9_meetings_29 (by decide) (fun hc => ?_) (fun hc => ?_)
        · replace hw := hw.1 hc
          refine lv_iload hx hb dX9_meetings_37 (lv_at hl 4 rfl) ?_
          refine lv_bipush (v := 7) hx hb dX9_meetings_39 (by decide) ?_
          refine lv_icmp_gt (tgt := 51) hx hb dX9_meetings_41 (by decide) (fun hc => ?_) (fun hc => ?_)
          · replace hw := hw.1 hc
            exact z_X9_meetings_b51 l y x1 x2 x3 x4 x5 x6 C  K  st11 hG (lv_sub hl [0, 1, 2, 3, 4, 5, 6] rfl) hw
          · replace hw := hw.2 hc
            refine lv_iload hx hb dX9_meetings_44 (lv_at hl 5 rfl) ?_
            refine lv_bipush (v := 20) hx hb dX9_meetings_46 (by decide) ?_
            refine lv_icmp_le (tgt := 56) hx hb dX9_meetings_48 (by decide) (fun hc => ?_) (fun hc => ?_)
            · replace hw := hw.1 hc
              refine lv_iload hx hb dX9_meetings_56 (lv_at hl 6 rfl) ?_
              refine lv_iconst (v := 0) hx hb dX9_meetings_58 (by decide) ?_
              refine lv_iconst (v := 1) hx hb dX9_meetings_59 (by decide) ?_
              refine r_ki (r_run_S (As := [.int x6, .int 0, .int 1]) (rest := []) hx hb hml hown hts hK hN hG (c_X9_isIn l y x6 0 1 st11 _ hw) qM_X9_90 qT_X9_isIn qN_X9 qC_X9_isIn hd_X9_isIn ⟨Nat.le_of_ble_eq_true rfl, Nat.le_of_ble_eq_true rfl⟩ hl.1 rfl (Nat.le_of_ble_eq_true rfl) dX9_meetings_60) hG (fun r60 st60 H locs hw hG => ?_)
              refine lv_if_ne (tgt := 71) hx hb dX9_meetings_63 (by decide) (fun hc => ?_) (fun hc => ?_)
              · replace hw := hw.1 hc
                refine lv_iconst (v := 0) hx hb dX9_meetings_71 (by decide) ?_
                exact z_X9_meetings_b72 l y x1 x2 x3 x4 x5 x6 C  K  0 st60 hG (lv_sub hl [0, 1, 2, 3, 4, 5, 6] rfl) hw
              · replace hw := hw.2 hc
                refine lv_bipush (v := (-2)) hx hb dX9_meetings_66 (by decide) ?_
                refine lv_goto (tgt := 72) hx hb dX9_meetings_68 (by decide) ?_
                exact z_X9_meetings_b72 l y x1 x2 x3 x4 x5 x6 C  K  (-2) st60 hG (lv_sub hl [0, 1, 2, 3, 4, 5, 6] rfl) hw
            · replace hw := hw.2 hc
              exact z_X9_meetings_b51 l y x1 x2 x3 x4 x5 x6 C  K  st11 hG (lv_sub hl [0, 1, 2, 3, 4, 5, 6] rfl) hw
        · replace hw := hw.2 hc
          exact z_X9_meetings_b32 l y x1 x2 x3 x4 x5 x6 C  K  st11 hG (lv_sub hl [0, 1, 2, 3, 4, 5, 6] rfl) hw
    · replace hw := hw.2 hc
      exact z_X9_meetings_b17 l y x1 x2 x3 x4 x5 x6 C  K  st11 hG (lv_sub hl [0, 1, 2, 3, 4, 5, 6] rfl) hw
set_option maxRecDepth 100000 in
set_option maxHeartbeats 4000000 in
theorem z_X9_fullest_b49 {p : Program} {e : Env} {s : State} {m : MethodId} {args : Array Value} {below : List Frame} {meth : Method} {c : Code} (l : Launch) (y : Sy) (x1 : Int32) (C : Sd p s m args meth c cX9_fullest 4 RX9 (some .int) y) (c20 : Int32 → Int32 → St → Prop) (K : Int32 → St → Prop) (hc20 : ∀ (v2 : Int32) (v3 : Int32) (st : St) (H : Heap) (locs : List Loc) (ls : Array Slot), gH 17 enM y st s H locs → lv_has ls 4 [(0, .ref (ad y 0)), (1, .int x1), (2, .int v2), (3, .int v3)] → c20 v2 v3 st → W p l e (rmm 1 23) s m args below meth c H locs 0 0 (MQ below (va_Qi K (gB 17 enM y) (gA 17 y)) args s 0 0 (gA 17 y)) (F0 m 20 ls [])) (v3 : Int32) (s0 : Int32) (st : St) {H : Heap} {locs : List Loc} {ls : Array Slot} (hG : gH 17 enM y st s H locs) (hl : lv_has ls 4 [(0, .ref (ad y 0)), (1, .int x1), (3, .int v3)]) (hw : w_X9_fullest_b49 x1 c20 K v3 s0 st) : W p l e (rmm 1 23) s m args below meth c H locs 0 0 (MQ below (va_Qi K (gB 17 enM y) (gA 17 y)) args s 0 0 (gA 17 y)) (F0 m 49 ls [.int s0]) := by
  obtain ⟨hx, hb, hml, hown, hts, hr, hlk, hK, hN⟩ := id C
  unfold w_X9_fullest_b49 at hw
  refine lv_istore_n (lv' := [(2, .int s0), (0, .ref (ad y 0)), (1, .int x1), (3, .int v3)]) hx hb dX9_fullest_49 rfl hl (Nat.le_of_ble_eq_true rfl) rfl (fun ls hl => ?_)
  refine lv_iinc (v := (v3 + 1)) (lv' := [(3, .int (v3 + 1)), (2, .int s0), (0, .ref (ad y 0)), (1, .int x1)]) hx hb dX9_fullest_50 hl (k := 3) rfl rfl (Nat.le_of_ble_eq_true rfl) rfl (fun ls hl => ?_)
  refine lv_goto (tgt := 20) hx hb dX9_fullest_53 (by decide) ?_
  exact hc20 s0 (v3 + 1) st H locs _ hG (lv_sub hl [2, 3, 1, 0] rfl) hw
set_option maxRecDepth 100000 in
set_option maxHeartbeats 4000000 in
theorem z_X9_fullest_b56 {p : Program} {e : Env} {s : State} {m : MethodId} {args : Array Value} {below : List Frame} {meth : Method} {c : Code} (l : Launch) (y : Sy) (x1 : Int32) (C : Sd p s m args meth c cX9_fullest 4 RX9 (some .int) y)  (K : Int32 → St → Prop)  (v2 : Int32) (st : St) {H : Heap} {locs : List Loc} {ls : Array Slot} (hG : gH 17 enM y st s H locs) (hl : lv_has ls 4 [(0, .ref (ad y 0)), (1, .int x1), (2, .int v2)]) (hw : w_X9_fullest_b56 x1  K v2 st) : W p l e (rmm 1 23) s m args below meth c H locs 0 0 (MQ below (va_Qi K (gB 17 enM y) (gA 17 y)) args s 0 0 (gA 17 y)) (F0 m 56 ls []) := by
  obtain ⟨hx, hb, hml, hown, hts, hr, hlk, hK, hN⟩ := id C
  unfold w_X9_fullest_b56 at hw
  refine lv_iload_n hx hb dX9_fullest_56 rfl (lv_at hl 1 rfl) ?_
  refine lv_if_ne (tgt := 64) hx hb dX9_fullest_57 (by decide) (fun hc => ?_) (fun hc => ?_)
  · replace hw := hw.1 hc
    refine lv_aload_n hx hb dX9_fullest_64 rfl (lv_at hl 0 rfl) ?_
    refine lv_iload_n hx hb dX9_fullest_65 rfl (lv_at hl 2 rfl) ?_
    refine r_ki (r_run_V (k := 0) (As := [.int v2]) (rest := []) hx hb hml hown hts hK hN hG (c_X9_keepersIn l y v2 st _ hw) (by decide) rfl rfl rfl qM_X9_262 qI_X9_keepersIn qS_X9_keepersIn qN_X9 qC_X9_keepersIn hd_X9_keepersIn ⟨Nat.le_of_ble_eq_true rfl, Nat.le_of_ble_eq_true rfl⟩ hl.1 rfl (Nat.le_of_ble_eq_true rfl) dX9_fullest_66) hG (fun r66 st66 H locs hw hG => ?_)
    refine r_ki (r_run_S (As := [.int r66]) (rest := []) hx hb hml hown hts hK hN hG (c_X9_bits l y r66 st66 _ hw) qM_X9_214 qT_X9_bits qN_X9 qC_X9_bits hd_X9_bits ⟨Nat.le_of_ble_eq_true rfl, Nat.le_of_ble_eq_true rfl⟩ hl.1 rfl (Nat.le_of_ble_eq_true rfl) dX9_fullest_69) hG (fun r69 st69 H locs hw hG => ?_)
    exact r_iret hx hb hr hlk hK hG rfl hw dX9_fullest_72
  · replace hw := hw.2 hc
    refine lv_iload_n hx hb dX9_fullest_60 rfl (lv_at hl 2 rfl) ?_
    refine lv_goto (tgt := 72) hx hb dX9_fullest_61 (by decide) ?_
    exact r_iret hx hb hr hlk hK hG rfl hw dX9_fullest_72
set_option maxRecDepth 100000 in
set_option maxHeartbeats 4000000 in
theorem z_X9_fullest_L20 {p : Program} {e : Env} {s : State} {m : MethodId} {args : Array Value} {below : List Frame} {meth : Method} {c : Code} (l : Launch) (y : Sy) (x1 : Int32) (C : Sd p s m args meth c cX9_fullest 4 RX9 (some .int) y)  (K : Int32 → St → Prop)  : ∀ (n : Nat) (v2 : Int32) (v3 : Int32) (st : St) (H : Heap) (locs : List Loc) (ls : Array Slot), gH 17 enM y st s H locs → lv_has ls 4 [(0, .ref (ad y 0)), (1, .int x1), (2, .int v2), (3, .int v3)] → w_X9_fullest_L20 x1  K n v2 v3 st → W p l e (rmm 1 23) s m args below meth c H locs 0 0 (MQ below (va_Qi K (gB 17 enM y) (gA 17 y)) args s 0 0 (gA 17 y)) (F0 m 20 ls []) := by
  obtain ⟨hx, hb, hml, hown, hts, hr, hlk, hK, hN⟩ := id C
  intro n
  induction n with
  | zero => intro v2 v3 st H locs ls hG hl hw; exact False.elim hw
  | succ n hc20 =>
    intro v2 v3 st H locs ls hG hl hw
    have hw : w_X9_fullest_L20q x1  K (fun v2 v3 st => w_X9_fullest_L20 x1  K n v2 v3 st) v2 v3 st := hw
    unfold w_X9_fullest_L20q at hw
    refine lv_iload_n hx hb dX9_fullest_20 rfl (lv_at hl 3 rfl) ?_
    refine lv_iconst (v := 4) hx hb dX9_fullest_21 (by decide) ?_
    refine lv_icmp_ge (tgt := 56) hx hb dX9_fullest_22 (by decide) (fun hc => ?_) (fun hc => ?_)
    · replace hw := hw.1 hc
      exact z_X9_fullest_b56 l y x1 C  K  v2 st hG (lv_sub hl [0, 1, 2] rfl) hw
    · replace hw := hw.2 hc
      refine lv_aload_n hx hb dX9_fullest_25 rfl (lv_at hl 0 rfl) ?_
      refine lv_iload_n hx hb dX9_fullest_26 rfl (lv_at hl 3 rfl) ?_
      refine r_ki (r_run_V (k := 0) (As := [.int v3]) (rest := []) hx hb hml hown hts hK hN hG (c_X9_keepersIn l y v3 st _ hw) (by decide) rfl rfl rfl qM_X9_262 qI_X9_keepersIn qS_X9_keepersIn qN_X9 qC_X9_keepersIn hd_X9_keepersIn ⟨Nat.le_of_ble_eq_true rfl, Nat.le_of_ble_eq_true rfl⟩ hl.1 rfl (Nat.le_of_ble_eq_true rfl) dX9_fullest_27) hG (fun r27 st27 H locs hw hG => ?_)
      refine r_ki (r_run_S (As := [.int r27]) (rest := []) hx hb hml hown hts hK hN hG (c_X9_bits l y r27 st27 _ hw) qM_X9_214 qT_X9_bits qN_X9 qC_X9_bits hd_X9_bits ⟨Nat.le_of_ble_eq_true rfl, Nat.le_of_ble_eq_true rfl⟩ hl.1 rfl (Nat.le_of_ble_eq_true rfl) dX9_fullest_30) hG (fun r30 st30 H locs hw hG => ?_)
      refine lv_aload_n hx hb dX9_fullest_33 rfl (lv_at hl 0 rfl) ?_
      refine lv_iload_n hx hb dX9_fullest_34 rfl (lv_at hl 2 rfl) ?_
      refine r_ki (r_run_V (k := 0) (As := [.int v2]) (rest := [.int r30]) hx hb hml hown hts hK hN hG (c_X9_keepersIn l y v2 st30 _ hw) (by decide) rfl rfl rfl qM_X9_262 qI_X9_keepersIn qS_X9_keepersIn qN_X9 qC_X9_keepersIn hd_X9_keepersIn ⟨Nat.le_of_ble_eq_true rfl, Nat.le_of_ble_eq_true rfl⟩ hl.1 rfl (Nat.le_of_ble_eq_true rfl) dX9_fullest_35) hG (fun r35 st35 H locs hw hG => ?_)
      refine r_ki (r_run_S (As := [.int r35]) (rest := [.int r30]) hx hb hml hown hts hK hN hG (c_X9_bits l y r35 st35 _ hw) qM_X9_214 qT_X9_bits qN_X9 qC_X9_bits hd_X9_bits ⟨Nat.le_of_ble_eq_true rfl, Nat.le_of_ble_eq_true rfl⟩ hl.1 rfl (Nat.le_of_ble_eq_true rfl) dX9_fullest_38) hG (fun r38 st38 H locs hw hG => ?_)
      refine lv_icmp_le (tgt := 48) hx hb dX9_fullest_41 (by decide) (fun hc => ?_) (fun hc => ?_)
      · replace hw := hw.1 hc
        refine lv_iload_n hx hb dX9_fullest_48 rfl (lv_at hl 2 rfl) ?_
        exact z_X9_fullest_b49 l y x1 C (fun v2 v3 st => w_X9_fullest_L20 x1  K n v2 v3 st) K hc20 v3 v2 st38 hG (lv_sub hl [0, 1, 3] rfl) hw
      · replace hw := hw.2 hc
        refine lv_iload_n hx hb dX9_fullest_44 rfl (lv_at hl 3 rfl) ?_
        refine lv_goto (tgt := 49) hx hb dX9_fullest_45 (by decide) ?_
        exact z_X9_fullest_b49 l y x1 C (fun v2 v3 st => w_X9_fullest_L20 x1  K n v2 v3 st) K hc20 v3 v3 st38 hG (lv_sub hl [0, 1, 3] rfl) hw
theorem hd_X9_fullest : yX9_fullest.cls ≠ "java/lang/invoke/MethodHandle" ∧ yX9_fullest.cls ≠ "java/lang/invoke/VarHandle" ∧ (parseMethodDescriptor yX9_fullest.desc).map (fun d => d.parameters.length) = some 1 := by decide +kernel
set_option maxRecDepth 100000 in
set_option maxHeartbeats 4000000 in
theorem c_X9_fullest (l : Launch) (y : Sy) (x1 : Int32) (st : St) (K : Int32 → St → Prop) (hw : w_X9_fullest x1 st K) : Ci 17 enM l yX9_fullest cX9_fullest 4 (some .int) 1 23 y [.ref (ad y 0), .int x1] st K := by
  refine ent (by decide) (Nat.le_of_ble_eq_true rfl) ?_
  intro p e s m below meth c C hG ls hl
  have hl : lv_has ls 4 [(0, .ref (ad y 0)), (1, .int x1)] := hl
  generalize ([.ref (ad y 0), .int x1] : List Value).toArray = args at C ⊢
  have C : Sd p s m args meth c cX9_fullest 4 RX9 (some .int) y := C
  obtain ⟨hx, hb, hml, hown, hts, hr, hlk, hK, hN⟩ := id C
  generalize s.heap = H at hG ⊢
  generalize ([] : List Loc) = locs at hG ⊢
  unfold w_X9_fullest at hw
  refine lv_iload_n hx hb dX9_fullest_0 rfl (lv_at hl 1 rfl) ?_
  refine lv_iconst (v := 0) hx hb dX9_fullest_1 (by decide) ?_
  refine lv_iconst (v := 1) hx hb dX9_fullest_2 (by decide) ?_
  refine r_ki (r_run_S (As := [.int x1, .int 0, .int 1]) (rest := []) hx hb hml hown hts hK hN hG (c_X9_isIn l y x1 0 1 st _ hw) qM_X9_90 qT_X9_isIn qN_X9 qC_X9_isIn hd_X9_isIn ⟨Nat.le_of_ble_eq_true rfl, Nat.le_of_ble_eq_true rfl⟩ hl.1 rfl (Nat.le_of_ble_eq_true rfl) dX9_fullest_3) hG (fun r3 st3 H locs hw hG => ?_)
  refine lv_if_ne (tgt := 16) hx hb dX9_fullest_6 (by decide) (fun hc => ?_) (fun hc => ?_)
  · replace hw := hw.1 hc
    refine lv_iconst (v := 0) hx hb dX9_fullest_16 (by decide) ?_
    refine lv_istore_n (lv' := [(2, .int 0), (0, .ref (ad y 0)), (1, .int x1)]) hx hb dX9_fullest_17 rfl hl (Nat.le_of_ble_eq_true rfl) rfl (fun ls hl => ?_)
    refine lv_iconst (v := 1) hx hb dX9_fullest_18 (by decide) ?_
    refine lv_istore_n (lv' := [(3, .int 1), (2, .int 0), (0, .ref (ad y 0)), (1, .int x1)]) hx hb dX9_fullest_19 rfl hl (Nat.le_of_ble_eq_true rfl) rfl (fun ls hl => ?_)
    obtain ⟨n20, hw⟩ := hw
    exact z_X9_fullest_L20 l y x1 C  K  n20 0 1 st3 H locs _ hG (lv_sub hl [2, 3, 1, 0] rfl) hw
  · replace hw := hw.2 hc
    refine lv_aload_n hx hb dX9_fullest_9 rfl (lv_at hl 0 rfl) ?_
    refine lv_bipush (v := (-2)) hx hb dX9_fullest_10 (by decide) ?_
    refine r_ki (r_run_V (k := 0) (As := [.int (-2)]) (rest := []) hx hb hml hown hts hK hN hG (c_X9_no l y (-2) st3 _ hw) (by decide) rfl rfl rfl qM_X9_79 qI_X9_no qS_X9_no qN_X9 qC_X9_no hd_X9_no ⟨Nat.le_of_ble_eq_true rfl, Nat.le_of_ble_eq_true rfl⟩ hl.1 rfl (Nat.le_of_ble_eq_true rfl) dX9_fullest_12) hG (fun r12 st12 H locs hw hG => ?_)
    exact r_iret hx hb hr hlk hK hG rfl hw dX9_fullest_15
set_option maxRecDepth 100000 in
set_option maxHeartbeats 4000000 in
theorem z_X9_thickest_b43 {p : Program} {e : Env} {s : State} {m : MethodId} {args : Array Value} {below : List Frame} {meth : Method} {c : Code} (l : Launch) (y : Sy)  (C : Sd p s m args meth c cX9_thickest 3 RX9 (some .int) y) (c5 : Int32 → Int32 → St → Prop) (K : Int32 → St → Prop) (hc5 : ∀ (v1 : Int32) (v2 : Int32) (st : St) (H : Heap) (locs : List Loc) (ls : Array Slot), gH 17 enM y st s H locs → lv_has ls 3 [(0, .ref (ad y 0)), (1, .int v1), (2, .int v2)] → c5 v1 v2 st → W p l e (rmm 0 0) s m args below meth c H locs 0 0 (MQ below (va_Qi K (gB 17 enM y) (gA 17 y)) args s 0 0 (gA 17 y)) (F0 m 5 ls [])) (v1 : Int32) (v2 : Int32) (st : St) {H : Heap} {locs : List Loc} {ls : Array Slot} (hG : gH 17 enM y st s H locs) (hl : lv_has ls 3 [(0, .ref (ad y 0)), (1, .int v1), (2, .int v2)]) (hw : w_X9_thickest_b43  c5 K v1 v2 st) : W p l e (rmm 0 0) s m args below meth c H locs 0 0 (MQ below (va_Qi K (gB 17 enM y) (gA 17 y)) args s 0 0 (gA 17 y)) (F0 m 43 ls []) := by
  obtain ⟨hx, hb, hml, hown, hts, hr, hlk, hK, hN⟩ := id C
  unfold w_X9_thickest_b43 at hw
  refine lv_iinc (v := (v2 + 1)) (lv' := [(2, .int (v2 + 1)), (0, .ref (ad y 0)), (1, .int v1)]) hx hb dX9_thickest_43 hl (k := 2) rfl rfl (Nat.le_of_ble_eq_true rfl) rfl (fun ls hl => ?_)
  refine lv_goto (tgt := 5) hx hb dX9_thickest_46 (by decide) ?_
  exact hc5 v1 (v2 + 1) st H locs _ hG (lv_sub hl [1, 2, 0] rfl) hw
set_option maxRecDepth 100000 in
set_option maxHeartbeats 4000000 in
theorem z_X9_thickest_b41 {p : Program} {e : Env} {s : State} {m : MethodId} {args : Array Value} {below : List Frame} {meth : Method} {c : Code} (l : Launch) (y : Sy)  (C : Sd p s m args meth c cX9_thickest 3 RX9 (some .int) y) (c5 : Int32 → Int32 → St → Prop) (K : Int32 → St → Prop) (hc5 : ∀ (v1 : Int32) (v2 : Int32) (st : St) (H : Heap) (locs : List Loc) (ls : Array Slot), gH 17 enM y st s H locs → lv_has ls 3 [(0, .ref (ad y 0)), (1, .int v1), (2, .int v2)] → c5 v1 v2 st → W p l e (rmm 0 0) s m args below meth c H locs 0 0 (MQ below (va_Qi K (gB 17 enM y) (gA 17 y)) args s 0 0 (gA 17 y)) (F0 m 5 ls [])) (v2 : Int32) (st : St) {H : Heap} {locs : List Loc} {ls : Array Slot} (hG : gH 17 enM y st s H locs) (hl : lv_has ls 3 [(0, .ref (ad y 0)), (2, .int v2)]) (hw : w_X9_thickest_b41  c5 K v2 st) : W p l e (rmm 0 0) s m args below meth c H locs 0 0 (MQ below (va_Qi K (gB 17 enM y) (gA 17 y)) args s 0 0 (gA 17 y)) (F0 m 41 ls []) := by
  obtain ⟨hx, hb, hml, hown, hts, hr, hlk, hK, hN⟩ := id C
  unfold w_X9_thickest_b41 at hw
  refine lv_iload_n hx hb dX9_thickest_41 rfl (lv_at hl 1 rfl) ?_
  refine lv_istore_n (lv' := [(1, .int v2), (0, .ref (ad y 0)), (2, .int v2)]) hx hb dX9_thickest_42 rfl hl (Nat.le_of_ble_eq_true rfl) rfl (fun ls hl => ?_)
  exact z_X9_thickest_b43 l y  C c5 K hc5 v2 v2 st hG (lv_sub hl [1, 0, 2] rfl) hw
set_option maxRecDepth 100000 in
set_option maxHeartbeats 4000000 in
theorem z_X9_thickest_L5 {p : Program} {e : Env} {s : State} {m : MethodId} {args : Array Value} {below : List Frame} {meth : Method} {c : Code} (l : Launch) (y : Sy)  (C : Sd p s m args meth c cX9_thickest 3 RX9 (some .int) y)  (K : Int32 → St → Prop)  : ∀ (n : Nat) (v1 : Int32) (v2 : Int32) (st : St) (H : Heap) (locs : List Loc) (ls : Array Slot), gH 17 enM y st s H locs → lv_has ls 3 [(0, .ref (ad y 0)), (1, .int v1), (2, .int v2)] → w_X9_thickest_L5   K n v1 v2 st → W p l e (rmm 0 0) s m args below meth c H locs 0 0 (MQ below (va_Qi K (gB 17 enM y) (gA 17 y)) args s 0 0 (gA 17 y)) (F0 m 5 ls []) := by
  obtain ⟨hx, hb, hml, hown, hts, hr, hlk, hK, hN⟩ := id C
  intro n
  induction n with
  | zero => intro v1 v2 st H locs ls hG hl hw; exact False.elim hw
  | succ n hc5 =>
    intro v1 v2 st H locs ls hG hl hw
    have hw : w_X9_thickest_L5q   K (fun v1 v2 st => w_X9_thickest_L5   K n v1 v2 st) v1 v2 st := hw
    unfold w_X9_thickest_L5q at hw
    refine lv_iload_n hx hb dX9_thickest_5 rfl (lv_at hl 2 rfl) ?_
    refine lv_aload_n hx hb dX9_thickest_6 rfl (lv_at hl 0 rfl) ?_
    refine r_get (C := RX9) (T := TX9) (Nf := 31) hx hb hts hown hK hG (by decide) rfl rfl inX9 9 (by decide) qF_X9_58 rfl dX9_thickest_7 ?_
    refine lv_icmp_ge (tgt := 49) hx hb dX9_thickest_10 (by decide) (fun hc => ?_) (fun hc => ?_)
    · replace hw := hw.1 hc
      refine lv_iload_n hx hb dX9_thickest_49 rfl (lv_at hl 1 rfl) ?_
      exact r_iret hx hb hr hlk hK hG rfl hw dX9_thickest_50
    · replace hw := hw.2 hc
      refine lv_aload_n hx hb dX9_thickest_13 rfl (lv_at hl 0 rfl) ?_
      refine r_get (C := RX9) (T := TX9) (Nf := 31) hx hb hts hown hK hG (by decide) rfl rfl inX9 7 (by decide) qF_X9_31 rfl dX9_thickest_14 ?_
      refine lv_iload_n hx hb dX9_thickest_17 rfl (lv_at hl 2 rfl) ?_
      obtain ⟨hi, hw⟩ := hw
      refine r_iald hx hb hK hG (isB_8).1 ((isB_8).2 y _) hi dX9_thickest_18 ?_
      refine lv_if_ne (tgt := 43) hx hb dX9_thickest_19 (by decide) (fun hc => ?_) (fun hc => ?_)
      · replace hw := hw.1 hc
        exact z_X9_thickest_b43 l y  C (fun v1 v2 st => w_X9_thickest_L5   K n v1 v2 st) K hc5 v1 v2 st hG (lv_sub hl [0, 1, 2] rfl) hw
      · replace hw := hw.2 hc
        refine lv_iload_n hx hb dX9_thickest_22 rfl (lv_at hl 1 rfl) ?_
        refine lv_if_lt (tgt := 41) hx hb dX9_thickest_23 (by decide) (fun hc => ?_) (fun hc => ?_)
        · replace hw := hw.1 hc
          exact z_X9_thickest_b41 l y  C (fun v1 v2 st => w_X9_thickest_L5   K n v1 v2 st) K hc5 v2 st hG (lv_sub hl [0, 2] rfl) hw
        · replace hw := hw.2 hc
          refine lv_aload_n hx hb dX9_thickest_26 rfl (lv_at hl 0 rfl) ?_
          refine r_get (C := RX9) (T := TX9) (Nf := 31) hx hb hts hown hK hG (by decide) rfl rfl inX9 5 (by decide) qF_X9_25 rfl dX9_thickest_27 ?_
          refine lv_iload_n hx hb dX9_thickest_30 rfl (lv_at hl 2 rfl) ?_
          obtain ⟨hi, hw⟩ := hw
          refine r_iald hx hb hK hG (isB_6).1 ((isB_6).2 y _) hi dX9_thickest_31 ?_
          refine lv_aload_n hx hb dX9_thickest_32 rfl (lv_at hl 0 rfl) ?_
          refine r_get (C := RX9) (T := TX9) (Nf := 31) hx hb hts hown hK hG (by decide) rfl rfl inX9 5 (by decide) qF_X9_25 rfl dX9_thickest_33 ?_
          refine lv_iload_n hx hb dX9_thickest_36 rfl (lv_at hl 1 rfl) ?_
          obtain ⟨hi, hw⟩ := hw
          refine r_iald hx hb hK hG (isB_6).1 ((isB_6).2 y _) hi dX9_thickest_37 ?_
          refine lv_icmp_le (tgt := 43) hx hb dX9_thickest_38 (by decide) (fun hc => ?_) (fun hc => ?_)
          · replace hw := hw.1 hc
            exact z_X9_thickest_b43 l y  C (fun v1 v2 st => w_X9_thickest_L5   K n v1 v2 st) K hc5 v1 v2 st hG (lv_sub hl [0, 1, 2] rfl) hw
          · replace hw := hw.2 hc
            exact z_X9_thickest_b41 l y  C (fun v1 v2 st => w_X9_thickest_L5   K n v1 v2 st) K hc5 v2 st hG (lv_sub hl [0, 2] rfl) hw
theorem hd_X9_thickest : yX9_thickest.cls ≠ "java/lang/invoke/MethodHandle" ∧ yX9_thickest.cls ≠ "java/lang/invoke/VarHandle" ∧ (parseMethodDescriptor yX9_thickest.desc).map (fun d => d.parameters.length) = some 0 := by decide +kernel
set_option maxRecDepth 100000 in
set_option maxHeartbeats 4000000 in
theorem c_X9_thickest (l : Launch) (y : Sy)  (st : St) (K : Int32 → St → Prop) (hw : w_X9_thickest  st K) : Ci 17 enM l yX9_thickest cX9_thickest 3 (some .int) 0 0 y [.ref (ad y 0)] st K := by
  refine ent (by decide) (Nat.le_of_ble_eq_true rfl) ?_
  intro p e s m below meth c C hG ls hl
  have hl : lv_has ls 3 [(0, .ref (ad y 0))] := hl
  generalize ([.ref (ad y 0)] : List Value).toArray = args at C ⊢
  have C : Sd p s m args meth c cX9_thickest 3 RX9 (some .int) y := C
  obtain ⟨hx, hb, hml, hown, hts, hr, hlk, hK, hN⟩ := id C
  generalize s.heap = H at hG ⊢
  generalize ([] : List Loc) = locs at hG ⊢
  unfold w_X9_thickest at hw
  refine lv_bipush (v := (-9)) hx hb dX9_thickest_0 (by decide) ?_
  refine lv_istore_n (lv' := [(1, .int (-9)), (0, .ref (ad y 0))]) hx hb dX9_thickest_2 rfl hl (Nat.le_of_ble_eq_true rfl) rfl (fun ls hl => ?_)
  refine lv_iconst (v := 0) hx hb dX9_thickest_3 (by decide) ?_
  refine lv_istore_n (lv' := [(2, .int 0), (1, .int (-9)), (0, .ref (ad y 0))]) hx hb dX9_thickest_4 rfl hl (Nat.le_of_ble_eq_true rfl) rfl (fun ls hl => ?_)
  obtain ⟨n5, hw⟩ := hw
  exact z_X9_thickest_L5 l y  C  K  n5 (-9) 0 st H locs _ hG (lv_sub hl [2, 1, 0] rfl) hw
set_option maxRecDepth 100000 in
set_option maxHeartbeats 4000000 in
theorem z_X9_hatesOf_b28 {p : Program} {e : Env} {s : State} {m : MethodId} {args : Array Value} {below : List Frame} {meth : Method} {c : Code} (l : Launch) (y : Sy) (x1 : Int32) (C : Sd p s m args meth c cX9_hatesOf 4 RX9 (some .int) y) (c4 : Int32 → Int32 → St → Prop) (K : Int32 → St → Prop) (hc4 : ∀ (v2 : Int32) (v3 : Int32) (st : St) (H : Heap) (locs : List Loc) (ls : Array Slot), gH 17 enM y st s H locs → lv_has ls 4 [(0, .ref (ad y 0)), (1, .int x1), (2, .int v2), (3, .int v3)] → c4 v2 v3 st → W p l e (rmm 1 22) s m args below meth c H locs 0 0 (MQ below (va_Qi K (gB 17 enM y) (gA 17 y)) args s 0 0 (gA 17 y)) (F0 m 4 ls [])) (v3 : Int32) (s0 : Int32) (s1 : Int32) (st : St) {H : Heap} {locs : List Loc} {ls : Array Slot} (hG : gH 17 enM y st s H locs) (hl : lv_has ls 4 [(0, .ref (ad y 0)), (1, .int x1), (3, .int v3)]) (hw : w_X9_hatesOf_b28 x1 c4 K v3 s0 s1 st) : W p l e (rmm 1 22) s m args below meth c H locs 0 0 (MQ below (va_Qi K (gB 17 enM y) (gA 17 y)) args s 0 0 (gA 17 y)) (F0 m 28 ls [.int s0, .int s1]) := by
  obtain ⟨hx, hb, hml, hown, hts, hr, hlk, hK, hN⟩ := id C
  unfold w_X9_hatesOf_b28 at hw
  refine lv_iadd hx hb dX9_hatesOf_28 ?_
  refine lv_istore_n (lv' := [(2, .int (s1 + s0)), (0, .ref (ad y 0)), (1, .int x1), (3, .int v3)]) hx hb dX9_hatesOf_29 rfl hl (Nat.le_of_ble_eq_true rfl) rfl (fun ls hl => ?_)
  refine lv_iinc (v := (v3 + 1)) (lv' := [(3, .int (v3 + 1)), (2, .int (s1 + s0)), (0, .ref (ad y 0)), (1, .int x1)]) hx hb dX9_hatesOf_30 hl (k := 3) rfl rfl (Nat.le_of_ble_eq_true rfl) rfl (fun ls hl => ?_)
  refine lv_goto (tgt := 4) hx hb dX9_hatesOf_33 (by decide) ?_
  exact hc4 (s1 + s0) (v3 + 1) st H locs _ hG (lv_sub hl [2, 3, 1, 0] rfl) hw
set_option maxRecDepth 100000 in
set_option maxHeartbeats 4000000 in
theorem z_X9_hatesOf_L4 {p : Program} {e : Env} {s : State} {m : MethodId} {args : Array Value} {below : List Frame} {meth : Method} {c : Code} (l : Launch) (y : Sy) (x1 : Int32) (C : Sd p s m args meth c cX9_hatesOf 4 RX9 (some .int) y)  (K : Int32 → St → Prop)  : ∀ (n : Nat) (v2 : Int32) (v3 : Int32) (st : St) (H : Heap) (locs : List Loc) (ls : Array Slot), gH 17 enM y st s H locs → lv_has ls 4 [(0, .ref (ad y 0)), (1, .int x1), (2, .int v2), (3, .int v3)] → w_X9_hatesOf_L4 x1  K n v2 v3 st → W p l e (rmm 1 22) s m args below meth c H locs 0 0 (MQ below (va_Qi K (gB 17 enM y) (gA 17 y)) args s 0 0 (gA 17 y)) (F0 m 4 ls []) := by
  obtain ⟨hx, hb, hml, hown, hts, hr, hlk, hK, hN⟩ := id C
  intro n
  induction n with
  | zero => intro v2 v3 st H locs ls hG hl hw; exact False.elim hw
  | succ n hc4 =>
    intro v2 v3 st H locs ls hG hl hw
    have hw : w_X9_hatesOf_L4q x1  K (fun v2 v3 st => w_X9_hatesOf_L4 x1  K n v2 v3 st) v2 v3 st := hw
    unfold w_X9_hatesOf_L4q at hw
    refine lv_iload_n hx hb dX9_hatesOf_4 rfl (lv_at hl 3 rfl) ?_
    refine lv_aload_n hx hb dX9_hatesOf_5 rfl (lv_at hl 0 rfl) ?_
    refine r_get (C := RX9) (T := TX9) (Nf := 31) hx hb hts hown hK hG (by decide) rfl rfl inX9 8 (by decide) qF_X9_65 rfl dX9_hatesOf_6 ?_
    refine lv_icmp_ge (tgt := 36) hx hb dX9_hatesOf_9 (by decide) (fun hc => ?_) (fun hc => ?_)
    · replace hw := hw.1 hc
      refine lv_iload_n hx hb dX9_hatesOf_36 rfl (lv_at hl 2 rfl) ?_
      exact r_iret hx hb hr hlk hK hG rfl hw dX9_hatesOf_37
    · replace hw := hw.2 hc
      refine lv_iload_n hx hb dX9_hatesOf_12 rfl (lv_at hl 2 rfl) ?_
      refine lv_iload_n hx hb dX9_hatesOf_13 rfl (lv_at hl 3 rfl) ?_
      refine lv_iload_n hx hb dX9_hatesOf_14 rfl (lv_at hl 1 rfl) ?_
      refine lv_icmp_ne (tgt := 22) hx hb dX9_hatesOf_15 (by decide) (fun hc => ?_) (fun hc => ?_)
      · replace hw := hw.1 hc
        refine lv_aload_n hx hb dX9_hatesOf_22 rfl (lv_at hl 0 rfl) ?_
        refine lv_iload_n hx hb dX9_hatesOf_23 rfl (lv_at hl 1 rfl) ?_
        refine lv_iload_n hx hb dX9_hatesOf_24 rfl (lv_at hl 3 rfl) ?_
        refine r_ki (r_run_V (k := 0) (As := [.int x1, .int v3]) (rest := [.int v2]) hx hb hml hown hts hK hN hG (c_X9_hateOf l y x1 v3 st _ hw) (by decide) rfl rfl rfl qM_X9_180 qI_X9_hateOf qS_X9_hateOf qN_X9 qC_X9_hateOf hd_X9_hateOf ⟨Nat.le_of_ble_eq_true rfl, Nat.le_of_ble_eq_true rfl⟩ hl.1 rfl (Nat.le_of_ble_eq_true rfl) dX9_hatesOf_25) hG (fun r25 st25 H locs hw hG => ?_)
        exact z_X9_hatesOf_b28 l y x1 C (fun v2 v3 st => w_X9_hatesOf_L4 x1  K n v2 v3 st) K hc4 v3 r25 v2 st25 hG (lv_sub hl [0, 1, 3] rfl) hw
      · replace hw := hw.2 hc
        refine lv_iconst (v := 0) hx hb dX9_hatesOf_18 (by decide) ?_
        refine lv_goto (tgt := 28) hx hb dX9_hatesOf_19 (by decide) ?_
        exact z_X9_hatesOf_b28 l y x1 C (fun v2 v3 st => w_X9_hatesOf_L4 x1  K n v2 v3 st) K hc4 v3 0 v2 st hG (lv_sub hl [0, 1, 3] rfl) hw
theorem hd_X9_hatesOf : yX9_hatesOf.cls ≠ "java/lang/invoke/MethodHandle" ∧ yX9_hatesOf.cls ≠ "java/lang/invoke/VarHandle" ∧ (parseMethodDescriptor yX9_hatesOf.desc).map (fun d => d.parameters.length) = some 1 := by decide +kernel
set_option maxRecDepth 100000 in
set_option maxHeartbeats 4000000 in
theorem c_X9_hatesOf (l : Launch) (y : Sy) (x1 : Int32) (st : St) (K : Int32 → St → Prop) (hw : w_X9_hatesOf x1 st K) : Ci 17 enM l yX9_hatesOf cX9_hatesOf 4 (some .int) 1 22 y [.ref (ad y 0), .int x1] st K := by
  refine ent (by decide) (Nat.le_of_ble_eq_true rfl) ?_
  intro p e s m below meth c C hG ls hl
  have hl : lv_has ls 4 [(0, .ref (ad y 0)), (1, .int x1)] := hl
  generalize ([.ref (ad y 0), .int x1] : List Value).toArray = args at C ⊢
  have C : Sd p s m args meth c cX9_hatesOf 4 RX9 (some .int) y := C
  obtain ⟨hx, hb, hml, hown, hts, hr, hlk, hK, hN⟩ := id C
  generalize s.heap = H at hG ⊢
  generalize ([] : List Loc) = locs at hG ⊢
  unfold w_X9_hatesOf at hw
  refine lv_iconst (v := 0) hx hb dX9_hatesOf_0 (by decide) ?_
  refine lv_istore_n (lv' := [(2, .int 0), (0, .ref (ad y 0)), (1, .int x1)]) hx hb dX9_hatesOf_1 rfl hl (Nat.le_of_ble_eq_true rfl) rfl (fun ls hl => ?_)
  refine lv_iconst (v := 0) hx hb dX9_hatesOf_2 (by decide) ?_
  refine lv_istore_n (lv' := [(3, .int 0), (2, .int 0), (0, .ref (ad y 0)), (1, .int x1)]) hx hb dX9_hatesOf_3 rfl hl (Nat.le_of_ble_eq_true rfl) rfl (fun ls hl => ?_)
  obtain ⟨n4, hw⟩ := hw
  exact z_X9_hatesOf_L4 l y x1 C  K  n4 0 0 st H locs _ hG (lv_sub hl [2, 3, 1, 0] rfl) hw
set_option maxRecDepth 100000 in
set_option maxHeartbeats 4000000 in
theorem z_X9_mildest_b35 {p : Program} {e : Env} {s : State} {m : MethodId} {args : Array Value} {below : List Frame} {meth : Method} {c : Code} (l : Launch) (y : Sy)  (C : Sd p s m args meth c cX9_mildest 3 RX9 (some .int) y) (c5 : Int32 → Int32 → St → Prop) (K : Int32 → St → Prop) (hc5 : ∀ (v1 : Int32) (v2 : Int32) (st : St) (H : Heap) (locs : List Loc) (ls : Array Slot), gH 17 enM y st s H locs → lv_has ls 3 [(0, .ref (ad y 0)), (1, .int v1), (2, .int v2)] → c5 v1 v2 st → W p l e (rmm 2 45) s m args below meth c H locs 0 0 (MQ below (va_Qi K (gB 17 enM y) (gA 17 y)) args s 0 0 (gA 17 y)) (F0 m 5 ls [])) (v2 : Int32) (s0 : Int32) (st : St) {H : Heap} {locs : List Loc} {ls : Array Slot} (hG : gH 17 enM y st s H locs) (hl : lv_has ls 3 [(0, .ref (ad y 0)), (2, .int v2)]) (hw : w_X9_mildest_b35  c5 K v2 s0 st) : W p l e (rmm 2 45) s m args below meth c H locs 0 0 (MQ below (va_Qi K (gB 17 enM y) (gA 17 y)) args s 0 0 (gA 17 y)) (F0 m 35 ls [.int s0]) := by
  obtain ⟨hx, hb, hml, hown, hts, hr, hlk, hK, hN⟩ := id C
  unfold w_X9_mildest_b35 at hw
  refine lv_istore_n (lv' := [(1, .int s0), (0, .ref (ad y 0)), (2, .int v2)]) hx hb dX9_mildest_35 rfl hl (Nat.le_of_ble_eq_true rfl) rfl (fun ls hl => ?_)
  refine lv_iinc (v := (v2 + 1)) (lv' := [(2, .int (v2 + 1)), (1, .int s0), (0, .ref (ad y 0))]) hx hb dX9_mildest_36 hl (k := 2) rfl rfl (Nat.le_of_ble_eq_true rfl) rfl (fun ls hl => ?_)
  refine lv_goto (tgt := 5) hx hb dX9_mildest_39 (by decide) ?_
  exact hc5 s0 (v2 + 1) st H locs _ hG (lv_sub hl [2, 1, 0] rfl) hw
set_option maxRecDepth 100000 in
set_option maxHeartbeats 4000000 in
theorem z_X9_mildest_b30 {p : Program} {e : Env} {s : State} {m : MethodId} {args : Array Value} {below : List Frame} {meth : Method} {c : Code} (l : Launch) (y : Sy)  (C : Sd p s m args meth c cX9_mildest 3 RX9 (some .int) y) (c5 : Int32 → Int32 → St → Prop) (K : Int32 → St → Prop) (hc5 : ∀ (v1 : Int32) (v2 : Int32) (st : St) (H : Heap) (locs : List Loc) (ls : Array Slot), gH 17 enM y st s H locs → lv_has ls 3 [(0, .ref (ad y 0)), (1, .int v1), (2, .int v2)] → c5 v1 v2 st → W p l e (rmm 2 45) s m args below meth c H locs 0 0 (MQ below (va_Qi K (gB 17 enM y) (gA 17 y)) args s 0 0 (gA 17 y)) (F0 m 5 ls [])) (v2 : Int32) (st : St) {H : Heap} {locs : List Loc} {ls : Array Slot} (hG : gH 17 enM y st s H locs) (hl : lv_has ls 3 [(0, .ref (ad y 0)), (2, .int v2)]) (hw : w_X9_mildest_b30  c5 K v2 st) : W p l e (rmm 2 45) s m args below meth c H locs 0 0 (MQ below (va_Qi K (gB 17 enM y) (gA 17 y)) args s 0 0 (gA 17 y)) (F0 m 30 ls []) := by
  obtain ⟨hx, hb, hml, hown, hts, hr, hlk, hK, hN⟩ := id C
  unfold w_X9_mildest_b30 at hw
  refine lv_iload_n hx hb dX9_mildest_30 rfl (lv_at hl 1 rfl) ?_
  refine lv_goto (tgt := 35) hx hb dX9_mildest_31 (by decide) ?_
  exact z_X9_mildest_b35 l y  C c5 K hc5 v2 v2 st hG (lv_sub hl [0, 1] rfl) hw
set_option maxRecDepth 100000 in
set_option maxHeartbeats 4000000 in
theorem z_X9_mildest_L5 {p : Program} {e : Env} {s : State} {m : MethodId} {args : Array Value} {below : List Frame} {meth : Method} {c : Code} (l : Launch) (y : Sy)  (C : Sd p s m args meth c cX9_mildest 3 RX9 (some .int) y)  (K : Int32 → St → Prop)  : ∀ (n : Nat) (v1 : Int32) (v2 : Int32) (st : St) (H : Heap) (locs : List Loc) (ls : Array Slot), gH 17 enM y st s H locs → lv_has ls 3 [(0, .ref (ad y 0)), (1, .int v1), (2, .int v2)] → w_X9_mildest_L5   K n v1 v2 st → W p l e (rmm 2 45) s m args below meth c H locs 0 0 (MQ below (va_Qi K (gB 17 enM y) (gA 17 y)) args s 0 0 (gA 17 y)) (F0 m 5 ls []) := by
  obtain ⟨hx, hb, hml, hown, hts, hr, hlk, hK, hN⟩ := id C
  intro n
  induction n with
  | zero => intro v1 v2 st H locs ls hG hl hw; exact False.elim hw
  | succ n hc5 =>
    intro v1 v2 st H locs ls hG hl hw
    have hw : w_X9_mildest_L5q   K (fun v1 v2 st => w_X9_mildest_L5   K n v1 v2 st) v1 v2 st := hw
    unfold w_X9_mildest_L5q at hw
    refine lv_iload_n hx hb dX9_mildest_5 rfl (lv_at hl 2 rfl) ?_
    refine lv_aload_n hx hb dX9_mildest_6 rfl (lv_at hl 0 rfl) ?_
    refine r_get (C := RX9) (T := TX9) (Nf := 31) hx hb hts hown hK hG (by decide) rfl rfl inX9 8 (by decide) qF_X9_65 rfl dX9_mildest_7 ?_
    refine lv_icmp_ge (tgt := 42) hx hb dX9_mildest_10 (by decide) (fun hc => ?_) (fun hc => ?_)
    · replace hw := hw.1 hc
      refine lv_iload_n hx hb dX9_mildest_42 rfl (lv_at hl 1 rfl) ?_
      exact r_iret hx hb hr hlk hK hG rfl hw dX9_mildest_43
    · replace hw := hw.2 hc
      refine lv_iload_n hx hb dX9_mildest_13 rfl (lv_at hl 1 rfl) ?_
      refine lv_if_lt (tgt := 30) hx hb dX9_mildest_14 (by decide) (fun hc => ?_) (fun hc => ?_)
      · replace hw := hw.1 hc
        exact z_X9_mildest_b30 l y  C (fun v1 v2 st => w_X9_mildest_L5   K n v1 v2 st) K hc5 v2 st hG (lv_sub hl [0, 2] rfl) hw
      · replace hw := hw.2 hc
        refine lv_aload_n hx hb dX9_mildest_17 rfl (lv_at hl 0 rfl) ?_
        refine lv_iload_n hx hb dX9_mildest_18 rfl (lv_at hl 2 rfl) ?_
        refine r_ki (r_run_V (k := 0) (As := [.int v2]) (rest := []) hx hb hml hown hts hK hN hG (c_X9_hatesOf l y v2 st _ hw) (by decide) rfl rfl rfl qM_X9_309 qI_X9_hatesOf qS_X9_hatesOf qN_X9 qC_X9_hatesOf hd_X9_hatesOf ⟨Nat.le_of_ble_eq_true rfl, Nat.le_of_ble_eq_true rfl⟩ hl.1 rfl (Nat.le_of_ble_eq_true rfl) dX9_mildest_19) hG (fun r19 st19 H locs hw hG => ?_)
        refine lv_aload_n hx hb dX9_mildest_22 rfl (lv_at hl 0 rfl) ?_
        refine lv_iload_n hx hb dX9_mildest_23 rfl (lv_at hl 1 rfl) ?_
        refine r_ki (r_run_V (k := 0) (As := [.int v1]) (rest := [.int r19]) hx hb hml hown hts hK hN hG (c_X9_hatesOf l y v1 st19 _ hw) (by decide) rfl rfl rfl qM_X9_309 qI_X9_hatesOf qS_X9_hatesOf qN_X9 qC_X9_hatesOf hd_X9_hatesOf ⟨Nat.le_of_ble_eq_true rfl, Nat.le_of_ble_eq_true rfl⟩ hl.1 rfl (Nat.le_of_ble_eq_true rfl) dX9_mildest_24) hG (fun r24 st24 H locs hw hG => ?_)
        refine lv_icmp_ge (tgt := 34) hx hb dX9_mildest_27 (by decide) (fun hc => ?_) (fun hc => ?_)
        · replace hw := hw.1 hc
          refine lv_iload_n hx hb dX9_mildest_34 rfl (lv_at hl 1 rfl) ?_
          exact z_X9_mildest_b35 l y  C (fun v1 v2 st => w_X9_mildest_L5   K n v1 v2 st) K hc5 v2 v1 st24 hG (lv_sub hl [0, 2] rfl) hw
        · replace hw := hw.2 hc
          exact z_X9_mildest_b30 l y  C (fun v1 v2 st => w_X9_mildest_L5   K n v1 v2 st) K hc5 v2 st24 hG (lv_sub hl [0, 2] rfl) hw
theorem hd_X9_mildest : yX9_mildest.cls ≠ "java/lang/invoke/MethodHandle" ∧ yX9_mildest.cls ≠ "java/lang/invoke/VarHandle" ∧ (parseMethodDescriptor yX9_mildest.desc).map (fun d => d.parameters.length) = some 0 := by decide +kernel
set_option maxRecDepth 100000 in
set_option maxHeartbeats 4000000 in
theorem c_X9_mildest (l : Launch) (y : Sy)  (st : St) (K : Int32 → St → Prop) (hw : w_X9_mildest  st K) : Ci 17 enM l yX9_mildest cX9_mildest 3 (some .int) 2 45 y [.ref (ad y 0)] st K := by
  refine ent (by decide) (Nat.le_of_ble_eq_true rfl) ?_
  intro p e s m below meth c C hG ls hl
  have hl : lv_has ls 3 [(0, .ref (ad y 0))] := hl
  generalize ([.ref (ad y 0)] : List Value).toArray = args at C ⊢
  have C : Sd p s m args meth c cX9_mildest 3 RX9 (some .int) y := C
  obtain ⟨hx, hb, hml, hown, hts, hr, hlk, hK, hN⟩ := id C
  generalize s.heap = H at hG ⊢
  generalize ([] : List Loc) = locs at hG ⊢
  unfold w_X9_mildest at hw
  refine lv_bipush (v := (-9)) hx hb dX9_mildest_0 (by decide) ?_
  refine lv_istore_n (lv' := [(1, .int (-9)), (0, .ref (ad y 0))]) hx hb dX9_mildest_2 rfl hl (Nat.le_of_ble_eq_true rfl) rfl (fun ls hl => ?_)
  refine lv_iconst (v := 0) hx hb dX9_mildest_3 (by decide) ?_
  refine lv_istore_n (lv' := [(2, .int 0), (1, .int (-9)), (0, .ref (ad y 0))]) hx hb dX9_mildest_4 rfl hl (Nat.le_of_ble_eq_true rfl) rfl (fun ls hl => ?_)
  obtain ⟨n5, hw⟩ := hw
  exact z_X9_mildest_L5 l y  C  K  n5 (-9) 0 st H locs _ hG (lv_sub hl [2, 1, 0] rfl) hw
set_option maxRecDepth 100000 in
set_option maxHeartbeats 4000000 in
theorem z_X9_bare_b51 {p : Program} {e : Env} {s : State} {m : MethodId} {args : Array Value} {below : List Frame} {meth : Method} {c : Code} (l : Launch) (y : Sy)  (C : Sd p s m args meth c cX9_bare 3 RX9 (some .int) y) (c4 : Int32 → Int32 → St → Prop) (K : Int32 → St → Prop) (hc4 : ∀ (v1 : Int32) (v2 : Int32) (st : St) (H : Heap) (locs : List Loc) (ls : Array Slot), gH 17 enM y st s H locs → lv_has ls 3 [(0, .ref (ad y 0)), (1, .int v1), (2, .int v2)] → c4 v1 v2 st → W p l e (rmm 1 23) s m args below meth c H locs 0 0 (MQ below (va_Qi K (gB 17 enM y) (gA 17 y)) args s 0 0 (gA 17 y)) (F0 m 4 ls [])) (v2 : Int32) (s0 : Int32) (s1 : Int32) (st : St) {H : Heap} {locs : List Loc} {ls : Array Slot} (hG : gH 17 enM y st s H locs) (hl : lv_has ls 3 [(0, .ref (ad y 0)), (2, .int v2)]) (hw : w_X9_bare_b51  c4 K v2 s0 s1 st) : W p l e (rmm 1 23) s m args below meth c H locs 0 0 (MQ below (va_Qi K (gB 17 enM y) (gA 17 y)) args s 0 0 (gA 17 y)) (F0 m 51 ls [.int s0, .int s1]) := by
  obtain ⟨hx, hb, hml, hown, hts, hr, hlk, hK, hN⟩ := id C
  unfold w_X9_bare_b51 at hw
  refine lv_ior hx hb dX9_bare_51 ?_
  refine lv_istore_n (lv' := [(1, .int (s1 ||| s0)), (0, .ref (ad y 0)), (2, .int v2)]) hx hb dX9_bare_52 rfl hl (Nat.le_of_ble_eq_true rfl) rfl (fun ls hl => ?_)
  refine lv_iinc (v := (v2 + 1)) (lv' := [(2, .int (v2 + 1)), (1, .int (s1 ||| s0)), (0, .ref (ad y 0))]) hx hb dX9_bare_53 hl (k := 2) rfl rfl (Nat.le_of_ble_eq_true rfl) rfl (fun ls hl => ?_)
  refine lv_goto (tgt := 4) hx hb dX9_bare_56 (by decide) ?_
  exact hc4 (s1 ||| s0) (v2 + 1) st H locs _ hG (lv_sub hl [2, 1, 0] rfl) hw
set_option maxRecDepth 100000 in
set_option maxHeartbeats 4000000 in
theorem z_X9_bare_b50 {p : Program} {e : Env} {s : State} {m : MethodId} {args : Array Value} {below : List Frame} {meth : Method} {c : Code} (l : Launch) (y : Sy)  (C : Sd p s m args meth c cX9_bare 3 RX9 (some .int) y) (c4 : Int32 → Int32 → St → Prop) (K : Int32 → St → Prop) (hc4 : ∀ (v1 : Int32) (v2 : Int32) (st : St) (H : Heap) (locs : List Loc) (ls : Array Slot), gH 17 enM y st s H locs → lv_has ls 3 [(0, .ref (ad y 0)), (1, .int v1), (2, .int v2)] → c4 v1 v2 st → W p l e (rmm 1 23) s m args below meth c H locs 0 0 (MQ below (va_Qi K (gB 17 enM y) (gA 17 y)) args s 0 0 (gA 17 y)) (F0 m 4 ls [])) (v2 : Int32) (s0 : Int32) (st : St) {H : Heap} {locs : List Loc} {ls : Array Slot} (hG : gH 17 enM y st s H locs) (hl : lv_has ls 3 [(0, .ref (ad y 0)), (2, .int v2)]) (hw : w_X9_bare_b50  c4 K v2 s0 st) : W p l e (rmm 1 23) s m args below meth c H locs 0 0 (MQ below (va_Qi K (gB 17 enM y) (gA 17 y)) args s 0 0 (gA 17 y)) (F0 m 50 ls [.int s0]) := by
  obtain ⟨hx, hb, hml, hown, hts, hr, hlk, hK, hN⟩ := id C
  unfold w_X9_bare_b50 at hw
  refine lv_iconst (v := 0) hx hb dX9_bare_50 (by decide) ?_
  exact z_X9_bare_b51 l y  C c4 K hc4 v2 0 s0 st hG (lv_sub hl [0, 1] rfl) hw
set_option maxRecDepth 100000 in
set_option maxHeartbeats 4000000 in
theorem z_X9_bare_L4 {p : Program} {e : Env} {s : State} {m : MethodId} {args : Array Value} {below : List Frame} {meth : Method} {c : Code} (l : Launch) (y : Sy)  (C : Sd p s m args meth c cX9_bare 3 RX9 (some .int) y)  (K : Int32 → St → Prop)  : ∀ (n : Nat) (v1 : Int32) (v2 : Int32) (st : St) (H : Heap) (locs : List Loc) (ls : Array Slot), gH 17 enM y st s H locs → lv_has ls 3 [(0, .ref (ad y 0)), (1, .int v1), (2, .int v2)] → w_X9_bare_L4   K n v1 v2 st → W p l e (rmm 1 23) s m args below meth c H locs 0 0 (MQ below (va_Qi K (gB 17 enM y) (gA 17 y)) args s 0 0 (gA 17 y)) (F0 m 4 ls []) := by
  obtain ⟨hx, hb, hml, hown, hts, hr, hlk, hK, hN⟩ := id C
  intro n
  induction n with
  | zero => intro v1 v2 st H locs ls hG hl hw; exact False.elim hw
  | succ n hc4 =>
    intro v1 v2 st H locs ls hG hl hw
    have hw : w_X9_bare_L4q   K (fun v1 v2 st => w_X9_bare_L4   K n v1 v2 st) v1 v2 st := hw
    unfold w_X9_bare_L4q at hw
    refine lv_iload_n hx hb dX9_bare_4 rfl (lv_at hl 2 rfl) ?_
    refine lv_aload_n hx hb dX9_bare_5 rfl (lv_at hl 0 rfl) ?_
    refine r_get (C := RX9) (T := TX9) (Nf := 31) hx hb hts hown hK hG (by decide) rfl rfl inX9 9 (by decide) qF_X9_58 rfl dX9_bare_6 ?_
    refine lv_icmp_ge (tgt := 59) hx hb dX9_bare_9 (by decide) (fun hc => ?_) (fun hc => ?_)
    · replace hw := hw.1 hc
      refine lv_iload_n hx hb dX9_bare_59 rfl (lv_at hl 1 rfl) ?_
      exact r_iret hx hb hr hlk hK hG rfl hw dX9_bare_60
    · replace hw := hw.2 hc
      refine lv_iload_n hx hb dX9_bare_12 rfl (lv_at hl 1 rfl) ?_
      refine lv_aload_n hx hb dX9_bare_13 rfl (lv_at hl 0 rfl) ?_
      refine r_get (C := RX9) (T := TX9) (Nf := 31) hx hb hts hown hK hG (by decide) rfl rfl inX9 7 (by decide) qF_X9_31 rfl dX9_bare_14 ?_
      refine lv_iload_n hx hb dX9_bare_17 rfl (lv_at hl 2 rfl) ?_
      obtain ⟨hi, hw⟩ := hw
      refine r_iald hx hb hK hG (isB_8).1 ((isB_8).2 y _) hi dX9_bare_18 ?_
      refine lv_if_ne (tgt := 50) hx hb dX9_bare_19 (by decide) (fun hc => ?_) (fun hc => ?_)
      · replace hw := hw.1 hc
        exact z_X9_bare_b50 l y  C (fun v1 v2 st => w_X9_bare_L4   K n v1 v2 st) K hc4 v2 v1 st hG (lv_sub hl [0, 2] rfl) hw
      · replace hw := hw.2 hc
        refine lv_aload_n hx hb dX9_bare_22 rfl (lv_at hl 0 rfl) ?_
        refine lv_aload_n hx hb dX9_bare_23 rfl (lv_at hl 0 rfl) ?_
        refine r_get (C := RX9) (T := TX9) (Nf := 31) hx hb hts hown hK hG (by decide) rfl rfl inX9 6 (by decide) qF_X9_28 rfl dX9_bare_24 ?_
        refine lv_iload_n hx hb dX9_bare_27 rfl (lv_at hl 2 rfl) ?_
        obtain ⟨hi, hw⟩ := hw
        refine r_iald hx hb hK hG (isB_7).1 ((isB_7).2 y _) hi dX9_bare_28 ?_
        refine r_ki (r_run_V (k := 0) (As := [.int (st 7 (v2).toNatClampNeg)]) (rest := [.int v1]) hx hb hml hown hts hK hN hG (c_X9_keepersIn l y (st 7 (v2).toNatClampNeg) st _ hw) (by decide) rfl rfl rfl qM_X9_262 qI_X9_keepersIn qS_X9_keepersIn qN_X9 qC_X9_keepersIn hd_X9_keepersIn ⟨Nat.le_of_ble_eq_true rfl, Nat.le_of_ble_eq_true rfl⟩ hl.1 rfl (Nat.le_of_ble_eq_true rfl) dX9_bare_29) hG (fun r29 st29 H locs hw hG => ?_)
        refine r_ki (r_run_S (As := [.int r29]) (rest := [.int v1]) hx hb hml hown hts hK hN hG (c_X9_bits l y r29 st29 _ hw) qM_X9_214 qT_X9_bits qN_X9 qC_X9_bits hd_X9_bits ⟨Nat.le_of_ble_eq_true rfl, Nat.le_of_ble_eq_true rfl⟩ hl.1 rfl (Nat.le_of_ble_eq_true rfl) dX9_bare_32) hG (fun r32 st32 H locs hw hG => ?_)
        refine lv_iconst (v := 2) hx hb dX9_bare_35 (by decide) ?_
        refine lv_icmp_ge (tgt := 50) hx hb dX9_bare_36 (by decide) (fun hc => ?_) (fun hc => ?_)
        · replace hw := hw.1 hc
          exact z_X9_bare_b50 l y  C (fun v1 v2 st => w_X9_bare_L4   K n v1 v2 st) K hc4 v2 v1 st32 hG (lv_sub hl [0, 2] rfl) hw
        · replace hw := hw.2 hc
          refine lv_iconst (v := 1) hx hb dX9_bare_39 (by decide) ?_
          refine lv_aload_n hx hb dX9_bare_40 rfl (lv_at hl 0 rfl) ?_
          refine r_get (C := RX9) (T := TX9) (Nf := 31) hx hb hts hown hK hG (by decide) rfl rfl inX9 6 (by decide) qF_X9_28 rfl dX9_bare_41 ?_
          refine lv_iload_n hx hb dX9_bare_44 rfl (lv_at hl 2 rfl) ?_
          obtain ⟨hi, hw⟩ := hw
          refine r_iald hx hb hK hG (isB_7).1 ((isB_7).2 y _) hi dX9_bare_45 ?_
          refine lv_ishl hx hb dX9_bare_46 ?_
          refine lv_goto (tgt := 51) hx hb dX9_bare_47 (by decide) ?_
          exact z_X9_bare_b51 l y  C (fun v1 v2 st => w_X9_bare_L4   K n v1 v2 st) K hc4 v2 ((1 : Int32) <<< ((st32 7 (v2).toNatClampNeg) &&& 31)) v1 st32 hG (lv_sub hl [0, 2] rfl) hw
theorem hd_X9_bare : yX9_bare.cls ≠ "java/lang/invoke/MethodHandle" ∧ yX9_bare.cls ≠ "java/lang/invoke/VarHandle" ∧ (parseMethodDescriptor yX9_bare.desc).map (fun d => d.parameters.length) = some 0 := by decide +kernel
set_option maxRecDepth 100000 in
set_option maxHeartbeats 4000000 in
theorem c_X9_bare (l : Launch) (y : Sy)  (st : St) (K : Int32 → St → Prop) (hw : w_X9_bare  st K) : Ci 17 enM l yX9_bare cX9_bare 3 (some .int) 1 23 y [.ref (ad y 0)] st K := by
  refine ent (by decide) (Nat.le_of_ble_eq_true rfl) ?_
  intro p e s m below meth c C hG ls hl
  have hl : lv_has ls 3 [(0, .ref (ad y 0))] := hl
  generalize ([.ref (ad y 0)] : List Value).toArray = args at C ⊢
  have C : Sd p s m args meth c cX9_bare 3 RX9 (some .int) y := C
  obtain ⟨hx, hb, hml, hown, hts, hr, hlk, hK, hN⟩ := id C
  generalize s.heap = H at hG ⊢
  generalize ([] : List Loc) = locs at hG ⊢
  unfold w_X9_bare at hw
  refine lv_iconst (v := 0) hx hb dX9_bare_0 (by decide) ?_
  refine lv_istore_n (lv' := [(1, .int 0), (0, .ref (ad y 0))]) hx hb dX9_bare_1 rfl hl (Nat.le_of_ble_eq_true rfl) rfl (fun ls hl => ?_)
  refine lv_iconst (v := 0) hx hb dX9_bare_2 (by decide) ?_
  refine lv_istore_n (lv' := [(2, .int 0), (1, .int 0), (0, .ref (ad y 0))]) hx hb dX9_bare_3 rfl hl (Nat.le_of_ble_eq_true rfl) rfl (fun ls hl => ?_)
  obtain ⟨n4, hw⟩ := hw
  exact z_X9_bare_L4 l y  C  K  n4 0 0 st H locs _ hG (lv_sub hl [2, 1, 0] rfl) hw
theorem hd_X9_mean : yX9_mean.cls ≠ "java/lang/invoke/MethodHandle" ∧ yX9_mean.cls ≠ "java/lang/invoke/VarHandle" ∧ (parseMethodDescriptor yX9_mean.desc).map (fun d => d.parameters.length) = some 1 := by decide +kernel
set_option maxRecDepth 100000 in
set_option maxHeartbeats 4000000 in
theorem c_X9_mean (l : Launch) (y : Sy) (x1 : Int32) (st : St) (K : Int64 → St → Prop) (hw : w_X9_mean x1 st K) : Cl 17 enM l yX9_mean cX9_mean 2 (some .long) 2 53 y [.ref (ad y 0), .int x1] st K := by
  refine ent (by decide) (Nat.le_of_ble_eq_true rfl) ?_
  intro p e s m below meth c C hG ls hl
  have hl : lv_has ls 2 [(0, .ref (ad y 0)), (1, .int x1)] := hl
  generalize ([.ref (ad y 0), .int x1] : List Value).toArray = args at C ⊢
  have C : Sd p s m args meth c cX9_mean 2 RX9 (some .long) y := C
  obtain ⟨hx, hb, hml, hown, hts, hr, hlk, hK, hN⟩ := id C
  generalize s.heap = H at hG ⊢
  generalize ([] : List Loc) = locs at hG ⊢
  unfold w_X9_mean at hw
  refine lv_iload_n hx hb dX9_mean_0 rfl (lv_at hl 1 rfl) ?_
  refine lv_iconst (v := 0) hx hb dX9_mean_1 (by decide) ?_
  refine lv_iconst (v := 1) hx hb dX9_mean_2 (by decide) ?_
  refine r_ki (r_run_S (As := [.int x1, .int 0, .int 1]) (rest := []) hx hb hml hown hts hK hN hG (c_X9_isIn l y x1 0 1 st _ hw) qM_X9_90 qT_X9_isIn qN_X9 qC_X9_isIn hd_X9_isIn ⟨Nat.le_of_ble_eq_true rfl, Nat.le_of_ble_eq_true rfl⟩ hl.1 rfl (Nat.le_of_ble_eq_true rfl) dX9_mean_3) hG (fun r3 st3 H locs hw hG => ?_)
  refine lv_if_ne (tgt := 16) hx hb dX9_mean_6 (by decide) (fun hc => ?_) (fun hc => ?_)
  · replace hw := hw.1 hc
    refine lv_aload_n hx hb dX9_mean_16 rfl (lv_at hl 0 rfl) ?_
    refine r_get (C := RX9) (T := TX9) (Nf := 31) hx hb hts hown hK hG (by decide) rfl rfl inX9 8 (by decide) qF_X9_65 rfl dX9_mean_17 ?_
    refine lv_iconst (v := 2) hx hb dX9_mean_20 (by decide) ?_
    refine lv_icmp_ge (tgt := 29) hx hb dX9_mean_21 (by decide) (fun hc => ?_) (fun hc => ?_)
    · replace hw := hw.1 hc
      refine lv_aload_n hx hb dX9_mean_29 rfl (lv_at hl 0 rfl) ?_
      refine r_ki (r_run_V (k := 0) (As := []) (rest := []) hx hb hml hown hts hK hN hG (c_X9_allHate l y  st3 _ hw) (by decide) rfl rfl rfl qM_X9_232 qI_X9_allHate qS_X9_allHate qN_X9 qC_X9_allHate hd_X9_allHate ⟨Nat.le_of_ble_eq_true rfl, Nat.le_of_ble_eq_true rfl⟩ hl.1 rfl (Nat.le_of_ble_eq_true rfl) dX9_mean_30) hG (fun r30 st30 H locs hw hG => ?_)
      refine lv_i2l (v := (r30).toInt64) hx hb dX9_mean_33 rfl ?_
      refine lv_aload_n hx hb dX9_mean_34 rfl (lv_at hl 0 rfl) ?_
      refine r_get (C := RX9) (T := TX9) (Nf := 31) hx hb hts hown hK hG (by decide) rfl rfl inX9 8 (by decide) qF_X9_65 rfl dX9_mean_35 ?_
      refine lv_aload_n hx hb dX9_mean_38 rfl (lv_at hl 0 rfl) ?_
      refine r_get (C := RX9) (T := TX9) (Nf := 31) hx hb hts hown hK hG (by decide) rfl rfl inX9 8 (by decide) qF_X9_65 rfl dX9_mean_39 ?_
      refine lv_iconst (v := 1) hx hb dX9_mean_42 (by decide) ?_
      refine lv_isub hx hb dX9_mean_43 ?_
      refine lv_imul hx hb dX9_mean_44 ?_
      refine lv_iconst (v := 2) hx hb dX9_mean_45 (by decide) ?_
      refine lv_idiv hx hb dX9_mean_46 (by decide) ?_
      refine lv_i2l (v := ((((st30 0 8) * ((st30 0 8) - 1)) / 2)).toInt64) hx hb dX9_mean_47 rfl ?_
      refine lv_iload_n hx hb dX9_mean_48 rfl (lv_at hl 1 rfl) ?_
      refine r_kl (r_run_S (As := [.long ((r30).toInt64), .long (((((st30 0 8) * ((st30 0 8) - 1)) / 2)).toInt64), .int x1]) (rest := []) hx hb hml hown hts hK hN hG (c_X9_partOf l y ((r30).toInt64) (((((st30 0 8) * ((st30 0 8) - 1)) / 2)).toInt64) x1 st30 _ hw) qM_X9_297 qT_X9_partOf qN_X9 qC_X9_partOf hd_X9_partOf ⟨Nat.le_of_ble_eq_true rfl, Nat.le_of_ble_eq_true rfl⟩ hl.1 rfl (Nat.le_of_ble_eq_true rfl) dX9_mean_49) hG (fun r49 st49 H locs hw hG => ?_)
      exact r_lret hx hb hr hlk hK hG hw dX9_mean_52
    · replace hw := hw.2 hc
      refine lv_iload_n hx hb dX9_mean_24 rfl (lv_at hl 1 rfl) ?_
      refine lv_i2l (v := (x1).toInt64) hx hb dX9_mean_25 rfl ?_
      refine lv_goto (tgt := 52) hx hb dX9_mean_26 (by decide) ?_
      exact r_lret hx hb hr hlk hK hG hw dX9_mean_52
  · replace hw := hw.2 hc
    refine lv_aload_n hx hb dX9_mean_9 rfl (lv_at hl 0 rfl) ?_
    refine lv_bipush (v := (-2)) hx hb dX9_mean_10 (by decide) ?_
    refine r_kl (r_run_V (k := 0) (As := [.int (-2)]) (rest := []) hx hb hml hown hts hK hN hG (c_X9_lowestOf l y (-2) st3 _ hw) (by decide) rfl rfl rfl qM_X9_285 qI_X9_lowestOf qS_X9_lowestOf qN_X9 qC_X9_lowestOf hd_X9_lowestOf ⟨Nat.le_of_ble_eq_true rfl, Nat.le_of_ble_eq_true rfl⟩ hl.1 rfl (Nat.le_of_ble_eq_true rfl) dX9_mean_12) hG (fun r12 st12 H locs hw hG => ?_)
    exact r_lret hx hb hr hlk hK hG hw dX9_mean_15
set_option maxRecDepth 100000 in
set_option maxHeartbeats 4000000 in
theorem z_X9_used_b17 {p : Program} {e : Env} {s : State} {m : MethodId} {args : Array Value} {below : List Frame} {meth : Method} {c : Code} (l : Launch) (y : Sy) (x1 : Int32) (x2 : Int32) (x3 : Int32) (C : Sd p s m args meth c cX9_used 5 RX9 (some .int) y)  (K : Int32 → St → Prop)  (s0 : Int32) (st : St) {H : Heap} {locs : List Loc} {ls : Array Slot} (hG : gH 17 enM y st s H locs) (hl : lv_has ls 5 [(0, .ref (ad y 0)), (1, .int x1), (2, .int x2), (3, .int x3)]) (hw : w_X9_used_b17 x1 x2 x3  K s0 st) : W p l e (rmm 6 139) s m args below meth c H locs 0 0 (MQ below (va_Qi K (gB 17 enM y) (gA 17 y)) args s 0 0 (gA 17 y)) (F0 m 17 ls [.int s0]) := by
  obtain ⟨hx, hb, hml, hown, hts, hr, hlk, hK, hN⟩ := id C
  unfold w_X9_used_b17 at hw
  refine lv_istore (lv' := [(4, .int s0), (0, .ref (ad y 0)), (1, .int x1), (2, .int x2), (3, .int x3)]) hx hb dX9_used_17 hl (Nat.le_of_ble_eq_true rfl) rfl (fun ls hl => ?_)
  refine lv_iload hx hb dX9_used_19 (lv_at hl 0 rfl) ?_
  refine lv_if_eq (tgt := 33) hx hb dX9_used_21 (by decide) (fun hc => ?_) (fun hc => ?_)
  · replace hw := hw.1 hc
    refine lv_aload_n hx hb dX9_used_33 rfl (lv_at hl 1 rfl) ?_
    refine lv_iload_n hx hb dX9_used_34 rfl (lv_at hl 2 rfl) ?_
    refine lv_iload_n hx hb dX9_used_35 rfl (lv_at hl 3 rfl) ?_
    refine r_ki (r_run_V (k := 0) (As := [.int x1, .int x2]) (rest := []) hx hb hml hown hts hK hN hG (c_X9_hateOf l y x1 x2 st _ hw) (by decide) rfl rfl rfl qM_X9_180 qI_X9_hateOf qS_X9_hateOf qN_X9 qC_X9_hateOf hd_X9_hateOf ⟨Nat.le_of_ble_eq_true rfl, Nat.le_of_ble_eq_true rfl⟩ hl.1 rfl (Nat.le_of_ble_eq_true rfl) dX9_used_36) hG (fun r36 st36 H locs hw hG => ?_)
    refine lv_aload_n hx hb dX9_used_39 rfl (lv_at hl 1 rfl) ?_
    refine lv_iload_n hx hb dX9_used_40 rfl (lv_at hl 2 rfl) ?_
    refine lv_iload_n hx hb dX9_used_41 rfl (lv_at hl 3 rfl) ?_
    refine lv_iload_n hx hb dX9_used_42 rfl (lv_at hl 4 rfl) ?_
    refine r_ki (r_run_V (k := 0) (As := [.int x1, .int x2, .int x3]) (rest := [.int r36]) hx hb hml hown hts hK hN hG (c_X9_hateIn l y x1 x2 x3 st36 _ hw) (by decide) rfl rfl rfl qM_X9_226 qI_X9_hateIn qS_X9_hateIn qN_X9 qC_X9_hateIn hd_X9_hateIn ⟨Nat.le_of_ble_eq_true rfl, Nat.le_of_ble_eq_true rfl⟩ hl.1 rfl (Nat.le_of_ble_eq_true rfl) dX9_used_43) hG (fun r43 st43 H locs hw hG => ?_)
    refine lv_isub hx hb dX9_used_46 ?_
    exact r_iret hx hb hr hlk hK hG rfl hw dX9_used_47
  · replace hw := hw.2 hc
    refine lv_aload_n hx hb dX9_used_24 rfl (lv_at hl 1 rfl) ?_
    refine lv_iload hx hb dX9_used_25 (lv_at hl 0 rfl) ?_
    refine r_ki (r_run_V (k := 0) (As := [.int s0]) (rest := []) hx hb hml hown hts hK hN hG (c_X9_lower l y s0 st _ hw) (by decide) rfl rfl rfl qM_X9_312 qI_X9_lower qS_X9_lower qN_X9 qC_X9_lower hd_X9_lower ⟨Nat.le_of_ble_eq_true rfl, Nat.le_of_ble_eq_true rfl⟩ hl.1 rfl (Nat.le_of_ble_eq_true rfl) dX9_used_27) hG (fun r27 st27 H locs hw hG => ?_)
    refine lv_goto (tgt := 47) hx hb dX9_used_30 (by decide) ?_
    exact r_iret hx hb hr hlk hK hG rfl hw dX9_used_47
theorem hd_X9_used : yX9_used.cls ≠ "java/lang/invoke/MethodHandle" ∧ yX9_used.cls ≠ "java/lang/invoke/VarHandle" ∧ (parseMethodDescriptor yX9_used.desc).map (fun d => d.parameters.length) = some 3 := by decide +kernel
set_option maxRecDepth 100000 in
set_option maxHeartbeats 4000000 in
theorem c_X9_used (l : Launch) (y : Sy) (x1 : Int32) (x2 : Int32) (x3 : Int32) (st : St) (K : Int32 → St → Prop) (hw : w_X9_used x1 x2 x3 st K) : Ci 17 enM l yX9_used cX9_used 5 (some .int) 6 139 y [.ref (ad y 0), .int x1, .int x2, .int x3] st K := by
  refine ent (by decide) (Nat.le_of_ble_eq_true rfl) ?_
  intro p e s m below meth c C hG ls hl
  have hl : lv_has ls 5 [(0, .ref (ad y 0)), (1, .int x1), (2, .int x2), (3, .int x3)] := hl
  generalize ([.ref (ad y 0), .int x1, .int x2, .int x3] : List Value).toArray = args at C ⊢
  have C : Sd p s m args meth c cX9_used 5 RX9 (some .int) y := C
  obtain ⟨hx, hb, hml, hown, hts, hr, hlk, hK, hN⟩ := id C
  generalize s.heap = H at hG ⊢
  generalize ([] : List Loc) = locs at hG ⊢
  unfold w_X9_used at hw
  refine lv_aload_n hx hb dX9_used_0 rfl (lv_at hl 0 rfl) ?_
  refine lv_iload_n hx hb dX9_used_1 rfl (lv_at hl 1 rfl) ?_
  refine lv_iload_n hx hb dX9_used_2 rfl (lv_at hl 2 rfl) ?_
  refine r_ki (r_run_V (k := 0) (As := [.int x1, .int x2]) (rest := []) hx hb hml hown hts hK hN hG (c_X9_areTwo l y x1 x2 st _ hw) (by decide) rfl rfl rfl qM_X9_125 qI_X9_areTwo qS_X9_areTwo qN_X9 qC_X9_areTwo hd_X9_areTwo ⟨Nat.le_of_ble_eq_true rfl, Nat.le_of_ble_eq_true rfl⟩ hl.1 rfl (Nat.le_of_ble_eq_true rfl) dX9_used_3) hG (fun r3 st3 H locs hw hG => ?_)
  refine lv_if_ne (tgt := 13) hx hb dX9_used_6 (by decide) (fun hc => ?_) (fun hc => ?_)
  · replace hw := hw.1 hc
    refine lv_iload_n hx hb dX9_used_13 rfl (lv_at hl 3 rfl) ?_
    refine r_ki (r_run_S (As := [.int x3]) (rest := []) hx hb hml hown hts hK hN hG (c_X9_notWeeks l y x3 st3 _ hw) qM_X9_223 qT_X9_notWeeks qN_X9 qC_X9_notWeeks hd_X9_notWeeks ⟨Nat.le_of_ble_eq_true rfl, Nat.le_of_ble_eq_true rfl⟩ hl.1 rfl (Nat.le_of_ble_eq_true rfl) dX9_used_14) hG (fun r14 st14 H locs hw hG => ?_)
    exact z_X9_used_b17 l y x1 x2 x3 C  K  r14 st14 hG (lv_sub hl [0, 1, 2, 3] rfl) hw
  · replace hw := hw.2 hc
    refine lv_iconst (v := (-1)) hx hb dX9_used_9 (by decide) ?_
    refine lv_goto (tgt := 17) hx hb dX9_used_10 (by decide) ?_
    exact z_X9_used_b17 l y x1 x2 x3 C  K  (-1) st3 hG (lv_sub hl [0, 1, 2, 3] rfl) hw
theorem hd_X9_manySwapped : yX9_manySwapped.cls ≠ "java/lang/invoke/MethodHandle" ∧ yX9_manySwapped.cls ≠ "java/lang/invoke/VarHandle" ∧ (parseMethodDescriptor yX9_manySwapped.desc).map (fun d => d.parameters.length) = some 3 := by decide +kernel
set_option maxRecDepth 100000 in
set_option maxHeartbeats 4000000 in
theorem c_X9_manySwapped (l : Launch) (y : Sy) (x1 : Int32) (x2 : Int32) (x3 : Int32) (st : St) (K : Int32 → St → Prop) (hw : w_X9_manySwapped x1 x2 x3 st K) : Ci 17 enM l yX9_manySwapped cX9_manySwapped 6 (some .int) 6 137 y [.ref (ad y 0), .int x1, .int x2, .int x3] st K := by
  refine ent (by decide) (Nat.le_of_ble_eq_true rfl) ?_
  intro p e s m below meth c C hG ls hl
  have hl : lv_has ls 6 [(0, .ref (ad y 0)), (1, .int x1), (2, .int x2), (3, .int x3)] := hl
  generalize ([.ref (ad y 0), .int x1, .int x2, .int x3] : List Value).toArray = args at C ⊢
  have C : Sd p s m args meth c cX9_manySwapped 6 RX9 (some .int) y := C
  obtain ⟨hx, hb, hml, hown, hts, hr, hlk, hK, hN⟩ := id C
  generalize s.heap = H at hG ⊢
  generalize ([] : List Loc) = locs at hG ⊢
  unfold w_X9_manySwapped at hw
  refine lv_aload_n hx hb dX9_manySwapped_0 rfl (lv_at hl 0 rfl) ?_
  refine r_get (C := RX9) (T := TX9) (Nf := 31) hx hb hts hown hK hG (by decide) rfl rfl inX9 3 (by decide) qF_X9_19 rfl dX9_manySwapped_1 ?_
  refine lv_iload_n hx hb dX9_manySwapped_4 rfl (lv_at hl 1 rfl) ?_
  obtain ⟨hi, hw⟩ := hw
  refine r_iald hx hb hK hG (isB_4).1 ((isB_4).2 y _) hi dX9_manySwapped_5 ?_
  refine lv_istore (lv' := [(4, .int (st 4 (x1).toNatClampNeg)), (0, .ref (ad y 0)), (1, .int x1), (2, .int x2), (3, .int x3)]) hx hb dX9_manySwapped_6 hl (Nat.le_of_ble_eq_true rfl) rfl (fun ls hl => ?_)
  refine lv_aload_n hx hb dX9_manySwapped_8 rfl (lv_at hl 1 rfl) ?_
  refine r_get (C := RX9) (T := TX9) (Nf := 31) hx hb hts hown hK hG (by decide) rfl rfl inX9 3 (by decide) qF_X9_19 rfl dX9_manySwapped_9 ?_
  refine lv_iload_n hx hb dX9_manySwapped_12 rfl (lv_at hl 2 rfl) ?_
  refine lv_aload_n hx hb dX9_manySwapped_13 rfl (lv_at hl 1 rfl) ?_
  refine r_get (C := RX9) (T := TX9) (Nf := 31) hx hb hts hown hK hG (by decide) rfl rfl inX9 3 (by decide) qF_X9_19 rfl dX9_manySwapped_14 ?_
  refine lv_iload_n hx hb dX9_manySwapped_17 rfl (lv_at hl 3 rfl) ?_
  obtain ⟨hi, hw⟩ := hw
  refine r_iald hx hb hK hG (isB_4).1 ((isB_4).2 y _) hi dX9_manySwapped_18 ?_
  obtain ⟨hi, hw⟩ := hw
  refine r_iast hx hb hK hG (isB_4).1 (fun f => (isB_4).2 y f) hi dX9_manySwapped_19 (fun H locs hG => ?_)
  refine lv_aload_n hx hb dX9_manySwapped_20 rfl (lv_at hl 1 rfl) ?_
  refine r_get (C := RX9) (T := TX9) (Nf := 31) hx hb hts hown hK hG (by decide) rfl rfl inX9 3 (by decide) qF_X9_19 rfl dX9_manySwapped_21 ?_
  refine lv_iload_n hx hb dX9_manySwapped_24 rfl (lv_at hl 3 rfl) ?_
  refine lv_iload hx hb dX9_manySwapped_25 (lv_at hl 0 rfl) ?_
  obtain ⟨hi, hw⟩ := hw
  refine r_iast hx hb hK hG (isB_4).1 (fun f => (isB_4).2 y f) hi dX9_manySwapped_27 (fun H locs hG => ?_)
  refine lv_aload_n hx hb dX9_manySwapped_28 rfl (lv_at hl 1 rfl) ?_
  refine lv_iload_n hx hb dX9_manySwapped_29 rfl (lv_at hl 4 rfl) ?_
  refine r_ki (r_run_V (k := 0) (As := [.int x3]) (rest := []) hx hb hml hown hts hK hN hG (c_X9_openIn l y x3 (u2 (u2 st 4 (x1).toNatClampNeg (st 4 (x2).toNatClampNeg)) 4 (x2).toNatClampNeg (st 4 (x1).toNatClampNeg)) _ hw) (by decide) rfl rfl rfl qM_X9_229 qI_X9_openIn qS_X9_openIn qN_X9 qC_X9_openIn hd_X9_openIn ⟨Nat.le_of_ble_eq_true rfl, Nat.le_of_ble_eq_true rfl⟩ hl.1 rfl (Nat.le_of_ble_eq_true rfl) dX9_manySwapped_30) hG (fun r30 st30 H locs hw hG => ?_)
  refine r_ki (r_run_S (As := [.int r30]) (rest := []) hx hb hml hown hts hK hN hG (c_X9_bits l y r30 st30 _ hw) qM_X9_214 qT_X9_bits qN_X9 qC_X9_bits hd_X9_bits ⟨Nat.le_of_ble_eq_true rfl, Nat.le_of_ble_eq_true rfl⟩ hl.1 rfl (Nat.le_of_ble_eq_true rfl) dX9_manySwapped_33) hG (fun r33 st33 H locs hw hG => ?_)
  refine lv_istore (lv' := [(5, .int r33), (4, .int (st 4 (x1).toNatClampNeg)), (0, .ref (ad y 0)), (1, .int x1), (2, .int x2), (3, .int x3)]) hx hb dX9_manySwapped_36 hl (Nat.le_of_ble_eq_true rfl) rfl (fun ls hl => ?_)
  refine lv_aload_n hx hb dX9_manySwapped_38 rfl (lv_at hl 2 rfl) ?_
  refine r_get (C := RX9) (T := TX9) (Nf := 31) hx hb hts hown hK hG (by decide) rfl rfl inX9 3 (by decide) qF_X9_19 rfl dX9_manySwapped_39 ?_
  refine lv_iload_n hx hb dX9_manySwapped_42 rfl (lv_at hl 4 rfl) ?_
  refine lv_aload_n hx hb dX9_manySwapped_43 rfl (lv_at hl 2 rfl) ?_
  refine r_get (C := RX9) (T := TX9) (Nf := 31) hx hb hts hown hK hG (by decide) rfl rfl inX9 3 (by decide) qF_X9_19 rfl dX9_manySwapped_44 ?_
  refine lv_iload_n hx hb dX9_manySwapped_47 rfl (lv_at hl 3 rfl) ?_
  obtain ⟨hi, hw⟩ := hw
  refine r_iald hx hb hK hG (isB_4).1 ((isB_4).2 y _) hi dX9_manySwapped_48 ?_
  obtain ⟨hi, hw⟩ := hw
  refine r_iast hx hb hK hG (isB_4).1 (fun f => (isB_4).2 y f) hi dX9_manySwapped_49 (fun H locs hG => ?_)
  refine lv_aload_n hx hb dX9_manySwapped_50 rfl (lv_at hl 2 rfl) ?_
  refine r_get (C := RX9) (T := TX9) (Nf := 31) hx hb hts hown hK hG (by decide) rfl rfl inX9 3 (by decide) qF_X9_19 rfl dX9_manySwapped_51 ?_
  refine lv_iload_n hx hb dX9_manySwapped_54 rfl (lv_at hl 3 rfl) ?_
  refine lv_iload hx hb dX9_manySwapped_55 (lv_at hl 1 rfl) ?_
  obtain ⟨hi, hw⟩ := hw
  refine r_iast hx hb hK hG (isB_4).1 (fun f => (isB_4).2 y f) hi dX9_manySwapped_57 (fun H locs hG => ?_)
  refine lv_iload hx hb dX9_manySwapped_58 (lv_at hl 0 rfl) ?_
  exact r_iret hx hb hr hlk hK hG rfl hw dX9_manySwapped_60
set_option maxRecDepth 100000 in
set_option maxHeartbeats 4000000 in
theorem z_X9_swap_b111 {p : Program} {e : Env} {s : State} {m : MethodId} {args : Array Value} {below : List Frame} {meth : Method} {c : Code} (l : Launch) (y : Sy) (x1 : Int32) (C : Sd p s m args meth c cX9_swap 8 RX9 (some .int) y) (c31 : Int32 → Int32 → Int32 → St → Prop) (c46 : Int32 → Int32 → Int32 → Int32 → St → Prop) (K : Int32 → St → Prop) (hc31 : ∀ (v3 : Int32) (v4 : Int32) (v5 : Int32) (st : St) (H : Heap) (locs : List Loc) (ls : Array Slot), gH 17 enM y st s H locs → lv_has ls 8 [(0, .ref (ad y 0)), (1, .int x1), (3, .int v3), (4, .int v4), (5, .int v5)] → c31 v3 v4 v5 st → W p l e (rmm 7 162) s m args below meth c H locs 0 0 (MQ below (va_Qi K (gB 17 enM y) (gA 17 y)) args s 0 0 (gA 17 y)) (F0 m 31 ls [])) (hc46 : ∀ (v3 : Int32) (v4 : Int32) (v5 : Int32) (v6 : Int32) (st : St) (H : Heap) (locs : List Loc) (ls : Array Slot), gH 17 enM y st s H locs → lv_has ls 8 [(0, .ref (ad y 0)), (1, .int x1), (3, .int v3), (4, .int v4), (5, .int v5), (6, .int v6)] → c46 v3 v4 v5 v6 st → W p l e (rmm 7 162) s m args below meth c H locs 0 0 (MQ below (va_Qi K (gB 17 enM y) (gA 17 y)) args s 0 0 (gA 17 y)) (F0 m 46 ls [])) (v3 : Int32) (v4 : Int32) (v5 : Int32) (v6 : Int32) (st : St) {H : Heap} {locs : List Loc} {ls : Array Slot} (hG : gH 17 enM y st s H locs) (hl : lv_has ls 8 [(0, .ref (ad y 0)), (1, .int x1), (3, .int v3), (4, .int v4), (5, .int v5), (6, .int v6)]) (hw : w_X9_swap_b111 x1 c31 c46 K v3 v4 v5 v6 st) : W p l e (rmm 7 162) s m args below meth c H locs 0 0 (MQ below (va_Qi K (gB 17 enM y) (gA 17 y)) args s 0 0 (gA 17 y)) (F0 m 111 ls []) := by
  obtain ⟨hx, hb, hml, hown, hts, hr, hlk, hK, hN⟩ := id C
  unfold w_X9_swap_b111 at hw
  refine lv_iinc (v := (v6 + 1)) (lv' := [(6, .int (v6 + 1)), (0, .ref (ad y 0)), (1, .int x1), (3, .int v3), (4, .int v4), (5, .int v5)]) hx hb dX9_swap_111 hl (k := 5) rfl rfl (Nat.le_of_ble_eq_true rfl) rfl (fun ls hl => ?_)
  refine lv_goto (tgt := 46) hx hb dX9_swap_114 (by decide) ?_
  exact hc46 v3 v4 v5 (v6 + 1) st H locs _ hG (lv_sub hl [1, 2, 3, 4, 5, 0] rfl) hw
set_option maxRecDepth 100000 in
set_option maxHeartbeats 4000000 in
theorem z_X9_swap_b86 {p : Program} {e : Env} {s : State} {m : MethodId} {args : Array Value} {below : List Frame} {meth : Method} {c : Code} (l : Launch) (y : Sy) (x1 : Int32) (C : Sd p s m args meth c cX9_swap 8 RX9 (some .int) y) (c31 : Int32 → Int32 → Int32 → St → Prop) (c46 : Int32 → Int32 → Int32 → Int32 → St → Prop) (K : Int32 → St → Prop) (hc31 : ∀ (v3 : Int32) (v4 : Int32) (v5 : Int32) (st : St) (H : Heap) (locs : List Loc) (ls : Array Slot), gH 17 enM y st s H locs → lv_has ls 8 [(0, .ref (ad y 0)), (1, .int x1), (3, .int v3), (4, .int v4), (5, .int v5)] → c31 v3 v4 v5 st → W p l e (rmm 7 162) s m args below meth c H locs 0 0 (MQ below (va_Qi K (gB 17 enM y) (gA 17 y)) args s 0 0 (gA 17 y)) (F0 m 31 ls [])) (hc46 : ∀ (v3 : Int32) (v4 : Int32) (v5 : Int32) (v6 : Int32) (st : St) (H : Heap) (locs : List Loc) (ls : Array Slot), gH 17 enM y st s H locs → lv_has ls 8 [(0, .ref (ad y 0)), (1, .int x1), (3, .int v3), (4, .int v4), (5, .int v5), (6, .int v6)] → c46 v3 v4 v5 v6 st → W p l e (rmm 7 162) s m args below meth c H locs 0 0 (MQ below (va_Qi K (gB 17 enM y) (gA 17 y)) args s 0 0 (gA 17 y)) (F0 m 46 ls [])) (v3 : Int32) (v4 : Int32) (v5 : Int32) (v6 : Int32) (s0 : Int32) (st : St) {H : Heap} {locs : List Loc} {ls : Array Slot} (hG : gH 17 enM y st s H locs) (hl : lv_has ls 8 [(0, .ref (ad y 0)), (1, .int x1), (3, .int v3), (4, .int v4), (5, .int v5), (6, .int v6)]) (hw : w_X9_swap_b86 x1 c31 c46 K v3 v4 v5 v6 s0 st) : W p l e (rmm 7 162) s m args below meth c H locs 0 0 (MQ below (va_Qi K (gB 17 enM y) (gA 17 y)) args s 0 0 (gA 17 y)) (F0 m 86 ls [.int s0]) := by
  obtain ⟨hx, hb, hml, hown, hts, hr, hlk, hK, hN⟩ := id C
  unfold w_X9_swap_b86 at hw
  refine lv_istore (lv' := [(7, .int s0), (0, .ref (ad y 0)), (1, .int x1), (3, .int v3), (4, .int v4), (5, .int v5), (6, .int v6)]) hx hb dX9_swap_86 hl (Nat.le_of_ble_eq_true rfl) rfl (fun ls hl => ?_)
  refine lv_iload hx hb dX9_swap_88 (lv_at hl 0 rfl) ?_
  refine lv_iload hx hb dX9_swap_90 (lv_at hl 4 rfl) ?_
  refine lv_icmp_gt (tgt := 98) hx hb dX9_swap_92 (by decide) (fun hc => ?_) (fun hc => ?_)
  · replace hw := hw.1 hc
    refine lv_bipush (v := 10) hx hb dX9_swap_98 (by decide) ?_
    refine lv_iload hx hb dX9_swap_100 (lv_at hl 5 rfl) ?_
    refine lv_imul hx hb dX9_swap_102 ?_
    refine lv_iload hx hb dX9_swap_103 (lv_at hl 6 rfl) ?_
    refine lv_iadd hx hb dX9_swap_105 ?_
    refine lv_istore_n (lv' := [(3, .int ((10 * v5) + v6)), (7, .int s0), (0, .ref (ad y 0)), (1, .int x1), (4, .int v4), (5, .int v5), (6, .int v6)]) hx hb dX9_swap_106 rfl hl (Nat.le_of_ble_eq_true rfl) rfl (fun ls hl => ?_)
    refine lv_iload hx hb dX9_swap_107 (lv_at hl 1 rfl) ?_
    refine lv_istore (lv' := [(4, .int s0), (3, .int ((10 * v5) + v6)), (7, .int s0), (0, .ref (ad y 0)), (1, .int x1), (5, .int v5), (6, .int v6)]) hx hb dX9_swap_109 hl (Nat.le_of_ble_eq_true rfl) rfl (fun ls hl => ?_)
    exact z_X9_swap_b111 l y x1 C c31 c46 K hc31 hc46 ((10 * v5) + v6) s0 v5 v6 st hG (lv_sub hl [3, 4, 1, 0, 5, 6] rfl) hw
  · replace hw := hw.2 hc
    refine lv_goto (tgt := 111) hx hb dX9_swap_95 (by decide) ?_
    exact z_X9_swap_b111 l y x1 C c31 c46 K hc31 hc46 v3 v4 v5 v6 st hG (lv_sub hl [1, 2, 3, 4, 5, 6] rfl) hw
set_option maxRecDepth 100000 in
set_option maxHeartbeats 4000000 in
theorem z_X9_swap_b117 {p : Program} {e : Env} {s : State} {m : MethodId} {args : Array Value} {below : List Frame} {meth : Method} {c : Code} (l : Launch) (y : Sy) (x1 : Int32) (C : Sd p s m args meth c cX9_swap 8 RX9 (some .int) y) (c31 : Int32 → Int32 → Int32 → St → Prop) (K : Int32 → St → Prop) (hc31 : ∀ (v3 : Int32) (v4 : Int32) (v5 : Int32) (st : St) (H : Heap) (locs : List Loc) (ls : Array Slot), gH 17 enM y st s H locs → lv_has ls 8 [(0, .ref (ad y 0)), (1, .int x1), (3, .int v3), (4, .int v4), (5, .int v5)] → c31 v3 v4 v5 st → W p l e (rmm 7 162) s m args below meth c H locs 0 0 (MQ below (va_Qi K (gB 17 enM y) (gA 17 y)) args s 0 0 (gA 17 y)) (F0 m 31 ls [])) (v3 : Int32) (v4 : Int32) (v5 : Int32) (st : St) {H : Heap} {locs : List Loc} {ls : Array Slot} (hG : gH 17 enM y st s H locs) (hl : lv_has ls 8 [(0, .ref (ad y 0)), (1, .int x1), (3, .int v3), (4, .int v4), (5, .int v5)]) (hw : w_X9_swap_b117 x1 c31 K v3 v4 v5 st) : W p l e (rmm 7 162) s m args below meth c H locs 0 0 (MQ below (va_Qi K (gB 17 enM y) (gA 17 y)) args s 0 0 (gA 17 y)) (F0 m 117 ls []) := by
  obtain ⟨hx, hb, hml, hown, hts, hr, hlk, hK, hN⟩ := id C
  unfold w_X9_swap_b117 at hw
  refine lv_iinc (v := (v5 + 1)) (lv' := [(5, .int (v5 + 1)), (0, .ref (ad y 0)), (1, .int x1), (3, .int v3), (4, .int v4)]) hx hb dX9_swap_117 hl (k := 4) rfl rfl (Nat.le_of_ble_eq_true rfl) rfl (fun ls hl => ?_)
  refine lv_goto (tgt := 31) hx hb dX9_swap_120 (by decide) ?_
  exact hc31 v3 v4 (v5 + 1) st H locs _ hG (lv_sub hl [1, 2, 3, 4, 0] rfl) hw
set_option maxRecDepth 100000 in
set_option maxHeartbeats 4000000 in
theorem z_X9_swap_L46 {p : Program} {e : Env} {s : State} {m : MethodId} {args : Array Value} {below : List Frame} {meth : Method} {c : Code} (l : Launch) (y : Sy) (x1 : Int32) (C : Sd p s m args meth c cX9_swap 8 RX9 (some .int) y) (c31 : Int32 → Int32 → Int32 → St → Prop) (K : Int32 → St → Prop) (hc31 : ∀ (v3 : Int32) (v4 : Int32) (v5 : Int32) (st : St) (H : Heap) (locs : List Loc) (ls : Array Slot), gH 17 enM y st s H locs → lv_has ls 8 [(0, .ref (ad y 0)), (1, .int x1), (3, .int v3), (4, .int v4), (5, .int v5)] → c31 v3 v4 v5 st → W p l e (rmm 7 162) s m args below meth c H locs 0 0 (MQ below (va_Qi K (gB 17 enM y) (gA 17 y)) args s 0 0 (gA 17 y)) (F0 m 31 ls [])) : ∀ (n : Nat) (v3 : Int32) (v4 : Int32) (v5 : Int32) (v6 : Int32) (st : St) (H : Heap) (locs : List Loc) (ls : Array Slot), gH 17 enM y st s H locs → lv_has ls 8 [(0, .ref (ad y 0)), (1, .int x1), (3, .int v3), (4, .int v4), (5, .int v5), (6, .int v6)] → w_X9_swap_L46 x1 c31 K n v3 v4 v5 v6 st → W p l e (rmm 7 162) s m args below meth c H locs 0 0 (MQ below (va_Qi K (gB 17 enM y) (gA 17 y)) args s 0 0 (gA 17 y)) (F0 m 46 ls []) := by
  obtain ⟨hx, hb, hml, hown, hts, hr, hlk, hK, hN⟩ := id C
  intro n
  induction n with
  | zero => intro v3 v4 v5 v6 st H locs ls hG hl hw; exact False.elim hw
  | succ n hc46 =>
    intro v3 v4 v5 v6 st H locs ls hG hl hw
    have hw : w_X9_swap_L46q x1 c31 K (fun v3 v4 v5 v6 st => w_X9_swap_L46 x1 c31 K n v3 v4 v5 v6 st) v3 v4 v5 v6 st := hw
    unfold w_X9_swap_L46q at hw
    refine lv_iload hx hb dX9_swap_46 (lv_at hl 5 rfl) ?_
    refine lv_aload_n hx hb dX9_swap_48 rfl (lv_at hl 0 rfl) ?_
    refine r_get (C := RX9) (T := TX9) (Nf := 31) hx hb hts hown hK hG (by decide) rfl rfl inX9 8 (by decide) qF_X9_65 rfl dX9_swap_49 ?_
    refine lv_icmp_ge (tgt := 117) hx hb dX9_swap_52 (by decide) (fun hc => ?_) (fun hc => ?_)
    · replace hw := hw.1 hc
      exact z_X9_swap_b117 l y x1 C c31 K hc31 v3 v4 v5 st hG (lv_sub hl [0, 1, 2, 3, 4] rfl) hw
    · replace hw := hw.2 hc
      refine lv_aload_n hx hb dX9_swap_55 rfl (lv_at hl 0 rfl) ?_
      refine r_get (C := RX9) (T := TX9) (Nf := 31) hx hb hts hown hK hG (by decide) rfl rfl inX9 3 (by decide) qF_X9_19 rfl dX9_swap_56 ?_
      refine lv_iload hx hb dX9_swap_59 (lv_at hl 4 rfl) ?_
      obtain ⟨hi, hw⟩ := hw
      refine r_iald hx hb hK hG (isB_4).1 ((isB_4).2 y _) hi dX9_swap_61 ?_
      refine lv_aload_n hx hb dX9_swap_62 rfl (lv_at hl 0 rfl) ?_
      refine r_get (C := RX9) (T := TX9) (Nf := 31) hx hb hts hown hK hG (by decide) rfl rfl inX9 3 (by decide) qF_X9_19 rfl dX9_swap_63 ?_
      refine lv_iload hx hb dX9_swap_66 (lv_at hl 5 rfl) ?_
      obtain ⟨hi, hw⟩ := hw
      refine r_iald hx hb hK hG (isB_4).1 ((isB_4).2 y _) hi dX9_swap_68 ?_
      refine lv_icmp_ne (tgt := 77) hx hb dX9_swap_69 (by decide) (fun hc => ?_) (fun hc => ?_)
      · replace hw := hw.1 hc
        refine lv_aload_n hx hb dX9_swap_77 rfl (lv_at hl 0 rfl) ?_
        refine lv_iload hx hb dX9_swap_78 (lv_at hl 4 rfl) ?_
        refine lv_iload hx hb dX9_swap_80 (lv_at hl 5 rfl) ?_
        refine lv_iload_n hx hb dX9_swap_82 rfl (lv_at hl 1 rfl) ?_
        refine r_ki (r_run_V (k := 0) (As := [.int v5, .int v6, .int x1]) (rest := []) hx hb hml hown hts hK hN hG (c_X9_manySwapped l y v5 v6 x1 st _ hw) (by decide) rfl rfl rfl qM_X9_315 qI_X9_manySwapped qS_X9_manySwapped qN_X9 qC_X9_manySwapped hd_X9_manySwapped ⟨Nat.le_of_ble_eq_true rfl, Nat.le_of_ble_eq_true rfl⟩ hl.1 rfl (Nat.le_of_ble_eq_true rfl) dX9_swap_83) hG (fun r83 st83 H locs hw hG => ?_)
        exact z_X9_swap_b86 l y x1 C c31 (fun v3 v4 v5 v6 st => w_X9_swap_L46 x1 c31 K n v3 v4 v5 v6 st) K hc31 hc46 v3 v4 v5 v6 r83 st83 hG (lv_sub hl [0, 1, 2, 3, 4, 5] rfl) hw
      · replace hw := hw.2 hc
        refine lv_bipush (v := (-9)) hx hb dX9_swap_72 (by decide) ?_
        refine lv_goto (tgt := 86) hx hb dX9_swap_74 (by decide) ?_
        exact z_X9_swap_b86 l y x1 C c31 (fun v3 v4 v5 v6 st => w_X9_swap_L46 x1 c31 K n v3 v4 v5 v6 st) K hc31 hc46 v3 v4 v5 v6 (-9) st hG (lv_sub hl [0, 1, 2, 3, 4, 5] rfl) hw
set_option maxRecDepth 100000 in
set_option maxHeartbeats 4000000 in
theorem z_X9_swap_L31 {p : Program} {e : Env} {s : State} {m : MethodId} {args : Array Value} {below : List Frame} {meth : Method} {c : Code} (l : Launch) (y : Sy) (x1 : Int32) (C : Sd p s m args meth c cX9_swap 8 RX9 (some .int) y)  (K : Int32 → St → Prop)  : ∀ (n : Nat) (v3 : Int32) (v4 : Int32) (v5 : Int32) (st : St) (H : Heap) (locs : List Loc) (ls : Array Slot), gH 17 enM y st s H locs → lv_has ls 8 [(0, .ref (ad y 0)), (1, .int x1), (3, .int v3), (4, .int v4), (5, .int v5)] → w_X9_swap_L31 x1  K n v3 v4 v5 st → W p l e (rmm 7 162) s m args below meth c H locs 0 0 (MQ below (va_Qi K (gB 17 enM y) (gA 17 y)) args s 0 0 (gA 17 y)) (F0 m 31 ls []) := by
  obtain ⟨hx, hb, hml, hown, hts, hr, hlk, hK, hN⟩ := id C
  intro n
  induction n with
  | zero => intro v3 v4 v5 st H locs ls hG hl hw; exact False.elim hw
  | succ n hc31 =>
    intro v3 v4 v5 st H locs ls hG hl hw
    have hw : w_X9_swap_L31q x1  K (fun v3 v4 v5 st => w_X9_swap_L31 x1  K n v3 v4 v5 st) v3 v4 v5 st := hw
    unfold w_X9_swap_L31q at hw
    refine lv_iload hx hb dX9_swap_31 (lv_at hl 4 rfl) ?_
    refine lv_aload_n hx hb dX9_swap_33 rfl (lv_at hl 0 rfl) ?_
    refine r_get (C := RX9) (T := TX9) (Nf := 31) hx hb hts hown hK hG (by decide) rfl rfl inX9 8 (by decide) qF_X9_65 rfl dX9_swap_34 ?_
    refine lv_icmp_ge (tgt := 123) hx hb dX9_swap_37 (by decide) (fun hc => ?_) (fun hc => ?_)
    · replace hw := hw.1 hc
      refine lv_iload_n hx hb dX9_swap_123 rfl (lv_at hl 2 rfl) ?_
      exact r_iret hx hb hr hlk hK hG rfl hw dX9_swap_124
    · replace hw := hw.2 hc
      refine lv_iload hx hb dX9_swap_40 (lv_at hl 4 rfl) ?_
      refine lv_iconst (v := 1) hx hb dX9_swap_42 (by decide) ?_
      refine lv_iadd hx hb dX9_swap_43 ?_
      refine lv_istore (lv' := [(6, .int (v5 + 1)), (0, .ref (ad y 0)), (1, .int x1), (3, .int v3), (4, .int v4), (5, .int v5)]) hx hb dX9_swap_44 hl (Nat.le_of_ble_eq_true rfl) rfl (fun ls hl => ?_)
      obtain ⟨n46, hw⟩ := hw
      exact z_X9_swap_L46 l y x1 C (fun v3 v4 v5 st => w_X9_swap_L31 x1  K n v3 v4 v5 st) K hc31 n46 v3 v4 v5 (v5 + 1) st H locs _ hG (lv_sub hl [1, 2, 3, 4, 5, 0] rfl) hw
theorem hd_X9_swap : yX9_swap.cls ≠ "java/lang/invoke/MethodHandle" ∧ yX9_swap.cls ≠ "java/lang/invoke/VarHandle" ∧ (parseMethodDescriptor yX9_swap.desc).map (fun d => d.parameters.length) = some 1 := by decide +kernel
set_option maxRecDepth 100000 in
set_option maxHeartbeats 4000000 in
theorem c_X9_swap (l : Launch) (y : Sy) (x1 : Int32) (st : St) (K : Int32 → St → Prop) (hw : w_X9_swap x1 st K) : Ci 17 enM l yX9_swap cX9_swap 8 (some .int) 7 162 y [.ref (ad y 0), .int x1] st K := by
  refine ent (by decide) (Nat.le_of_ble_eq_true rfl) ?_
  intro p e s m below meth c C hG ls hl
  have hl : lv_has ls 8 [(0, .ref (ad y 0)), (1, .int x1)] := hl
  generalize ([.ref (ad y 0), .int x1] : List Value).toArray = args at C ⊢
  have C : Sd p s m args meth c cX9_swap 8 RX9 (some .int) y := C
  obtain ⟨hx, hb, hml, hown, hts, hr, hlk, hK, hN⟩ := id C
  generalize s.heap = H at hG ⊢
  generalize ([] : List Loc) = locs at hG ⊢
  unfold w_X9_swap at hw
  refine lv_iload_n hx hb dX9_swap_0 rfl (lv_at hl 1 rfl) ?_
  refine r_ki (r_run_S (As := [.int x1]) (rest := []) hx hb hml hown hts hK hN hG (c_X9_notWeeks l y x1 st _ hw) qM_X9_223 qT_X9_notWeeks qN_X9 qC_X9_notWeeks hd_X9_notWeeks ⟨Nat.le_of_ble_eq_true rfl, Nat.le_of_ble_eq_true rfl⟩ hl.1 rfl (Nat.le_of_ble_eq_true rfl) dX9_swap_1) hG (fun r1 st1 H locs hw hG => ?_)
  refine lv_istore_n (lv' := [(2, .int r1), (0, .ref (ad y 0)), (1, .int x1)]) hx hb dX9_swap_4 rfl hl (Nat.le_of_ble_eq_true rfl) rfl (fun ls hl => ?_)
  refine lv_iload_n hx hb dX9_swap_5 rfl (lv_at hl 0 rfl) ?_
  refine lv_if_eq (tgt := 15) hx hb dX9_swap_6 (by decide) (fun hc => ?_) (fun hc => ?_)
  · replace hw := hw.1 hc
    refine lv_bipush (v := (-9)) hx hb dX9_swap_15 (by decide) ?_
    refine lv_istore_n (lv' := [(3, .int (-9)), (2, .int r1), (0, .ref (ad y 0)), (1, .int x1)]) hx hb dX9_swap_17 rfl hl (Nat.le_of_ble_eq_true rfl) rfl (fun ls hl => ?_)
    refine lv_aload_n hx hb dX9_swap_18 rfl (lv_at hl 2 rfl) ?_
    refine lv_iload_n hx hb dX9_swap_19 rfl (lv_at hl 3 rfl) ?_
    refine r_ki (r_run_V (k := 0) (As := [.int x1]) (rest := []) hx hb hml hown hts hK hN hG (c_X9_openIn l y x1 st1 _ hw) (by decide) rfl rfl rfl qM_X9_229 qI_X9_openIn qS_X9_openIn qN_X9 qC_X9_openIn hd_X9_openIn ⟨Nat.le_of_ble_eq_true rfl, Nat.le_of_ble_eq_true rfl⟩ hl.1 rfl (Nat.le_of_ble_eq_true rfl) dX9_swap_20) hG (fun r20 st20 H locs hw hG => ?_)
    refine r_ki (r_run_S (As := [.int r20]) (rest := []) hx hb hml hown hts hK hN hG (c_X9_bits l y r20 st20 _ hw) qM_X9_214 qT_X9_bits qN_X9 qC_X9_bits hd_X9_bits ⟨Nat.le_of_ble_eq_true rfl, Nat.le_of_ble_eq_true rfl⟩ hl.1 rfl (Nat.le_of_ble_eq_true rfl) dX9_swap_23) hG (fun r23 st23 H locs hw hG => ?_)
    refine lv_istore (lv' := [(4, .int r23), (3, .int (-9)), (2, .int r1), (0, .ref (ad y 0)), (1, .int x1)]) hx hb dX9_swap_26 hl (Nat.le_of_ble_eq_true rfl) rfl (fun ls hl => ?_)
    refine lv_iconst (v := 0) hx hb dX9_swap_28 (by decide) ?_
    refine lv_istore (lv' := [(5, .int 0), (4, .int r23), (3, .int (-9)), (2, .int r1), (0, .ref (ad y 0)), (1, .int x1)]) hx hb dX9_swap_29 hl (Nat.le_of_ble_eq_true rfl) rfl (fun ls hl => ?_)
    obtain ⟨n31, hw⟩ := hw
    exact z_X9_swap_L31 l y x1 C  K  n31 (-9) r23 0 st23 H locs _ hG (lv_sub hl [4, 5, 2, 1, 0] rfl) hw
  · replace hw := hw.2 hc
    refine lv_aload_n hx hb dX9_swap_9 rfl (lv_at hl 1 rfl) ?_
    refine lv_iload_n hx hb dX9_swap_10 rfl (lv_at hl 0 rfl) ?_
    refine r_ki (r_run_V (k := 0) (As := [.int r1]) (rest := []) hx hb hml hown hts hK hN hG (c_X9_no l y r1 st1 _ hw) (by decide) rfl rfl rfl qM_X9_79 qI_X9_no qS_X9_no qN_X9 qC_X9_no hd_X9_no ⟨Nat.le_of_ble_eq_true rfl, Nat.le_of_ble_eq_true rfl⟩ hl.1 rfl (Nat.le_of_ble_eq_true rfl) dX9_swap_11) hG (fun r11 st11 H locs hw hG => ?_)
    exact r_iret hx hb hr hlk hK hG rfl hw dX9_swap_14
set_option maxRecDepth 100000 in
set_option maxHeartbeats 4000000 in
theorem z_X9_apart_b47 {p : Program} {e : Env} {s : State} {m : MethodId} {args : Array Value} {below : List Frame} {meth : Method} {c : Code} (l : Launch) (y : Sy) (x1 : Int32) (C : Sd p s m args meth c cX9_apart 5 RX9 (some .int) y) (c24 : Int32 → Int32 → St → Prop) (K : Int32 → St → Prop) (hc24 : ∀ (v3 : Int32) (v4 : Int32) (st : St) (H : Heap) (locs : List Loc) (ls : Array Slot), gH 17 enM y st s H locs → lv_has ls 5 [(0, .ref (ad y 0)), (1, .int x1), (3, .int v3), (4, .int v4)] → c24 v3 v4 st → W p l e (rmm 4 93) s m args below meth c H locs 0 0 (MQ below (va_Qi K (gB 17 enM y) (gA 17 y)) args s 0 0 (gA 17 y)) (F0 m 24 ls [])) (v4 : Int32) (s0 : Int32) (s1 : Int32) (st : St) {H : Heap} {locs : List Loc} {ls : Array Slot} (hG : gH 17 enM y st s H locs) (hl : lv_has ls 5 [(0, .ref (ad y 0)), (1, .int x1), (4, .int v4)]) (hw : w_X9_apart_b47 x1 c24 K v4 s0 s1 st) : W p l e (rmm 4 93) s m args below meth c H locs 0 0 (MQ below (va_Qi K (gB 17 enM y) (gA 17 y)) args s 0 0 (gA 17 y)) (F0 m 47 ls [.int s0, .int s1]) := by
  obtain ⟨hx, hb, hml, hown, hts, hr, hlk, hK, hN⟩ := id C
  unfold w_X9_apart_b47 at hw
  refine lv_iadd hx hb dX9_apart_47 ?_
  refine lv_istore_n (lv' := [(3, .int (s1 + s0)), (0, .ref (ad y 0)), (1, .int x1), (4, .int v4)]) hx hb dX9_apart_48 rfl hl (Nat.le_of_ble_eq_true rfl) rfl (fun ls hl => ?_)
  refine lv_iinc (v := (v4 + 1)) (lv' := [(4, .int (v4 + 1)), (3, .int (s1 + s0)), (0, .ref (ad y 0)), (1, .int x1)]) hx hb dX9_apart_49 hl (k := 3) rfl rfl (Nat.le_of_ble_eq_true rfl) rfl (fun ls hl => ?_)
  refine lv_goto (tgt := 24) hx hb dX9_apart_52 (by decide) ?_
  exact hc24 (s1 + s0) (v4 + 1) st H locs _ hG (lv_sub hl [2, 3, 1, 0] rfl) hw
set_option maxRecDepth 100000 in
set_option maxHeartbeats 4000000 in
theorem z_X9_apart_b55 {p : Program} {e : Env} {s : State} {m : MethodId} {args : Array Value} {below : List Frame} {meth : Method} {c : Code} (l : Launch) (y : Sy) (x1 : Int32) (C : Sd p s m args meth c cX9_apart 5 RX9 (some .int) y)  (K : Int32 → St → Prop)  (v3 : Int32) (st : St) {H : Heap} {locs : List Loc} {ls : Array Slot} (hG : gH 17 enM y st s H locs) (hl : lv_has ls 5 [(0, .ref (ad y 0)), (3, .int v3)]) (hw : w_X9_apart_b55 x1  K v3 st) : W p l e (rmm 4 93) s m args below meth c H locs 0 0 (MQ below (va_Qi K (gB 17 enM y) (gA 17 y)) args s 0 0 (gA 17 y)) (F0 m 55 ls []) := by
  obtain ⟨hx, hb, hml, hown, hts, hr, hlk, hK, hN⟩ := id C
  unfold w_X9_apart_b55 at hw
  refine lv_aload_n hx hb dX9_apart_55 rfl (lv_at hl 0 rfl) ?_
  refine r_kv (r_run_V (k := 0) (As := []) (rest := []) hx hb hml hown hts hK hN hG (c_X9_forgets l y  st _ hw) (by decide) rfl rfl rfl qM_X9_220 qI_X9_forgets qS_X9_forgets qN_X9 qC_X9_forgets hd_X9_forgets ⟨Nat.le_of_ble_eq_true rfl, Nat.le_of_ble_eq_true rfl⟩ hl.1 rfl (Nat.le_of_ble_eq_true rfl) dX9_apart_56) hG (fun st56 H locs hw hG => ?_)
  refine lv_iload_n hx hb dX9_apart_59 rfl (lv_at hl 1 rfl) ?_
  exact r_iret hx hb hr hlk hK hG rfl hw dX9_apart_60
set_option maxRecDepth 100000 in
set_option maxHeartbeats 4000000 in
theorem z_X9_apart_L24 {p : Program} {e : Env} {s : State} {m : MethodId} {args : Array Value} {below : List Frame} {meth : Method} {c : Code} (l : Launch) (y : Sy) (x1 : Int32) (C : Sd p s m args meth c cX9_apart 5 RX9 (some .int) y)  (K : Int32 → St → Prop)  : ∀ (n : Nat) (v3 : Int32) (v4 : Int32) (st : St) (H : Heap) (locs : List Loc) (ls : Array Slot), gH 17 enM y st s H locs → lv_has ls 5 [(0, .ref (ad y 0)), (1, .int x1), (3, .int v3), (4, .int v4)] → w_X9_apart_L24 x1  K n v3 v4 st → W p l e (rmm 4 93) s m args below meth c H locs 0 0 (MQ below (va_Qi K (gB 17 enM y) (gA 17 y)) args s 0 0 (gA 17 y)) (F0 m 24 ls []) := by
  obtain ⟨hx, hb, hml, hown, hts, hr, hlk, hK, hN⟩ := id C
  intro n
  induction n with
  | zero => intro v3 v4 st H locs ls hG hl hw; exact False.elim hw
  | succ n hc24 =>
    intro v3 v4 st H locs ls hG hl hw
    have hw : w_X9_apart_L24q x1  K (fun v3 v4 st => w_X9_apart_L24 x1  K n v3 v4 st) v3 v4 st := hw
    unfold w_X9_apart_L24q at hw
    refine lv_iload hx hb dX9_apart_24 (lv_at hl 3 rfl) ?_
    refine lv_iload_n hx hb dX9_apart_26 rfl (lv_at hl 1 rfl) ?_
    refine lv_icmp_ge (tgt := 55) hx hb dX9_apart_27 (by decide) (fun hc => ?_) (fun hc => ?_)
    · replace hw := hw.1 hc
      exact z_X9_apart_b55 l y x1 C  K  v3 st hG (lv_sub hl [0, 2] rfl) hw
    · replace hw := hw.2 hc
      refine lv_aload_n hx hb dX9_apart_30 rfl (lv_at hl 0 rfl) ?_
      refine r_kv (r_run_V (k := 0) (As := []) (rest := []) hx hb hml hown hts hK hN hG (c_X9_goesWeek l y  st _ hw) (by decide) rfl rfl rfl qM_X9_202 qI_X9_goesWeek qS_X9_goesWeek qN_X9 qC_X9_goesWeek hd_X9_goesWeek ⟨Nat.le_of_ble_eq_true rfl, Nat.le_of_ble_eq_true rfl⟩ hl.1 rfl (Nat.le_of_ble_eq_true rfl) dX9_apart_31) hG (fun st31 H locs hw hG => ?_)
      refine lv_iload_n hx hb dX9_apart_34 rfl (lv_at hl 2 rfl) ?_
      refine lv_aload_n hx hb dX9_apart_35 rfl (lv_at hl 0 rfl) ?_
      refine r_get (C := RX9) (T := TX9) (Nf := 31) hx hb hts hown hK hG (by decide) rfl rfl inX9 25 (by decide) qF_X9_193 rfl dX9_apart_36 ?_
      refine lv_if_ne (tgt := 46) hx hb dX9_apart_39 (by decide) (fun hc => ?_) (fun hc => ?_)
      · replace hw := hw.1 hc
        refine lv_iconst (v := 0) hx hb dX9_apart_46 (by decide) ?_
        exact z_X9_apart_b47 l y x1 C (fun v3 v4 st => w_X9_apart_L24 x1  K n v3 v4 st) K hc24 v4 0 v3 st31 hG (lv_sub hl [0, 1, 3] rfl) hw
      · replace hw := hw.2 hc
        refine lv_iconst (v := 1) hx hb dX9_apart_42 (by decide) ?_
        refine lv_goto (tgt := 47) hx hb dX9_apart_43 (by decide) ?_
        exact z_X9_apart_b47 l y x1 C (fun v3 v4 st => w_X9_apart_L24 x1  K n v3 v4 st) K hc24 v4 1 v3 st31 hG (lv_sub hl [0, 1, 3] rfl) hw
theorem hd_X9_apart : yX9_apart.cls ≠ "java/lang/invoke/MethodHandle" ∧ yX9_apart.cls ≠ "java/lang/invoke/VarHandle" ∧ (parseMethodDescriptor yX9_apart.desc).map (fun d => d.parameters.length) = some 1 := by decide +kernel
set_option maxRecDepth 100000 in
set_option maxHeartbeats 4000000 in
theorem c_X9_apart (l : Launch) (y : Sy) (x1 : Int32) (st : St) (K : Int32 → St → Prop) (hw : w_X9_apart x1 st K) : Ci 17 enM l yX9_apart cX9_apart 5 (some .int) 4 93 y [.ref (ad y 0), .int x1] st K := by
  refine ent (by decide) (Nat.le_of_ble_eq_true rfl) ?_
  intro p e s m below meth c C hG ls hl
  have hl : lv_has ls 5 [(0, .ref (ad y 0)), (1, .int x1)] := hl
  generalize ([.ref (ad y 0), .int x1] : List Value).toArray = args at C ⊢
  have C : Sd p s m args meth c cX9_apart 5 RX9 (some .int) y := C
  obtain ⟨hx, hb, hml, hown, hts, hr, hlk, hK, hN⟩ := id C
  generalize s.heap = H at hG ⊢
  generalize ([] : List Loc) = locs at hG ⊢
  unfold w_X9_apart at hw
  refine lv_iload_n hx hb dX9_apart_0 rfl (lv_at hl 1 rfl) ?_
  refine r_ki (r_run_S (As := [.int x1]) (rest := []) hx hb hml hown hts hK hN hG (c_X9_notWeeks l y x1 st _ hw) qM_X9_223 qT_X9_notWeeks qN_X9 qC_X9_notWeeks hd_X9_notWeeks ⟨Nat.le_of_ble_eq_true rfl, Nat.le_of_ble_eq_true rfl⟩ hl.1 rfl (Nat.le_of_ble_eq_true rfl) dX9_apart_1) hG (fun r1 st1 H locs hw hG => ?_)
  refine lv_istore_n (lv' := [(2, .int r1), (0, .ref (ad y 0)), (1, .int x1)]) hx hb dX9_apart_4 rfl hl (Nat.le_of_ble_eq_true rfl) rfl (fun ls hl => ?_)
  refine lv_iload_n hx hb dX9_apart_5 rfl (lv_at hl 0 rfl) ?_
  refine lv_if_eq (tgt := 15) hx hb dX9_apart_6 (by decide) (fun hc => ?_) (fun hc => ?_)
  · replace hw := hw.1 hc
    refine lv_aload_n hx hb dX9_apart_15 rfl (lv_at hl 1 rfl) ?_
    refine r_kv (r_run_V (k := 0) (As := []) (rest := []) hx hb hml hown hts hK hN hG (c_X9_thinks l y  st1 _ hw) (by decide) rfl rfl rfl qM_X9_217 qI_X9_thinks qS_X9_thinks qN_X9 qC_X9_thinks hd_X9_thinks ⟨Nat.le_of_ble_eq_true rfl, Nat.le_of_ble_eq_true rfl⟩ hl.1 rfl (Nat.le_of_ble_eq_true rfl) dX9_apart_16) hG (fun st16 H locs hw hG => ?_)
    refine lv_iconst (v := 0) hx hb dX9_apart_19 (by decide) ?_
    refine lv_istore_n (lv' := [(3, .int 0), (2, .int r1), (0, .ref (ad y 0)), (1, .int x1)]) hx hb dX9_apart_20 rfl hl (Nat.le_of_ble_eq_true rfl) rfl (fun ls hl => ?_)
    refine lv_iconst (v := 0) hx hb dX9_apart_21 (by decide) ?_
    refine lv_istore (lv' := [(4, .int 0), (3, .int 0), (2, .int r1), (0, .ref (ad y 0)), (1, .int x1)]) hx hb dX9_apart_22 hl (Nat.le_of_ble_eq_true rfl) rfl (fun ls hl => ?_)
    obtain ⟨n24, hw⟩ := hw
    exact z_X9_apart_L24 l y x1 C  K  n24 0 0 st16 H locs _ hG (lv_sub hl [3, 4, 1, 0] rfl) hw
  · replace hw := hw.2 hc
    refine lv_aload_n hx hb dX9_apart_9 rfl (lv_at hl 1 rfl) ?_
    refine lv_iload_n hx hb dX9_apart_10 rfl (lv_at hl 0 rfl) ?_
    refine r_ki (r_run_V (k := 0) (As := [.int r1]) (rest := []) hx hb hml hown hts hK hN hG (c_X9_no l y r1 st1 _ hw) (by decide) rfl rfl rfl qM_X9_79 qI_X9_no qS_X9_no qN_X9 qC_X9_no hd_X9_no ⟨Nat.le_of_ble_eq_true rfl, Nat.le_of_ble_eq_true rfl⟩ hl.1 rfl (Nat.le_of_ble_eq_true rfl) dX9_apart_11) hG (fun r11 st11 H locs hw hG => ?_)
    exact r_iret hx hb hr hlk hK hG rfl hw dX9_apart_14
set_option maxRecDepth 100000 in
set_option maxHeartbeats 4000000 in
theorem z_X9_enemy_b53 {p : Program} {e : Env} {s : State} {m : MethodId} {args : Array Value} {below : List Frame} {meth : Method} {c : Code} (l : Launch) (y : Sy) (x1 : Int32) (C : Sd p s m args meth c cX9_enemy 4 RX9 (some .int) y) (c19 : Int32 → Int32 → St → Prop) (K : Int32 → St → Prop) (hc19 : ∀ (v2 : Int32) (v3 : Int32) (st : St) (H : Heap) (locs : List Loc) (ls : Array Slot), gH 17 enM y st s H locs → lv_has ls 4 [(0, .ref (ad y 0)), (1, .int x1), (2, .int v2), (3, .int v3)] → c19 v2 v3 st → W p l e (rmm 1 22) s m args below meth c H locs 0 0 (MQ below (va_Qi K (gB 17 enM y) (gA 17 y)) args s 0 0 (gA 17 y)) (F0 m 19 ls [])) (v2 : Int32) (v3 : Int32) (st : St) {H : Heap} {locs : List Loc} {ls : Array Slot} (hG : gH 17 enM y st s H locs) (hl : lv_has ls 4 [(0, .ref (ad y 0)), (1, .int x1), (2, .int v2), (3, .int v3)]) (hw : w_X9_enemy_b53 x1 c19 K v2 v3 st) : W p l e (rmm 1 22) s m args below meth c H locs 0 0 (MQ below (va_Qi K (gB 17 enM y) (gA 17 y)) args s 0 0 (gA 17 y)) (F0 m 53 ls []) := by
  obtain ⟨hx, hb, hml, hown, hts, hr, hlk, hK, hN⟩ := id C
  unfold w_X9_enemy_b53 at hw
  refine lv_iinc (v := (v3 + 1)) (lv' := [(3, .int (v3 + 1)), (0, .ref (ad y 0)), (1, .int x1), (2, .int v2)]) hx hb dX9_enemy_53 hl (k := 3) rfl rfl (Nat.le_of_ble_eq_true rfl) rfl (fun ls hl => ?_)
  refine lv_goto (tgt := 19) hx hb dX9_enemy_56 (by decide) ?_
  exact hc19 v2 (v3 + 1) st H locs _ hG (lv_sub hl [1, 2, 3, 0] rfl) hw
set_option maxRecDepth 100000 in
set_option maxHeartbeats 4000000 in
theorem z_X9_enemy_b51 {p : Program} {e : Env} {s : State} {m : MethodId} {args : Array Value} {below : List Frame} {meth : Method} {c : Code} (l : Launch) (y : Sy) (x1 : Int32) (C : Sd p s m args meth c cX9_enemy 4 RX9 (some .int) y) (c19 : Int32 → Int32 → St → Prop) (K : Int32 → St → Prop) (hc19 : ∀ (v2 : Int32) (v3 : Int32) (st : St) (H : Heap) (locs : List Loc) (ls : Array Slot), gH 17 enM y st s H locs → lv_has ls 4 [(0, .ref (ad y 0)), (1, .int x1), (2, .int v2), (3, .int v3)] → c19 v2 v3 st → W p l e (rmm 1 22) s m args below meth c H locs 0 0 (MQ below (va_Qi K (gB 17 enM y) (gA 17 y)) args s 0 0 (gA 17 y)) (F0 m 19 ls [])) (v3 : Int32) (st : St) {H : Heap} {locs : List Loc} {ls : Array Slot} (hG : gH 17 enM y st s H locs) (hl : lv_has ls 4 [(0, .ref (ad y 0)), (1, .int x1), (3, .int v3)]) (hw : w_X9_enemy_b51 x1 c19 K v3 st) : W p l e (rmm 1 22) s m args below meth c H locs 0 0 (MQ below (va_Qi K (gB 17 enM y) (gA 17 y)) args s 0 0 (gA 17 y)) (F0 m 51 ls []) := by
  obtain ⟨hx, hb, hml, hown, hts, hr, hlk, hK, hN⟩ := id C
  unfold w_X9_enemy_b51 at hw
  refine lv_iload_n hx hb dX9_enemy_51 rfl (lv_at hl 2 rfl) ?_
  refine lv_istore_n (lv' := [(2, .int v3), (0, .ref (ad y 0)), (1, .int x1), (3, .int v3)]) hx hb dX9_enemy_52 rfl hl (Nat.le_of_ble_eq_true rfl) rfl (fun ls hl => ?_)
  exact z_X9_enemy_b53 l y x1 C c19 K hc19 v3 v3 st hG (lv_sub hl [1, 2, 0, 3] rfl) hw
set_option maxRecDepth 100000 in
set_option maxHeartbeats 4000000 in
theorem z_X9_enemy_L19 {p : Program} {e : Env} {s : State} {m : MethodId} {args : Array Value} {below : List Frame} {meth : Method} {c : Code} (l : Launch) (y : Sy) (x1 : Int32) (C : Sd p s m args meth c cX9_enemy 4 RX9 (some .int) y)  (K : Int32 → St → Prop)  : ∀ (n : Nat) (v2 : Int32) (v3 : Int32) (st : St) (H : Heap) (locs : List Loc) (ls : Array Slot), gH 17 enM y st s H locs → lv_has ls 4 [(0, .ref (ad y 0)), (1, .int x1), (2, .int v2), (3, .int v3)] → w_X9_enemy_L19 x1  K n v2 v3 st → W p l e (rmm 1 22) s m args below meth c H locs 0 0 (MQ below (va_Qi K (gB 17 enM y) (gA 17 y)) args s 0 0 (gA 17 y)) (F0 m 19 ls []) := by
  obtain ⟨hx, hb, hml, hown, hts, hr, hlk, hK, hN⟩ := id C
  intro n
  induction n with
  | zero => intro v2 v3 st H locs ls hG hl hw; exact False.elim hw
  | succ n hc19 =>
    intro v2 v3 st H locs ls hG hl hw
    have hw : w_X9_enemy_L19q x1  K (fun v2 v3 st => w_X9_enemy_L19 x1  K n v2 v3 st) v2 v3 st := hw
    unfold w_X9_enemy_L19q at hw
    refine lv_iload_n hx hb dX9_enemy_19 rfl (lv_at hl 3 rfl) ?_
    refine lv_aload_n hx hb dX9_enemy_20 rfl (lv_at hl 0 rfl) ?_
    refine r_get (C := RX9) (T := TX9) (Nf := 31) hx hb hts hown hK hG (by decide) rfl rfl inX9 8 (by decide) qF_X9_65 rfl dX9_enemy_21 ?_
    refine lv_icmp_ge (tgt := 59) hx hb dX9_enemy_24 (by decide) (fun hc => ?_) (fun hc => ?_)
    · replace hw := hw.1 hc
      refine lv_iload_n hx hb dX9_enemy_59 rfl (lv_at hl 2 rfl) ?_
      exact r_iret hx hb hr hlk hK hG rfl hw dX9_enemy_60
    · replace hw := hw.2 hc
      refine lv_iload_n hx hb dX9_enemy_27 rfl (lv_at hl 3 rfl) ?_
      refine lv_iload_n hx hb dX9_enemy_28 rfl (lv_at hl 1 rfl) ?_
      refine lv_icmp_eq (tgt := 53) hx hb dX9_enemy_29 (by decide) (fun hc => ?_) (fun hc => ?_)
      · replace hw := hw.1 hc
        exact z_X9_enemy_b53 l y x1 C (fun v2 v3 st => w_X9_enemy_L19 x1  K n v2 v3 st) K hc19 v2 v3 st hG (lv_sub hl [0, 1, 2, 3] rfl) hw
      · replace hw := hw.2 hc
        refine lv_iload_n hx hb dX9_enemy_32 rfl (lv_at hl 2 rfl) ?_
        refine lv_if_lt (tgt := 51) hx hb dX9_enemy_33 (by decide) (fun hc => ?_) (fun hc => ?_)
        · replace hw := hw.1 hc
          exact z_X9_enemy_b51 l y x1 C (fun v2 v3 st => w_X9_enemy_L19 x1  K n v2 v3 st) K hc19 v3 st hG (lv_sub hl [0, 1, 3] rfl) hw
        · replace hw := hw.2 hc
          refine lv_aload_n hx hb dX9_enemy_36 rfl (lv_at hl 0 rfl) ?_
          refine lv_iload_n hx hb dX9_enemy_37 rfl (lv_at hl 1 rfl) ?_
          refine lv_iload_n hx hb dX9_enemy_38 rfl (lv_at hl 3 rfl) ?_
          refine r_ki (r_run_V (k := 0) (As := [.int x1, .int v3]) (rest := []) hx hb hml hown hts hK hN hG (c_X9_hateOf l y x1 v3 st _ hw) (by decide) rfl rfl rfl qM_X9_180 qI_X9_hateOf qS_X9_hateOf qN_X9 qC_X9_hateOf hd_X9_hateOf ⟨Nat.le_of_ble_eq_true rfl, Nat.le_of_ble_eq_true rfl⟩ hl.1 rfl (Nat.le_of_ble_eq_true rfl) dX9_enemy_39) hG (fun r39 st39 H locs hw hG => ?_)
          refine lv_aload_n hx hb dX9_enemy_42 rfl (lv_at hl 0 rfl) ?_
          refine lv_iload_n hx hb dX9_enemy_43 rfl (lv_at hl 1 rfl) ?_
          refine lv_iload_n hx hb dX9_enemy_44 rfl (lv_at hl 2 rfl) ?_
          refine r_ki (r_run_V (k := 0) (As := [.int x1, .int v2]) (rest := [.int r39]) hx hb hml hown hts hK hN hG (c_X9_hateOf l y x1 v2 st39 _ hw) (by decide) rfl rfl rfl qM_X9_180 qI_X9_hateOf qS_X9_hateOf qN_X9 qC_X9_hateOf hd_X9_hateOf ⟨Nat.le_of_ble_eq_true rfl, Nat.le_of_ble_eq_true rfl⟩ hl.1 rfl (Nat.le_of_ble_eq_true rfl) dX9_enemy_45) hG (fun r45 st45 H locs hw hG => ?_)
          refine lv_icmp_le (tgt := 53) hx hb dX9_enemy_48 (by decide) (fun hc => ?_) (fun hc => ?_)
          · replace hw := hw.1 hc
            exact z_X9_enemy_b53 l y x1 C (fun v2 v3 st => w_X9_enemy_L19 x1  K n v2 v3 st) K hc19 v2 v3 st45 hG (lv_sub hl [0, 1, 2, 3] rfl) hw
          · replace hw := hw.2 hc
            exact z_X9_enemy_b51 l y x1 C (fun v2 v3 st => w_X9_enemy_L19 x1  K n v2 v3 st) K hc19 v3 st45 hG (lv_sub hl [0, 1, 3] rfl) hw
theorem hd_X9_enemy : yX9_enemy.cls ≠ "java/lang/invoke/MethodHandle" ∧ yX9_enemy.cls ≠ "java/lang/invoke/VarHandle" ∧ (parseMethodDescriptor yX9_enemy.desc).map (fun d => d.parameters.length) = some 1 := by decide +kernel
set_option maxRecDepth 100000 in
set_option maxHeartbeats 4000000 in
theorem c_X9_enemy (l : Launch) (y : Sy) (x1 : Int32) (st : St) (K : Int32 → St → Prop) (hw : w_X9_enemy x1 st K) : Ci 17 enM l yX9_enemy cX9_enemy 4 (some .int) 1 22 y [.ref (ad y 0), .int x1] st K := by
  refine ent (by decide) (Nat.le_of_ble_eq_true rfl) ?_
  intro p e s m below meth c C hG ls hl
  have hl : lv_has ls 4 [(0, .ref (ad y 0)), (1, .int x1)] := hl
  generalize ([.ref (ad y 0), .int x1] : List Value).toArray = args at C ⊢
  have C : Sd p s m args meth c cX9_enemy 4 RX9 (some .int) y := C
  obtain ⟨hx, hb, hml, hown, hts, hr, hlk, hK, hN⟩ := id C
  generalize s.heap = H at hG ⊢
  generalize ([] : List Loc) = locs at hG ⊢
  unfold w_X9_enemy at hw
  refine lv_aload_n hx hb dX9_enemy_0 rfl (lv_at hl 0 rfl) ?_
  refine lv_iload_n hx hb dX9_enemy_1 rfl (lv_at hl 1 rfl) ?_
  refine r_ki (r_run_V (k := 0) (As := [.int x1]) (rest := []) hx hb hml hown hts hK hN hG (c_X9_isKeeper l y x1 st _ hw) (by decide) rfl rfl rfl qM_X9_68 qI_X9_isKeeper qS_X9_isKeeper qN_X9 qC_X9_isKeeper hd_X9_isKeeper ⟨Nat.le_of_ble_eq_true rfl, Nat.le_of_ble_eq_true rfl⟩ hl.1 rfl (Nat.le_of_ble_eq_true rfl) dX9_enemy_2) hG (fun r2 st2 H locs hw hG => ?_)
  refine lv_if_ne (tgt := 14) hx hb dX9_enemy_5 (by decide) (fun hc => ?_) (fun hc => ?_)
  · replace hw := hw.1 hc
    refine lv_bipush (v := (-9)) hx hb dX9_enemy_14 (by decide) ?_
    refine lv_istore_n (lv' := [(2, .int (-9)), (0, .ref (ad y 0)), (1, .int x1)]) hx hb dX9_enemy_16 rfl hl (Nat.le_of_ble_eq_true rfl) rfl (fun ls hl => ?_)
    refine lv_iconst (v := 0) hx hb dX9_enemy_17 (by decide) ?_
    refine lv_istore_n (lv' := [(3, .int 0), (2, .int (-9)), (0, .ref (ad y 0)), (1, .int x1)]) hx hb dX9_enemy_18 rfl hl (Nat.le_of_ble_eq_true rfl) rfl (fun ls hl => ?_)
    obtain ⟨n19, hw⟩ := hw
    exact z_X9_enemy_L19 l y x1 C  K  n19 (-9) 0 st2 H locs _ hG (lv_sub hl [2, 3, 1, 0] rfl) hw
  · replace hw := hw.2 hc
    refine lv_aload_n hx hb dX9_enemy_8 rfl (lv_at hl 0 rfl) ?_
    refine lv_iconst (v := (-1)) hx hb dX9_enemy_9 (by decide) ?_
    refine r_ki (r_run_V (k := 0) (As := [.int (-1)]) (rest := []) hx hb hml hown hts hK hN hG (c_X9_no l y (-1) st2 _ hw) (by decide) rfl rfl rfl qM_X9_79 qI_X9_no qS_X9_no qN_X9 qC_X9_no hd_X9_no ⟨Nat.le_of_ble_eq_true rfl, Nat.le_of_ble_eq_true rfl⟩ hl.1 rfl (Nat.le_of_ble_eq_true rfl) dX9_enemy_10) hG (fun r10 st10 H locs hw hG => ?_)
    exact r_iret hx hb hr hlk hK hG rfl hw dX9_enemy_13
set_option maxRecDepth 100000 in
set_option maxHeartbeats 4000000 in
theorem z_X9_can_b48 {p : Program} {e : Env} {s : State} {m : MethodId} {args : Array Value} {below : List Frame} {meth : Method} {c : Code} (l : Launch) (y : Sy) (x1 : Int32) (C : Sd p s m args meth c cX9_can 5 RX9 (some .int) y) (c23 : Int32 → Int32 → St → Prop) (K : Int32 → St → Prop) (hc23 : ∀ (v3 : Int32) (v4 : Int32) (st : St) (H : Heap) (locs : List Loc) (ls : Array Slot), gH 17 enM y st s H locs → lv_has ls 5 [(0, .ref (ad y 0)), (1, .int x1), (3, .int v3), (4, .int v4)] → c23 v3 v4 st → W p l e (rmm 3 70) s m args below meth c H locs 0 0 (MQ below (va_Qi K (gB 17 enM y) (gA 17 y)) args s 0 0 (gA 17 y)) (F0 m 23 ls [])) (v4 : Int32) (s0 : Int32) (s1 : Int32) (st : St) {H : Heap} {locs : List Loc} {ls : Array Slot} (hG : gH 17 enM y st s H locs) (hl : lv_has ls 5 [(0, .ref (ad y 0)), (1, .int x1), (4, .int v4)]) (hw : w_X9_can_b48 x1 c23 K v4 s0 s1 st) : W p l e (rmm 3 70) s m args below meth c H locs 0 0 (MQ below (va_Qi K (gB 17 enM y) (gA 17 y)) args s 0 0 (gA 17 y)) (F0 m 48 ls [.int s0, .int s1]) := by
  obtain ⟨hx, hb, hml, hown, hts, hr, hlk, hK, hN⟩ := id C
  unfold w_X9_can_b48 at hw
  refine lv_ior hx hb dX9_can_48 ?_
  refine lv_istore_n (lv' := [(3, .int (s1 ||| s0)), (0, .ref (ad y 0)), (1, .int x1), (4, .int v4)]) hx hb dX9_can_49 rfl hl (Nat.le_of_ble_eq_true rfl) rfl (fun ls hl => ?_)
  refine lv_iinc (v := (v4 + 1)) (lv' := [(4, .int (v4 + 1)), (3, .int (s1 ||| s0)), (0, .ref (ad y 0)), (1, .int x1)]) hx hb dX9_can_50 hl (k := 3) rfl rfl (Nat.le_of_ble_eq_true rfl) rfl (fun ls hl => ?_)
  refine lv_goto (tgt := 23) hx hb dX9_can_53 (by decide) ?_
  exact hc23 (s1 ||| s0) (v4 + 1) st H locs _ hG (lv_sub hl [2, 3, 1, 0] rfl) hw
set_option maxRecDepth 100000 in
set_option maxHeartbeats 4000000 in
theorem z_X9_can_L23 {p : Program} {e : Env} {s : State} {m : MethodId} {args : Array Value} {below : List Frame} {meth : Method} {c : Code} (l : Launch) (y : Sy) (x1 : Int32) (C : Sd p s m args meth c cX9_can 5 RX9 (some .int) y)  (K : Int32 → St → Prop)  : ∀ (n : Nat) (v3 : Int32) (v4 : Int32) (st : St) (H : Heap) (locs : List Loc) (ls : Array Slot), gH 17 enM y st s H locs → lv_has ls 5 [(0, .ref (ad y 0)), (1, .int x1), (3, .int v3), (4, .int v4)] → w_X9_can_L23 x1  K n v3 v4 st → W p l e (rmm 3 70) s m args below meth c H locs 0 0 (MQ below (va_Qi K (gB 17 enM y) (gA 17 y)) args s 0 0 (gA 17 y)) (F0 m 23 ls []) := by
  obtain ⟨hx, hb, hml, hown, hts, hr, hlk, hK, hN⟩ := id C
  intro n
  induction n with
  | zero => intro v3 v4 st H locs ls hG hl hw; exact False.elim hw
  | succ n hc23 =>
    intro v3 v4 st H locs ls hG hl hw
    have hw : w_X9_can_L23q x1  K (fun v3 v4 st => w_X9_can_L23 x1  K n v3 v4 st) v3 v4 st := hw
    unfold w_X9_can_L23q at hw
    refine lv_iload hx hb dX9_can_23 (lv_at hl 3 rfl) ?_
    refine lv_iconst (v := 4) hx hb dX9_can_25 (by decide) ?_
    refine lv_icmp_ge (tgt := 56) hx hb dX9_can_26 (by decide) (fun hc => ?_) (fun hc => ?_)
    · replace hw := hw.1 hc
      refine lv_iload_n hx hb dX9_can_56 rfl (lv_at hl 2 rfl) ?_
      exact r_iret hx hb hr hlk hK hG rfl hw dX9_can_57
    · replace hw := hw.2 hc
      refine lv_iload_n hx hb dX9_can_29 rfl (lv_at hl 2 rfl) ?_
      refine lv_aload_n hx hb dX9_can_30 rfl (lv_at hl 0 rfl) ?_
      refine lv_iload hx hb dX9_can_31 (lv_at hl 3 rfl) ?_
      refine lv_iload_n hx hb dX9_can_33 rfl (lv_at hl 1 rfl) ?_
      refine r_ki (r_run_V (k := 0) (As := [.int v4, .int x1]) (rest := [.int v3]) hx hb hml hown hts hK hN hG (c_X9_opensAt l y v4 x1 st _ hw) (by decide) rfl rfl rfl qM_X9_199 qI_X9_opensAt qS_X9_opensAt qN_X9 qC_X9_opensAt hd_X9_opensAt ⟨Nat.le_of_ble_eq_true rfl, Nat.le_of_ble_eq_true rfl⟩ hl.1 rfl (Nat.le_of_ble_eq_true rfl) dX9_can_34) hG (fun r34 st34 H locs hw hG => ?_)
      refine lv_if_lt (tgt := 47) hx hb dX9_can_37 (by decide) (fun hc => ?_) (fun hc => ?_)
      · replace hw := hw.1 hc
        refine lv_iconst (v := 0) hx hb dX9_can_47 (by decide) ?_
        exact z_X9_can_b48 l y x1 C (fun v3 v4 st => w_X9_can_L23 x1  K n v3 v4 st) K hc23 v4 0 v3 st34 hG (lv_sub hl [0, 1, 3] rfl) hw
      · replace hw := hw.2 hc
        refine lv_iconst (v := 1) hx hb dX9_can_40 (by decide) ?_
        refine lv_iload hx hb dX9_can_41 (lv_at hl 3 rfl) ?_
        refine lv_ishl hx hb dX9_can_43 ?_
        refine lv_goto (tgt := 48) hx hb dX9_can_44 (by decide) ?_
        exact z_X9_can_b48 l y x1 C (fun v3 v4 st => w_X9_can_L23 x1  K n v3 v4 st) K hc23 v4 ((1 : Int32) <<< (v4 &&& 31)) v3 st34 hG (lv_sub hl [0, 1, 3] rfl) hw
theorem hd_X9_can : yX9_can.cls ≠ "java/lang/invoke/MethodHandle" ∧ yX9_can.cls ≠ "java/lang/invoke/VarHandle" ∧ (parseMethodDescriptor yX9_can.desc).map (fun d => d.parameters.length) = some 1 := by decide +kernel
set_option maxRecDepth 100000 in
set_option maxHeartbeats 4000000 in
theorem c_X9_can (l : Launch) (y : Sy) (x1 : Int32) (st : St) (K : Int32 → St → Prop) (hw : w_X9_can x1 st K) : Ci 17 enM l yX9_can cX9_can 5 (some .int) 3 70 y [.ref (ad y 0), .int x1] st K := by
  refine ent (by decide) (Nat.le_of_ble_eq_true rfl) ?_
  intro p e s m below meth c C hG ls hl
  have hl : lv_has ls 5 [(0, .ref (ad y 0)), (1, .int x1)] := hl
  generalize ([.ref (ad y 0), .int x1] : List Value).toArray = args at C ⊢
  have C : Sd p s m args meth c cX9_can 5 RX9 (some .int) y := C
  obtain ⟨hx, hb, hml, hown, hts, hr, hlk, hK, hN⟩ := id C
  generalize s.heap = H at hG ⊢
  generalize ([] : List Loc) = locs at hG ⊢
  unfold w_X9_can at hw
  refine lv_iload_n hx hb dX9_can_0 rfl (lv_at hl 1 rfl) ?_
  refine lv_iconst (v := 0) hx hb dX9_can_1 (by decide) ?_
  refine lv_bipush (v := 99) hx hb dX9_can_2 (by decide) ?_
  refine r_ki (r_run_S (As := [.int x1, .int 0, .int 99]) (rest := []) hx hb hml hown hts hK hN hG (c_X9_bound l y x1 0 99 st _ hw) qM_X9_72 qT_X9_bound qN_X9 qC_X9_bound hd_X9_bound ⟨Nat.le_of_ble_eq_true rfl, Nat.le_of_ble_eq_true rfl⟩ hl.1 rfl (Nat.le_of_ble_eq_true rfl) dX9_can_4) hG (fun r4 st4 H locs hw hG => ?_)
  refine lv_istore_n (lv' := [(2, .int r4), (0, .ref (ad y 0)), (1, .int x1)]) hx hb dX9_can_7 rfl hl (Nat.le_of_ble_eq_true rfl) rfl (fun ls hl => ?_)
  refine lv_iload_n hx hb dX9_can_8 rfl (lv_at hl 0 rfl) ?_
  refine lv_if_eq (tgt := 18) hx hb dX9_can_9 (by decide) (fun hc => ?_) (fun hc => ?_)
  · replace hw := hw.1 hc
    refine lv_iconst (v := 0) hx hb dX9_can_18 (by decide) ?_
    refine lv_istore_n (lv' := [(3, .int 0), (2, .int r4), (0, .ref (ad y 0)), (1, .int x1)]) hx hb dX9_can_19 rfl hl (Nat.le_of_ble_eq_true rfl) rfl (fun ls hl => ?_)
    refine lv_iconst (v := 0) hx hb dX9_can_20 (by decide) ?_
    refine lv_istore (lv' := [(4, .int 0), (3, .int 0), (2, .int r4), (0, .ref (ad y 0)), (1, .int x1)]) hx hb dX9_can_21 hl (Nat.le_of_ble_eq_true rfl) rfl (fun ls hl => ?_)
    obtain ⟨n23, hw⟩ := hw
    exact z_X9_can_L23 l y x1 C  K  n23 0 0 st4 H locs _ hG (lv_sub hl [3, 4, 1, 0] rfl) hw
  · replace hw := hw.2 hc
    refine lv_aload_n hx hb dX9_can_12 rfl (lv_at hl 1 rfl) ?_
    refine lv_iload_n hx hb dX9_can_13 rfl (lv_at hl 0 rfl) ?_
    refine r_ki (r_run_V (k := 0) (As := [.int r4]) (rest := []) hx hb hml hown hts hK hN hG (c_X9_no l y r4 st4 _ hw) (by decide) rfl rfl rfl qM_X9_79 qI_X9_no qS_X9_no qN_X9 qC_X9_no hd_X9_no ⟨Nat.le_of_ble_eq_true rfl, Nat.le_of_ble_eq_true rfl⟩ hl.1 rfl (Nat.le_of_ble_eq_true rfl) dX9_can_14) hG (fun r14 st14 H locs hw hG => ?_)
    exact r_iret hx hb hr hlk hK hG rfl hw dX9_can_17
set_option maxRecDepth 100000 in
set_option maxHeartbeats 4000000 in
theorem z_X9_row_b24 {p : Program} {e : Env} {s : State} {m : MethodId} {args : Array Value} {below : List Frame} {meth : Method} {c : Code} (l : Launch) (y : Sy) (x1 : Int32) (C : Sd p s m args meth c cX9_row 3 RX9 (some .int) y)  (K : Int32 → St → Prop)  (v2 : Int32) (st : St) {H : Heap} {locs : List Loc} {ls : Array Slot} (hG : gH 17 enM y st s H locs) (hl : lv_has ls 3 [(0, .ref (ad y 0)), (1, .int x1), (2, .int v2)]) (hw : w_X9_row_b24 x1  K v2 st) : W p l e (rmm 1 22) s m args below meth c H locs 0 0 (MQ below (va_Qi K (gB 17 enM y) (gA 17 y)) args s 0 0 (gA 17 y)) (F0 m 24 ls []) := by
  obtain ⟨hx, hb, hml, hown, hts, hr, hlk, hK, hN⟩ := id C
  unfold w_X9_row_b24 at hw
  refine lv_iload_n hx hb dX9_row_24 rfl (lv_at hl 2 rfl) ?_
  refine lv_if_eq (tgt := 34) hx hb dX9_row_25 (by decide) (fun hc => ?_) (fun hc => ?_)
  · replace hw := hw.1 hc
    refine lv_aload_n hx hb dX9_row_34 rfl (lv_at hl 0 rfl) ?_
    refine r_get (C := RX9) (T := TX9) (Nf := 31) hx hb hts hown hK hG (by decide) rfl rfl inX9 28 (by decide) qF_X9_55 rfl dX9_row_35 ?_
    refine lv_aload_n hx hb dX9_row_38 rfl (lv_at hl 0 rfl) ?_
    refine r_get (C := RX9) (T := TX9) (Nf := 31) hx hb hts hown hK hG (by decide) rfl rfl inX9 29 (by decide) qF_X9_268 rfl dX9_row_39 ?_
    refine lv_iload_n hx hb dX9_row_42 rfl (lv_at hl 1 rfl) ?_
    obtain ⟨hi, hw⟩ := hw
    refine r_iast hx hb hK hG (isB_16).1 (fun f => (isB_16).2 y f) hi dX9_row_43 (fun H locs hG => ?_)
    refine lv_aload_n hx hb dX9_row_44 rfl (lv_at hl 0 rfl) ?_
    refine lv_dup hx hb dX9_row_45 rfl ?_
    refine r_get (C := RX9) (T := TX9) (Nf := 31) hx hb hts hown hK hG (by decide) rfl rfl inX9 29 (by decide) qF_X9_268 rfl dX9_row_46 ?_
    refine lv_iconst (v := 1) hx hb dX9_row_49 (by decide) ?_
    refine lv_iadd hx hb dX9_row_50 ?_
    refine r_put (C := RX9) (T := TX9) (Nf := 31) hx hb hts hown hK hG (by decide) rfl rfl inX9 tyX9_ok nmX9 29 (by decide) qF_X9_268 rfl (((u2 st 16 ((st 0 29)).toNatClampNeg x1) 0 29) + 1) rfl rfl rfl (Nat.le_of_ble_eq_true rfl) dX9_row_51 (fun H locs hG => ?_)
    refine lv_aload_n hx hb dX9_row_54 rfl (lv_at hl 0 rfl) ?_
    refine r_get (C := RX9) (T := TX9) (Nf := 31) hx hb hts hown hK hG (by decide) rfl rfl inX9 29 (by decide) qF_X9_268 rfl dX9_row_55 ?_
    exact r_iret hx hb hr hlk hK hG rfl hw dX9_row_58
  · replace hw := hw.2 hc
    refine lv_aload_n hx hb dX9_row_28 rfl (lv_at hl 0 rfl) ?_
    refine lv_iload_n hx hb dX9_row_29 rfl (lv_at hl 2 rfl) ?_
    refine r_ki (r_run_V (k := 0) (As := [.int v2]) (rest := []) hx hb hml hown hts hK hN hG (c_X9_no l y v2 st _ hw) (by decide) rfl rfl rfl qM_X9_79 qI_X9_no qS_X9_no qN_X9 qC_X9_no hd_X9_no ⟨Nat.le_of_ble_eq_true rfl, Nat.le_of_ble_eq_true rfl⟩ hl.1 rfl (Nat.le_of_ble_eq_true rfl) dX9_row_30) hG (fun r30 st30 H locs hw hG => ?_)
    exact r_iret hx hb hr hlk hK hG rfl hw dX9_row_33
theorem hd_X9_row : yX9_row.cls ≠ "java/lang/invoke/MethodHandle" ∧ yX9_row.cls ≠ "java/lang/invoke/VarHandle" ∧ (parseMethodDescriptor yX9_row.desc).map (fun d => d.parameters.length) = some 1 := by decide +kernel
set_option maxRecDepth 100000 in
set_option maxHeartbeats 4000000 in
theorem c_X9_row (l : Launch) (y : Sy) (x1 : Int32) (st : St) (K : Int32 → St → Prop) (hw : w_X9_row x1 st K) : Ci 17 enM l yX9_row cX9_row 3 (some .int) 1 22 y [.ref (ad y 0), .int x1] st K := by
  refine ent (by decide) (Nat.le_of_ble_eq_true rfl) ?_
  intro p e s m below meth c C hG ls hl
  have hl : lv_has ls 3 [(0, .ref (ad y 0)), (1, .int x1)] := hl
  generalize ([.ref (ad y 0), .int x1] : List Value).toArray = args at C ⊢
  have C : Sd p s m args meth c cX9_row 3 RX9 (some .int) y := C
  obtain ⟨hx, hb, hml, hown, hts, hr, hlk, hK, hN⟩ := id C
  generalize s.heap = H at hG ⊢
  generalize ([] : List Loc) = locs at hG ⊢
  unfold w_X9_row at hw
  refine lv_iload_n hx hb dX9_row_0 rfl (lv_at hl 1 rfl) ?_
  refine lv_iconst (v := 0) hx hb dX9_row_1 (by decide) ?_
  refine lv_bipush (v := 99) hx hb dX9_row_2 (by decide) ?_
  refine r_ki (r_run_S (As := [.int x1, .int 0, .int 99]) (rest := []) hx hb hml hown hts hK hN hG (c_X9_bound l y x1 0 99 st _ hw) qM_X9_72 qT_X9_bound qN_X9 qC_X9_bound hd_X9_bound ⟨Nat.le_of_ble_eq_true rfl, Nat.le_of_ble_eq_true rfl⟩ hl.1 rfl (Nat.le_of_ble_eq_true rfl) dX9_row_4) hG (fun r4 st4 H locs hw hG => ?_)
  refine lv_istore_n (lv' := [(2, .int r4), (0, .ref (ad y 0)), (1, .int x1)]) hx hb dX9_row_7 rfl hl (Nat.le_of_ble_eq_true rfl) rfl (fun ls hl => ?_)
  refine lv_iload_n hx hb dX9_row_8 rfl (lv_at hl 0 rfl) ?_
  refine lv_if_ne (tgt := 24) hx hb dX9_row_9 (by decide) (fun hc => ?_) (fun hc => ?_)
  · replace hw := hw.1 hc
    exact z_X9_row_b24 l y x1 C  K  r4 st4 hG (lv_sub hl [1, 2, 0] rfl) hw
  · replace hw := hw.2 hc
    refine lv_aload_n hx hb dX9_row_12 rfl (lv_at hl 1 rfl) ?_
    refine r_get (C := RX9) (T := TX9) (Nf := 31) hx hb hts hown hK hG (by decide) rfl rfl inX9 29 (by decide) qF_X9_268 rfl dX9_row_13 ?_
    refine lv_bipush (v := 12) hx hb dX9_row_16 (by decide) ?_
    refine lv_icmp_ne (tgt := 24) hx hb dX9_row_18 (by decide) (fun hc => ?_) (fun hc => ?_)
    · replace hw := hw.1 hc
      exact z_X9_row_b24 l y x1 C  K  r4 st4 hG (lv_sub hl [1, 2, 0] rfl) hw
    · replace hw := hw.2 hc
      refine lv_bipush (v := (-6)) hx hb dX9_row_21 (by decide) ?_
      refine lv_istore_n (lv' := [(2, .int (-6)), (0, .ref (ad y 0)), (1, .int x1)]) hx hb dX9_row_23 rfl hl (Nat.le_of_ble_eq_true rfl) rfl (fun ls hl => ?_)
      exact z_X9_row_b24 l y x1 C  K  (-6) st4 hG (lv_sub hl [1, 2, 0] rfl) hw
set_option maxRecDepth 100000 in
set_option maxHeartbeats 4000000 in
theorem z_X9_judge_b54 {p : Program} {e : Env} {s : State} {m : MethodId} {args : Array Value} {below : List Frame} {meth : Method} {c : Code} (l : Launch) (y : Sy) (x1 : Int32) (C : Sd p s m args meth c cX9_judge 4 RX9 (some .int) y) (c26 : Int32 → Int32 → St → Prop) (K : Int32 → St → Prop) (hc26 : ∀ (v2 : Int32) (v3 : Int32) (st : St) (H : Heap) (locs : List Loc) (ls : Array Slot), gH 17 enM y st s H locs → lv_has ls 4 [(0, .ref (ad y 0)), (1, .int x1), (2, .int v2), (3, .int v3)] → c26 v2 v3 st → W p l e (rmm 1 22) s m args below meth c H locs 0 0 (MQ below (va_Qi K (gB 17 enM y) (gA 17 y)) args s 0 0 (gA 17 y)) (F0 m 26 ls [])) (v2 : Int32) (v3 : Int32) (s0 : Int32) (st : St) {H : Heap} {locs : List Loc} {ls : Array Slot} (hG : gH 17 enM y st s H locs) (hl : lv_has ls 4 [(0, .ref (ad y 0)), (1, .int x1), (2, .int v2), (3, .int v3)]) (hw : w_X9_judge_b54 x1 c26 K v2 v3 s0 st) : W p l e (rmm 1 22) s m args below meth c H locs 0 0 (MQ below (va_Qi K (gB 17 enM y) (gA 17 y)) args s 0 0 (gA 17 y)) (F0 m 54 ls [.int s0]) := by
  obtain ⟨hx, hb, hml, hown, hts, hr, hlk, hK, hN⟩ := id C
  unfold w_X9_judge_b54 at hw
  refine lv_aload_n hx hb dX9_judge_54 rfl (lv_at hl 0 rfl) ?_
  refine r_get (C := RX9) (T := TX9) (Nf := 31) hx hb hts hown hK hG (by decide) rfl rfl inX9 28 (by decide) qF_X9_55 rfl dX9_judge_55 ?_
  refine lv_iload_n hx hb dX9_judge_58 rfl (lv_at hl 3 rfl) ?_
  obtain ⟨hi, hw⟩ := hw
  refine r_iald hx hb hK hG (isB_16).1 ((isB_16).2 y _) hi dX9_judge_59 ?_
  refine lv_icmp_eq (tgt := 65) hx hb dX9_judge_60 (by decide) (fun hc => ?_) (fun hc => ?_)
  · replace hw := hw.1 hc
    refine lv_iinc (v := (v3 + 1)) (lv' := [(3, .int (v3 + 1)), (0, .ref (ad y 0)), (1, .int x1), (2, .int v2)]) hx hb dX9_judge_65 hl (k := 3) rfl rfl (Nat.le_of_ble_eq_true rfl) rfl (fun ls hl => ?_)
    refine lv_goto (tgt := 26) hx hb dX9_judge_68 (by decide) ?_
    exact hc26 v2 (v3 + 1) st H locs _ hG (lv_sub hl [1, 2, 3, 0] rfl) hw
  · replace hw := hw.2 hc
    refine lv_iload_n hx hb dX9_judge_63 rfl (lv_at hl 3 rfl) ?_
    exact r_iret hx hb hr hlk hK hG rfl hw dX9_judge_64
set_option maxRecDepth 100000 in
set_option maxHeartbeats 4000000 in
theorem z_X9_judge_L26 {p : Program} {e : Env} {s : State} {m : MethodId} {args : Array Value} {below : List Frame} {meth : Method} {c : Code} (l : Launch) (y : Sy) (x1 : Int32) (C : Sd p s m args meth c cX9_judge 4 RX9 (some .int) y)  (K : Int32 → St → Prop)  : ∀ (n : Nat) (v2 : Int32) (v3 : Int32) (st : St) (H : Heap) (locs : List Loc) (ls : Array Slot), gH 17 enM y st s H locs → lv_has ls 4 [(0, .ref (ad y 0)), (1, .int x1), (2, .int v2), (3, .int v3)] → w_X9_judge_L26 x1  K n v2 v3 st → W p l e (rmm 1 22) s m args below meth c H locs 0 0 (MQ below (va_Qi K (gB 17 enM y) (gA 17 y)) args s 0 0 (gA 17 y)) (F0 m 26 ls []) := by
  obtain ⟨hx, hb, hml, hown, hts, hr, hlk, hK, hN⟩ := id C
  intro n
  induction n with
  | zero => intro v2 v3 st H locs ls hG hl hw; exact False.elim hw
  | succ n hc26 =>
    intro v2 v3 st H locs ls hG hl hw
    have hw : w_X9_judge_L26q x1  K (fun v2 v3 st => w_X9_judge_L26 x1  K n v2 v3 st) v2 v3 st := hw
    unfold w_X9_judge_L26q at hw
    refine lv_iload_n hx hb dX9_judge_26 rfl (lv_at hl 3 rfl) ?_
    refine lv_iload_n hx hb dX9_judge_27 rfl (lv_at hl 2 rfl) ?_
    refine lv_icmp_ge (tgt := 71) hx hb dX9_judge_28 (by decide) (fun hc => ?_) (fun hc => ?_)
    · replace hw := hw.1 hc
      refine lv_bipush (v := (-9)) hx hb dX9_judge_71 (by decide) ?_
      exact r_iret hx hb hr hlk hK hG rfl hw dX9_judge_73
    · replace hw := hw.2 hc
      refine lv_iload_n hx hb dX9_judge_31 rfl (lv_at hl 3 rfl) ?_
      refine lv_aload_n hx hb dX9_judge_32 rfl (lv_at hl 0 rfl) ?_
      refine r_get (C := RX9) (T := TX9) (Nf := 31) hx hb hts hown hK hG (by decide) rfl rfl inX9 8 (by decide) qF_X9_65 rfl dX9_judge_33 ?_
      refine lv_icmp_ge (tgt := 63) hx hb dX9_judge_36 (by decide) (fun hc => ?_) (fun hc => ?_)
      · replace hw := hw.1 hc
        refine lv_iload_n hx hb dX9_judge_63 rfl (lv_at hl 3 rfl) ?_
        exact r_iret hx hb hr hlk hK hG rfl hw dX9_judge_64
      · replace hw := hw.2 hc
        refine lv_iload_n hx hb dX9_judge_39 rfl (lv_at hl 3 rfl) ?_
        refine lv_iload_n hx hb dX9_judge_40 rfl (lv_at hl 1 rfl) ?_
        refine lv_icmp_ne (tgt := 48) hx hb dX9_judge_41 (by decide) (fun hc => ?_) (fun hc => ?_)
        · replace hw := hw.1 hc
          refine lv_aload_n hx hb dX9_judge_48 rfl (lv_at hl 0 rfl) ?_
          refine lv_iload_n hx hb dX9_judge_49 rfl (lv_at hl 1 rfl) ?_
          refine lv_iload_n hx hb dX9_judge_50 rfl (lv_at hl 3 rfl) ?_
          refine r_ki (r_run_V (k := 0) (As := [.int x1, .int v3]) (rest := []) hx hb hml hown hts hK hN hG (c_X9_hateOf l y x1 v3 st _ hw) (by decide) rfl rfl rfl qM_X9_180 qI_X9_hateOf qS_X9_hateOf qN_X9 qC_X9_hateOf hd_X9_hateOf ⟨Nat.le_of_ble_eq_true rfl, Nat.le_of_ble_eq_true rfl⟩ hl.1 rfl (Nat.le_of_ble_eq_true rfl) dX9_judge_51) hG (fun r51 st51 H locs hw hG => ?_)
          exact z_X9_judge_b54 l y x1 C (fun v2 v3 st => w_X9_judge_L26 x1  K n v2 v3 st) K hc26 v2 v3 r51 st51 hG (lv_sub hl [0, 1, 2, 3] rfl) hw
        · replace hw := hw.2 hc
          refine lv_iconst (v := 0) hx hb dX9_judge_44 (by decide) ?_
          refine lv_goto (tgt := 54) hx hb dX9_judge_45 (by decide) ?_
          exact z_X9_judge_b54 l y x1 C (fun v2 v3 st => w_X9_judge_L26 x1  K n v2 v3 st) K hc26 v2 v3 0 st hG (lv_sub hl [0, 1, 2, 3] rfl) hw
theorem hd_X9_judge : yX9_judge.cls ≠ "java/lang/invoke/MethodHandle" ∧ yX9_judge.cls ≠ "java/lang/invoke/VarHandle" ∧ (parseMethodDescriptor yX9_judge.desc).map (fun d => d.parameters.length) = some 1 := by decide +kernel
set_option maxRecDepth 100000 in
set_option maxHeartbeats 4000000 in
theorem c_X9_judge (l : Launch) (y : Sy) (x1 : Int32) (st : St) (K : Int32 → St → Prop) (hw : w_X9_judge x1 st K) : Ci 17 enM l yX9_judge cX9_judge 4 (some .int) 1 22 y [.ref (ad y 0), .int x1] st K := by
  refine ent (by decide) (Nat.le_of_ble_eq_true rfl) ?_
  intro p e s m below meth c C hG ls hl
  have hl : lv_has ls 4 [(0, .ref (ad y 0)), (1, .int x1)] := hl
  generalize ([.ref (ad y 0), .int x1] : List Value).toArray = args at C ⊢
  have C : Sd p s m args meth c cX9_judge 4 RX9 (some .int) y := C
  obtain ⟨hx, hb, hml, hown, hts, hr, hlk, hK, hN⟩ := id C
  generalize s.heap = H at hG ⊢
  generalize ([] : List Loc) = locs at hG ⊢
  unfold w_X9_judge at hw
  refine lv_aload_n hx hb dX9_judge_0 rfl (lv_at hl 0 rfl) ?_
  refine lv_iload_n hx hb dX9_judge_1 rfl (lv_at hl 1 rfl) ?_
  refine r_ki (r_run_V (k := 0) (As := [.int x1]) (rest := []) hx hb hml hown hts hK hN hG (c_X9_isKeeper l y x1 st _ hw) (by decide) rfl rfl rfl qM_X9_68 qI_X9_isKeeper qS_X9_isKeeper qN_X9 qC_X9_isKeeper hd_X9_isKeeper ⟨Nat.le_of_ble_eq_true rfl, Nat.le_of_ble_eq_true rfl⟩ hl.1 rfl (Nat.le_of_ble_eq_true rfl) dX9_judge_2) hG (fun r2 st2 H locs hw hG => ?_)
  refine lv_if_ne (tgt := 14) hx hb dX9_judge_5 (by decide) (fun hc => ?_) (fun hc => ?_)
  · replace hw := hw.1 hc
    refine lv_aload_n hx hb dX9_judge_14 rfl (lv_at hl 0 rfl) ?_
    refine r_get (C := RX9) (T := TX9) (Nf := 31) hx hb hts hown hK hG (by decide) rfl rfl inX9 29 (by decide) qF_X9_268 rfl dX9_judge_15 ?_
    refine lv_istore_n (lv' := [(2, .int (st2 0 29)), (0, .ref (ad y 0)), (1, .int x1)]) hx hb dX9_judge_18 rfl hl (Nat.le_of_ble_eq_true rfl) rfl (fun ls hl => ?_)
    refine lv_aload_n hx hb dX9_judge_19 rfl (lv_at hl 1 rfl) ?_
    refine lv_iconst (v := 0) hx hb dX9_judge_20 (by decide) ?_
    refine r_put (C := RX9) (T := TX9) (Nf := 31) hx hb hts hown hK hG (by decide) rfl rfl inX9 tyX9_ok nmX9 29 (by decide) qF_X9_268 rfl 0 rfl rfl rfl (Nat.le_of_ble_eq_true rfl) dX9_judge_21 (fun H locs hG => ?_)
    refine lv_iconst (v := 0) hx hb dX9_judge_24 (by decide) ?_
    refine lv_istore_n (lv' := [(3, .int 0), (2, .int (st2 0 29)), (0, .ref (ad y 0)), (1, .int x1)]) hx hb dX9_judge_25 rfl hl (Nat.le_of_ble_eq_true rfl) rfl (fun ls hl => ?_)
    obtain ⟨n26, hw⟩ := hw
    exact z_X9_judge_L26 l y x1 C  K  n26 (st2 0 29) 0 (u2 st2 0 29 0) H locs _ hG (lv_sub hl [2, 3, 1, 0] rfl) hw
  · replace hw := hw.2 hc
    refine lv_aload_n hx hb dX9_judge_8 rfl (lv_at hl 0 rfl) ?_
    refine lv_iconst (v := (-1)) hx hb dX9_judge_9 (by decide) ?_
    refine r_ki (r_run_V (k := 0) (As := [.int (-1)]) (rest := []) hx hb hml hown hts hK hN hG (c_X9_no l y (-1) st2 _ hw) (by decide) rfl rfl rfl qM_X9_79 qI_X9_no qS_X9_no qN_X9 qC_X9_no hd_X9_no ⟨Nat.le_of_ble_eq_true rfl, Nat.le_of_ble_eq_true rfl⟩ hl.1 rfl (Nat.le_of_ble_eq_true rfl) dX9_judge_10) hG (fun r10 st10 H locs hw hG => ?_)
    exact r_iret hx hb hr hlk hK hG rfl hw dX9_judge_13
