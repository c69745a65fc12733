set_option maxRecDepth 100000 in
set_option maxHeartbeats 4000000 in
theorem z_X1_passWeek_b57 {p : Program} {e : Env} {s : State} {m : MethodId} {args : Array Value} {below : List Frame} {meth : Method} {c : Code} (l : Launch) (y : Sy) (k0 : Nat) (h0 : isC k0) (C : Sd p s m args meth c cX1_passWeek 4 RX1 (some .int) y) (c12 : Int32 → St → Prop) (K : Int32 → St → Prop) (hc12 : ∀ (v1 : Int32) (st : St) (H : Heap) (locs : List Loc) (ls : Array Slot), gH 107 enX y st s H locs → lv_has ls 4 [(0, .ref (ad y k0)), (1, .int v1)] → c12 v1 st → W p l e (rmm 3 72) s m args below meth c H locs 0 0 (MQ below (va_Qi K (gB 107 enX y) (gA 107 y)) args s 0 0 (gA 107 y)) (F0 m 12 ls [])) (v1 : Int32) (st : St) {H : Heap} {locs : List Loc} {ls : Array Slot} (hG : gH 107 enX y st s H locs) (hl : lv_has ls 4 [(0, .ref (ad y k0)), (1, .int v1)]) (hw : w_X1_passWeek_b57 k0 c12 K v1 st) : W p l e (rmm 3 72) s m args below meth c H locs 0 0 (MQ below (va_Qi K (gB 107 enX y) (gA 107 y)) args s 0 0 (gA 107 y)) (F0 m 57 ls []) := by
  obtain ⟨hx, hb, hml, hown, hts, hr, hlk, hK, hN⟩ := id C
  unfold w_X1_passWeek_b57 at hw
  refine lv_iinc (v := (v1 + 1)) (lv' := [(1, .int (v1 + 1)), (0, .ref (ad y k0))]) hx hb dX1_passWeek_57 hl (k := 1) rfl rfl (Nat.le_of_ble_eq_true rfl) rfl (fun ls hl => ?_)
  refine lv_goto (tgt := 12) hx hb dX1_passWeek_60 (by decide) ?_
  exact hc12 (v1 + 1) st H locs _ hG (lv_sub hl [1, 0] rfl) hw
set_option maxRecDepth 100000 in
set_option maxHeartbeats 4000000 in
theorem z_X1_passWeek_L24 {p : Program} {e : Env} {s : State} {m : MethodId} {args : Array Value} {below : List Frame} {meth : Method} {c : Code} (l : Launch) (y : Sy) (k0 : Nat) (h0 : isC k0) (C : Sd p s m args meth c cX1_passWeek 4 RX1 (some .int) y) (c12 : Int32 → St → Prop) (K : Int32 → St → Prop) (hc12 : ∀ (v1 : Int32) (st : St) (H : Heap) (locs : List Loc) (ls : Array Slot), gH 107 enX y st s H locs → lv_has ls 4 [(0, .ref (ad y k0)), (1, .int v1)] → c12 v1 st → W p l e (rmm 3 72) s m args below meth c H locs 0 0 (MQ below (va_Qi K (gB 107 enX y) (gA 107 y)) args s 0 0 (gA 107 y)) (F0 m 12 ls [])) : ∀ (n : Nat) (v1 : Int32) (v2 : Int32) (st : St) (H : Heap) (locs : List Loc) (ls : Array Slot), gH 107 enX y st s H locs → lv_has ls 4 [(0, .ref (ad y k0)), (1, .int v1), (2, .int v2)] → w_X1_passWeek_L24 k0 c12 K n v1 v2 st → W p l e (rmm 3 72) s m args below meth c H locs 0 0 (MQ below (va_Qi K (gB 107 enX y) (gA 107 y)) args s 0 0 (gA 107 y)) (F0 m 24 ls []) := by
  obtain ⟨hx, hb, hml, hown, hts, hr, hlk, hK, hN⟩ := id C
  intro n
  induction n with
  | zero => intro v1 v2 st H locs ls hG hl hw; exact False.elim hw
  | succ n hc24 =>
    intro v1 v2 st H locs ls hG hl hw
    have hw : w_X1_passWeek_L24q k0 c12 K (fun v1 v2 st => w_X1_passWeek_L24 k0 c12 K n v1 v2 st) v1 v2 st := hw
    unfold w_X1_passWeek_L24q at hw
    refine lv_iload_n hx hb dX1_passWeek_24 rfl (lv_at hl 2 rfl) ?_
    refine lv_aload_n hx hb dX1_passWeek_25 rfl (lv_at hl 0 rfl) ?_
    refine r_get (C := RX1) (T := TX1) (Nf := 11) hx hb hts hown hK hG (isC.lt h0) (isC.e h0 y _) rfl inX1 7 (by decide) qF_X1_43 rfl dX1_passWeek_26 ?_
    refine lv_icmp_ge (tgt := 57) hx hb dX1_passWeek_29 (by decide) (fun hc => ?_) (fun hc => ?_)
    · replace hw := hw.1 hc
      exact z_X1_passWeek_b57 l y k0 h0 C c12 K hc12 v1 st hG (lv_sub hl [0, 1] rfl) hw
    · replace hw := hw.2 hc
      refine lv_aload_n hx hb dX1_passWeek_32 rfl (lv_at hl 0 rfl) ?_
      refine lv_iload_n hx hb dX1_passWeek_33 rfl (lv_at hl 1 rfl) ?_
      refine lv_iload_n hx hb dX1_passWeek_34 rfl (lv_at hl 2 rfl) ?_
      refine lv_aload_n hx hb dX1_passWeek_35 rfl (lv_at hl 0 rfl) ?_
      refine lv_iload_n hx hb dX1_passWeek_36 rfl (lv_at hl 1 rfl) ?_
      refine lv_iload_n hx hb dX1_passWeek_37 rfl (lv_at hl 2 rfl) ?_
      refine r_ki (r_run_V (k := k0) (As := [.int v1, .int v2]) (rest := [.int v2, .int v1, .ref (ad y k0)]) hx hb hml hown hts hK hN hG (c_X1_hateOf l y k0 h0 v1 v2 st _ hw) (isC.lt h0) (isC.e h0 y _) rfl rfl qM_X1_93 qI_X1_hateOf qS_X1_hateOf qN_X1 qC_X1_hateOf hd_X1_hateOf ⟨Nat.le_of_ble_eq_true rfl, Nat.le_of_ble_eq_true rfl⟩ hl.1 rfl (Nat.le_of_ble_eq_true rfl) dX1_passWeek_38) hG (fun r38 st38 H locs hw hG => ?_)
      refine lv_aload_n hx hb dX1_passWeek_41 rfl (lv_at hl 0 rfl) ?_
      refine lv_iload_n hx hb dX1_passWeek_42 rfl (lv_at hl 1 rfl) ?_
      refine lv_iload_n hx hb dX1_passWeek_43 rfl (lv_at hl 2 rfl) ?_
      refine r_ki (r_run_V (k := k0) (As := [.int v1, .int v2]) (rest := [.int r38, .int v2, .int v1, .ref (ad y k0)]) hx hb hml hown hts hK hN hG (c_X1_change l y k0 h0 v1 v2 st38 _ hw) (isC.lt h0) (isC.e h0 y _) rfl rfl qM_X1_121 qI_X1_change qS_X1_change qN_X1 qC_X1_change hd_X1_change ⟨Nat.le_of_ble_eq_true rfl, Nat.le_of_ble_eq_true rfl⟩ hl.1 rfl (Nat.le_of_ble_eq_true rfl) dX1_passWeek_44) hG (fun r44 st44 H locs hw hG => ?_)
      refine lv_iadd hx hb dX1_passWeek_47 ?_
      refine r_kv (r_run_V (k := k0) (As := [.int v1, .int v2, .int (r38 + r44)]) (rest := []) hx hb hml hown hts hK hN hG (c_X1_setHate l y k0 h0 v1 v2 (r38 + r44) st44 _ hw) (isC.lt h0) (isC.e h0 y _) rfl rfl qM_X1_100 qI_X1_setHate qS_X1_setHate qN_X1 qC_X1_setHate hd_X1_setHate ⟨Nat.le_of_ble_eq_true rfl, Nat.le_of_ble_eq_true rfl⟩ hl.1 rfl (Nat.le_of_ble_eq_true rfl) dX1_passWeek_48) hG (fun st48 H locs hw hG => ?_)
      refine lv_iinc (v := (v2 + 1)) (lv' := [(2, .int (v2 + 1)), (0, .ref (ad y k0)), (1, .int v1)]) hx hb dX1_passWeek_51 hl (k := 2) rfl rfl (Nat.le_of_ble_eq_true rfl) rfl (fun ls hl => ?_)
      refine lv_goto (tgt := 24) hx hb dX1_passWeek_54 (by decide) ?_
      exact hc24 v1 (v2 + 1) st48 H locs _ hG (lv_sub hl [1, 2, 0] rfl) hw
set_option maxRecDepth 100000 in
set_option maxHeartbeats 4000000 in
theorem z_X1_passWeek_b153 {p : Program} {e : Env} {s : State} {m : MethodId} {args : Array Value} {below : List Frame} {meth : Method} {c : Code} (l : Launch) (y : Sy) (k0 : Nat) (h0 : isC k0) (C : Sd p s m args meth c cX1_passWeek 4 RX1 (some .int) y) (c67 : Int32 → Int32 → St → Prop) (K : Int32 → St → Prop) (hc67 : ∀ (v1 : Int32) (v2 : Int32) (st : St) (H : Heap) (locs : List Loc) (ls : Array Slot), gH 107 enX y st s H locs → lv_has ls 4 [(0, .ref (ad y k0)), (1, .int v1), (2, .int v2)] → c67 v1 v2 st → W p l e (rmm 3 72) s m args below meth c H locs 0 0 (MQ below (va_Qi K (gB 107 enX y) (gA 107 y)) args s 0 0 (gA 107 y)) (F0 m 67 ls [])) (v1 : Int32) (v2 : Int32) (st : St) {H : Heap} {locs : List Loc} {ls : Array Slot} (hG : gH 107 enX y st s H locs) (hl : lv_has ls 4 [(0, .ref (ad y k0)), (1, .int v1), (2, .int v2)]) (hw : w_X1_passWeek_b153 k0 c67 K v1 v2 st) : W p l e (rmm 3 72) s m args below meth c H locs 0 0 (MQ below (va_Qi K (gB 107 enX y) (gA 107 y)) args s 0 0 (gA 107 y)) (F0 m 153 ls []) := by
  obtain ⟨hx, hb, hml, hown, hts, hr, hlk, hK, hN⟩ := id C
  unfold w_X1_passWeek_b153 at hw
  refine lv_iinc (v := (v2 + 1)) (lv' := [(2, .int (v2 + 1)), (0, .ref (ad y k0)), (1, .int v1)]) hx hb dX1_passWeek_153 hl (k := 2) rfl rfl (Nat.le_of_ble_eq_true rfl) rfl (fun ls hl => ?_)
  refine lv_goto (tgt := 67) hx hb dX1_passWeek_156 (by decide) ?_
  exact hc67 v1 (v2 + 1) st H locs _ hG (lv_sub hl [1, 2, 0] rfl) hw
set_option maxRecDepth 100000 in
set_option maxHeartbeats 4000000 in
theorem z_X1_passWeek_b93 {p : Program} {e : Env} {s : State} {m : MethodId} {args : Array Value} {below : List Frame} {meth : Method} {c : Code} (l : Launch) (y : Sy) (k0 : Nat) (h0 : isC k0) (C : Sd p s m args meth c cX1_passWeek 4 RX1 (some .int) y) (c67 : Int32 → Int32 → St → Prop) (K : Int32 → St → Prop) (hc67 : ∀ (v1 : Int32) (v2 : Int32) (st : St) (H : Heap) (locs : List Loc) (ls : Array Slot), gH 107 enX y st s H locs → lv_has ls 4 [(0, .ref (ad y k0)), (1, .int v1), (2, .int v2)] → c67 v1 v2 st → W p l e (rmm 3 72) s m args below meth c H locs 0 0 (MQ below (va_Qi K (gB 107 enX y) (gA 107 y)) args s 0 0 (gA 107 y)) (F0 m 67 ls [])) (v1 : Int32) (v2 : Int32) (s0 : Int32) (st : St) {H : Heap} {locs : List Loc} {ls : Array Slot} (hG : gH 107 enX y st s H locs) (hl : lv_has ls 4 [(0, .ref (ad y k0)), (1, .int v1), (2, .int v2)]) (hw : w_X1_passWeek_b93 k0 c67 K v1 v2 s0 st) : W p l e (rmm 3 72) s m args below meth c H locs 0 0 (MQ below (va_Qi K (gB 107 enX y) (gA 107 y)) args s 0 0 (gA 107 y)) (F0 m 93 ls [.int s0]) := by
  obtain ⟨hx, hb, hml, hown, hts, hr, hlk, hK, hN⟩ := id C
  unfold w_X1_passWeek_b93 at hw
  refine lv_istore_n (lv' := [(3, .int s0), (0, .ref (ad y k0)), (1, .int v1), (2, .int v2)]) hx hb dX1_passWeek_93 rfl hl (Nat.le_of_ble_eq_true rfl) rfl (fun ls hl => ?_)
  refine lv_iload_n hx hb dX1_passWeek_94 rfl (lv_at hl 0 rfl) ?_
  refine lv_bipush (v := (-9)) hx hb dX1_passWeek_95 (by decide) ?_
  refine lv_icmp_eq (tgt := 153) hx hb dX1_passWeek_97 (by decide) (fun hc => ?_) (fun hc => ?_)
  · replace hw := hw.1 hc
    exact z_X1_passWeek_b153 l y k0 h0 C c67 K hc67 v1 v2 st hG (lv_sub hl [1, 2, 3] rfl) hw
  · replace hw := hw.2 hc
    refine lv_iload_n hx hb dX1_passWeek_100 rfl (lv_at hl 2 rfl) ?_
    refine lv_iconst (v := 1) hx hb dX1_passWeek_101 (by decide) ?_
    refine lv_iload_n hx hb dX1_passWeek_102 rfl (lv_at hl 3 rfl) ?_
    refine lv_ishl hx hb dX1_passWeek_103 ?_
    refine lv_ior hx hb dX1_passWeek_104 ?_
    refine lv_istore_n (lv' := [(1, .int (v1 ||| ((1 : Int32) <<< (v2 &&& 31)))), (3, .int s0), (0, .ref (ad y k0)), (2, .int v2)]) hx hb dX1_passWeek_105 rfl hl (Nat.le_of_ble_eq_true rfl) rfl (fun ls hl => ?_)
    refine lv_aload_n hx hb dX1_passWeek_106 rfl (lv_at hl 2 rfl) ?_
    refine lv_dup hx hb dX1_passWeek_107 rfl ?_
    refine r_get (C := RX1) (T := TX1) (Nf := 11) hx hb hts hown hK hG (isC.lt h0) (isC.e h0 y _) rfl inX1 9 (by decide) qF_X1_50 rfl dX1_passWeek_108 ?_
    refine lv_iconst (v := 1) hx hb dX1_passWeek_111 (by decide) ?_
    refine lv_iload_n hx hb dX1_passWeek_112 rfl (lv_at hl 3 rfl) ?_
    refine lv_ishl hx hb dX1_passWeek_113 ?_
    refine lv_ior hx hb dX1_passWeek_114 ?_
    refine r_put (C := RX1) (T := TX1) (Nf := 11) hx hb hts hown hK hG (isC.lt h0) (isC.e h0 y _) rfl inX1 tyX1_ok nmX1 9 (by decide) qF_X1_50 rfl ((st k0 9) ||| ((1 : Int32) <<< (v2 &&& 31))) (isC.p9 h0 y _ _) rfl rfl (Nat.le_of_ble_eq_true rfl) dX1_passWeek_115 (fun H locs hG => ?_)
    refine lv_aload_n hx hb dX1_passWeek_118 rfl (lv_at hl 2 rfl) ?_
    refine r_get (C := RX1) (T := TX1) (Nf := 11) hx hb hts hown hK hG (isC.lt h0) (isC.e h0 y _) rfl inX1 6 (by decide) qF_X1_30 rfl dX1_passWeek_119 ?_
    refine lv_iload_n hx hb dX1_passWeek_122 rfl (lv_at hl 3 rfl) ?_
    refine lv_iload_n hx hb dX1_passWeek_123 rfl (lv_at hl 1 rfl) ?_
    refine r_kv (r_run_N (As := [.ref (ad y (k0 + 7)), .int v2, .int s0]) (rest := []) hx hb hml hown hts hK hN hG (c_X8_put l y (k0 + 7) 6 (isC.a7 h0) v2 s0 (u2 st k0 9 ((st k0 9) ||| ((1 : Int32) <<< (v2 &&& 31)))) _ hw) qM_X1_96 qT_X8_put qN_X8 qC_X8_put hd_X8_put ⟨Nat.le_of_ble_eq_true rfl, Nat.le_of_ble_eq_true rfl⟩ hl.1 rfl (Nat.le_of_ble_eq_true rfl) dX1_passWeek_124) hG (fun st124 H locs hw hG => ?_)
    refine lv_aload_n hx hb dX1_passWeek_127 rfl (lv_at hl 2 rfl) ?_
    refine lv_iload_n hx hb dX1_passWeek_128 rfl (lv_at hl 1 rfl) ?_
    refine lv_bipush (v := 10) hx hb dX1_passWeek_129 (by decide) ?_
    refine lv_idiv hx hb dX1_passWeek_131 (by decide) ?_
    refine lv_iload_n hx hb dX1_passWeek_132 rfl (lv_at hl 1 rfl) ?_
    refine lv_bipush (v := 10) hx hb dX1_passWeek_133 (by decide) ?_
    refine lv_irem hx hb dX1_passWeek_135 (by decide) ?_
    refine lv_aload_n hx hb dX1_passWeek_136 rfl (lv_at hl 2 rfl) ?_
    refine lv_iload_n hx hb dX1_passWeek_137 rfl (lv_at hl 1 rfl) ?_
    refine lv_bipush (v := 10) hx hb dX1_passWeek_138 (by decide) ?_
    refine lv_idiv hx hb dX1_passWeek_140 (by decide) ?_
    refine lv_iload_n hx hb dX1_passWeek_141 rfl (lv_at hl 1 rfl) ?_
    refine lv_bipush (v := 10) hx hb dX1_passWeek_142 (by decide) ?_
    refine lv_irem hx hb dX1_passWeek_144 (by decide) ?_
    refine r_ki (r_run_V (k := k0) (As := [.int (s0 / 10), .int (s0 - s0 / 10 * 10)]) (rest := [.int (s0 - s0 / 10 * 10), .int (s0 / 10), .ref (ad y k0)]) hx hb hml hown hts hK hN hG (c_X1_hateOf l y k0 h0 (s0 / 10) (s0 - s0 / 10 * 10) st124 _ hw) (isC.lt h0) (isC.e h0 y _) rfl rfl qM_X1_93 qI_X1_hateOf qS_X1_hateOf qN_X1 qC_X1_hateOf hd_X1_hateOf ⟨Nat.le_of_ble_eq_true rfl, Nat.le_of_ble_eq_true rfl⟩ hl.1 rfl (Nat.le_of_ble_eq_true rfl) dX1_passWeek_145) hG (fun r145 st145 H locs hw hG => ?_)
    refine lv_iconst (v := 5) hx hb dX1_passWeek_148 (by decide) ?_
    refine lv_isub hx hb dX1_passWeek_149 ?_
    refine r_kv (r_run_V (k := k0) (As := [.int (s0 / 10), .int (s0 - s0 / 10 * 10), .int (r145 - 5)]) (rest := []) hx hb hml hown hts hK hN hG (c_X1_setHate l y k0 h0 (s0 / 10) (s0 - s0 / 10 * 10) (r145 - 5) st145 _ hw) (isC.lt h0) (isC.e h0 y _) rfl rfl qM_X1_100 qI_X1_setHate qS_X1_setHate qN_X1 qC_X1_setHate hd_X1_setHate ⟨Nat.le_of_ble_eq_true rfl, Nat.le_of_ble_eq_true rfl⟩ hl.1 rfl (Nat.le_of_ble_eq_true rfl) dX1_passWeek_150) hG (fun st150 H locs hw hG => ?_)
    exact z_X1_passWeek_b153 l y k0 h0 C c67 K hc67 (v1 ||| ((1 : Int32) <<< (v2 &&& 31))) v2 st150 hG (lv_sub hl [2, 0, 3] rfl) hw
set_option maxRecDepth 100000 in
set_option maxHeartbeats 4000000 in
theorem z_X1_passWeek_L67 {p : Program} {e : Env} {s : State} {m : MethodId} {args : Array Value} {below : List Frame} {meth : Method} {c : Code} (l : Launch) (y : Sy) (k0 : Nat) (h0 : isC k0) (C : Sd p s m args meth c cX1_passWeek 4 RX1 (some .int) y)  (K : Int32 → St → Prop)  : ∀ (n : Nat) (v1 : Int32) (v2 : Int32) (st : St) (H : Heap) (locs : List Loc) (ls : Array Slot), gH 107 enX y st s H locs → lv_has ls 4 [(0, .ref (ad y k0)), (1, .int v1), (2, .int v2)] → w_X1_passWeek_L67 k0  K n v1 v2 st → W p l e (rmm 3 72) s m args below meth c H locs 0 0 (MQ below (va_Qi K (gB 107 enX y) (gA 107 y)) args s 0 0 (gA 107 y)) (F0 m 67 ls []) := by
  obtain ⟨hx, hb, hml, hown, hts, hr, hlk, hK, hN⟩ := id C
  intro n
  induction n with
  | zero => intro v1 v2 st H locs ls hG hl hw; exact False.elim hw
  | succ n hc67 =>
    intro v1 v2 st H locs ls hG hl hw
    have hw : w_X1_passWeek_L67q k0  K (fun v1 v2 st => w_X1_passWeek_L67 k0  K n v1 v2 st) v1 v2 st := hw
    unfold w_X1_passWeek_L67q at hw
    refine lv_iload_n hx hb dX1_passWeek_67 rfl (lv_at hl 2 rfl) ?_
    refine lv_aload_n hx hb dX1_passWeek_68 rfl (lv_at hl 0 rfl) ?_
    refine r_get (C := RX1) (T := TX1) (Nf := 11) hx hb hts hown hK hG (isC.lt h0) (isC.e h0 y _) rfl inX1 8 (by decide) qF_X1_47 rfl dX1_passWeek_69 ?_
    refine lv_icmp_ge (tgt := 159) hx hb dX1_passWeek_72 (by decide) (fun hc => ?_) (fun hc => ?_)
    · replace hw := hw.1 hc
      refine lv_iload_n hx hb dX1_passWeek_159 rfl (lv_at hl 1 rfl) ?_
      exact r_iret hx hb hr hlk hK hG rfl hw dX1_passWeek_160
    · replace hw := hw.2 hc
      refine lv_aload_n hx hb dX1_passWeek_75 rfl (lv_at hl 0 rfl) ?_
      refine lv_iload_n hx hb dX1_passWeek_76 rfl (lv_at hl 2 rfl) ?_
      refine r_ki (r_run_V (k := k0) (As := [.int v2]) (rest := []) hx hb hml hown hts hK hN hG (c_X1_isOpen l y k0 h0 v2 st _ hw) (isC.lt h0) (isC.e h0 y _) rfl rfl qM_X1_124 qI_X1_isOpen qS_X1_isOpen qN_X1 qC_X1_isOpen hd_X1_isOpen ⟨Nat.le_of_ble_eq_true rfl, Nat.le_of_ble_eq_true rfl⟩ hl.1 rfl (Nat.le_of_ble_eq_true rfl) dX1_passWeek_77) hG (fun r77 st77 H locs hw hG => ?_)
      refine lv_if_eq (tgt := 88) hx hb dX1_passWeek_80 (by decide) (fun hc => ?_) (fun hc => ?_)
      · replace hw := hw.1 hc
        refine lv_aload_n hx hb dX1_passWeek_88 rfl (lv_at hl 0 rfl) ?_
        refine lv_iload_n hx hb dX1_passWeek_89 rfl (lv_at hl 2 rfl) ?_
        refine r_ki (r_run_V (k := k0) (As := [.int v2]) (rest := []) hx hb hml hown hts hK hN hG (c_X1_opener l y k0 h0 v2 st77 _ hw) (isC.lt h0) (isC.e h0 y _) rfl rfl qM_X1_127 qI_X1_opener qS_X1_opener qN_X1 qC_X1_opener hd_X1_opener ⟨Nat.le_of_ble_eq_true rfl, Nat.le_of_ble_eq_true rfl⟩ hl.1 rfl (Nat.le_of_ble_eq_true rfl) dX1_passWeek_90) hG (fun r90 st90 H locs hw hG => ?_)
        exact z_X1_passWeek_b93 l y k0 h0 C (fun v1 v2 st => w_X1_passWeek_L67 k0  K n v1 v2 st) K hc67 v1 v2 r90 st90 hG (lv_sub hl [0, 1, 2] rfl) hw
      · replace hw := hw.2 hc
        refine lv_bipush (v := (-9)) hx hb dX1_passWeek_83 (by decide) ?_
        refine lv_goto (tgt := 93) hx hb dX1_passWeek_85 (by decide) ?_
        exact z_X1_passWeek_b93 l y k0 h0 C (fun v1 v2 st => w_X1_passWeek_L67 k0  K n v1 v2 st) K hc67 v1 v2 (-9) st77 hG (lv_sub hl [0, 1, 2] rfl) hw
set_option maxRecDepth 100000 in
set_option maxHeartbeats 4000000 in
theorem z_X1_passWeek_b63 {p : Program} {e : Env} {s : State} {m : MethodId} {args : Array Value} {below : List Frame} {meth : Method} {c : Code} (l : Launch) (y : Sy) (k0 : Nat) (h0 : isC k0) (C : Sd p s m args meth c cX1_passWeek 4 RX1 (some .int) y)  (K : Int32 → St → Prop)   (st : St) {H : Heap} {locs : List Loc} {ls : Array Slot} (hG : gH 107 enX y st s H locs) (hl : lv_has ls 4 [(0, .ref (ad y k0))]) (hw : w_X1_passWeek_b63 k0  K  st) : W p l e (rmm 3 72) s m args below meth c H locs 0 0 (MQ below (va_Qi K (gB 107 enX y) (gA 107 y)) args s 0 0 (gA 107 y)) (F0 m 63 ls []) := by
  obtain ⟨hx, hb, hml, hown, hts, hr, hlk, hK, hN⟩ := id C
  unfold w_X1_passWeek_b63 at hw
  refine lv_iconst (v := 0) hx hb dX1_passWeek_63 (by decide) ?_
  refine lv_istore_n (lv' := [(1, .int 0), (0, .ref (ad y k0))]) hx hb dX1_passWeek_64 rfl hl (Nat.le_of_ble_eq_true rfl) rfl (fun ls hl => ?_)
  refine lv_iconst (v := 0) hx hb dX1_passWeek_65 (by decide) ?_
  refine lv_istore_n (lv' := [(2, .int 0), (1, .int 0), (0, .ref (ad y k0))]) hx hb dX1_passWeek_66 rfl hl (Nat.le_of_ble_eq_true rfl) rfl (fun ls hl => ?_)
  obtain ⟨n67, hw⟩ := hw
  exact z_X1_passWeek_L67 l y k0 h0 C  K  n67 0 0 st H locs _ hG (lv_sub hl [2, 1, 0] rfl) hw
set_option maxRecDepth 100000 in
set_option maxHeartbeats 4000000 in
theorem z_X1_passWeek_L12 {p : Program} {e : Env} {s : State} {m : MethodId} {args : Array Value} {below : List Frame} {meth : Method} {c : Code} (l : Launch) (y : Sy) (k0 : Nat) (h0 : isC k0) (C : Sd p s m args meth c cX1_passWeek 4 RX1 (some .int) y)  (K : Int32 → St → Prop)  : ∀ (n : Nat) (v1 : Int32) (st : St) (H : Heap) (locs : List Loc) (ls : Array Slot), gH 107 enX y st s H locs → lv_has ls 4 [(0, .ref (ad y k0)), (1, .int v1)] → w_X1_passWeek_L12 k0  K n v1 st → W p l e (rmm 3 72) s m args below meth c H locs 0 0 (MQ below (va_Qi K (gB 107 enX y) (gA 107 y)) args s 0 0 (gA 107 y)) (F0 m 12 ls []) := by
  obtain ⟨hx, hb, hml, hown, hts, hr, hlk, hK, hN⟩ := id C
  intro n
  induction n with
  | zero => intro v1 st H locs ls hG hl hw; exact False.elim hw
  | succ n hc12 =>
    intro v1 st H locs ls hG hl hw
    have hw : w_X1_passWeek_L12q k0  K (fun v1 st => w_X1_passWeek_L12 k0  K n v1 st) v1 st := hw
    unfold w_X1_passWeek_L12q at hw
    refine lv_iload_n hx hb dX1_passWeek_12 rfl (lv_at hl 1 rfl) ?_
    refine lv_aload_n hx hb dX1_passWeek_13 rfl (lv_at hl 0 rfl) ?_
    refine r_get (C := RX1) (T := TX1) (Nf := 11) hx hb hts hown hK hG (isC.lt h0) (isC.e h0 y _) rfl inX1 7 (by decide) qF_X1_43 rfl dX1_passWeek_14 ?_
    refine lv_icmp_ge (tgt := 63) hx hb dX1_passWeek_17 (by decide) (fun hc => ?_) (fun hc => ?_)
    · replace hw := hw.1 hc
      exact z_X1_passWeek_b63 l y k0 h0 C  K  st hG (lv_sub hl [0] rfl) hw
    · replace hw := hw.2 hc
      refine lv_iload_n hx hb dX1_passWeek_20 rfl (lv_at hl 1 rfl) ?_
      refine lv_iconst (v := 1) hx hb dX1_passWeek_21 (by decide) ?_
      refine lv_iadd hx hb dX1_passWeek_22 ?_
      refine lv_istore_n (lv' := [(2, .int (v1 + 1)), (0, .ref (ad y k0)), (1, .int v1)]) hx hb dX1_passWeek_23 rfl hl (Nat.le_of_ble_eq_true rfl) rfl (fun ls hl => ?_)
      obtain ⟨n24, hw⟩ := hw
      exact z_X1_passWeek_L24 l y k0 h0 C (fun v1 st => w_X1_passWeek_L12 k0  K n v1 st) K hc12 n24 v1 (v1 + 1) st H locs _ hG (lv_sub hl [1, 2, 0] rfl) hw
theorem hd_X1_passWeek : yX1_passWeek.cls ≠ "java/lang/invoke/MethodHandle" ∧ yX1_passWeek.cls ≠ "java/lang/invoke/VarHandle" ∧ (parseMethodDescriptor yX1_passWeek.desc).map (fun d => d.parameters.length) = some 0 := by decide +kernel
set_option maxRecDepth 100000 in
set_option maxHeartbeats 4000000 in
theorem c_X1_passWeek (l : Launch) (y : Sy) (k0 : Nat) (h0 : isC k0) (st : St) (K : Int32 → St → Prop) (hw : w_X1_passWeek k0 st K) : Ci 107 enX l yX1_passWeek cX1_passWeek 4 (some .int) 3 72 y [.ref (ad y k0)] st K := by
  refine ent (by decide) (Nat.le_of_ble_eq_true rfl) ?_
  intro p e s m below meth c C hG ls hl
  have hl : lv_has ls 4 [(0, .ref (ad y k0))] := hl
  generalize ([.ref (ad y k0)] : List Value).toArray = args at C ⊢
  have C : Sd p s m args meth c cX1_passWeek 4 RX1 (some .int) y := C
  obtain ⟨hx, hb, hml, hown, hts, hr, hlk, hK, hN⟩ := id C
  generalize s.heap = H at hG ⊢
  generalize ([] : List Loc) = locs at hG ⊢
  unfold w_X1_passWeek at hw
  refine lv_aload_n hx hb dX1_passWeek_0 rfl (lv_at hl 0 rfl) ?_
  refine lv_dup hx hb dX1_passWeek_1 rfl ?_
  refine r_get (C := RX1) (T := TX1) (Nf := 11) hx hb hts hown hK hG (isC.lt h0) (isC.e h0 y _) rfl inX1 10 (by decide) qF_X1_53 rfl dX1_passWeek_2 ?_
  refine lv_iconst (v := 1) hx hb dX1_passWeek_5 (by decide) ?_
  refine lv_iadd hx hb dX1_passWeek_6 ?_
  refine r_put (C := RX1) (T := TX1) (Nf := 11) hx hb hts hown hK hG (isC.lt h0) (isC.e h0 y _) rfl inX1 tyX1_ok nmX1 10 (by decide) qF_X1_53 rfl ((st k0 10) + 1) (isC.p10 h0 y _ _) rfl rfl (Nat.le_of_ble_eq_true rfl) dX1_passWeek_7 (fun H locs hG => ?_)
  refine lv_iconst (v := 0) hx hb dX1_passWeek_10 (by decide) ?_
  refine lv_istore_n (lv' := [(1, .int 0), (0, .ref (ad y k0))]) hx hb dX1_passWeek_11 rfl hl (Nat.le_of_ble_eq_true rfl) rfl (fun ls hl => ?_)
  obtain ⟨n12, hw⟩ := hw
  exact z_X1_passWeek_L12 l y k0 h0 C  K  n12 0 (u2 st k0 10 ((st k0 10) + 1)) H locs _ hG (lv_sub hl [1, 0] rfl) hw
set_option maxRecDepth 100000 in
set_option maxHeartbeats 4000000 in
theorem z_X1_passWeeks_b18 {p : Program} {e : Env} {s : State} {m : MethodId} {args : Array Value} {below : List Frame} {meth : Method} {c : Code} (l : Launch) (y : Sy) (k0 : Nat) (h0 : isC k0) (x1 : Int32) (C : Sd p s m args meth c cX1_passWeeks 3 RX1 (some .int) y)  (K : Int32 → St → Prop)   (st : St) {H : Heap} {locs : List Loc} {ls : Array Slot} (hG : gH 107 enX y st s H locs) (hl : lv_has ls 3 [(0, .ref (ad y k0))]) (hw : w_X1_passWeeks_b18 k0 x1  K  st) : W p l e (rmm 4 95) s m args below meth c H locs 0 0 (MQ below (va_Qi K (gB 107 enX y) (gA 107 y)) args s 0 0 (gA 107 y)) (F0 m 18 ls []) := by
  obtain ⟨hx, hb, hml, hown, hts, hr, hlk, hK, hN⟩ := id C
  unfold w_X1_passWeeks_b18 at hw
  refine lv_aload_n hx hb dX1_passWeeks_18 rfl (lv_at hl 0 rfl) ?_
  refine r_ki (r_run_V (k := k0) (As := []) (rest := []) hx hb hml hown hts hK hN hG (c_X1_openCount l y k0 h0 st _ hw) (isC.lt h0) (isC.e h0 y _) rfl rfl qM_X1_118 qI_X1_openCount qS_X1_openCount qN_X1 qC_X1_openCount hd_X1_openCount ⟨Nat.le_of_ble_eq_true rfl, Nat.le_of_ble_eq_true rfl⟩ hl.1 rfl (Nat.le_of_ble_eq_true rfl) dX1_passWeeks_19) hG (fun r19 st19 H locs hw hG => ?_)
  exact r_iret hx hb hr hlk hK hG rfl hw dX1_passWeeks_22
set_option maxRecDepth 100000 in
set_option maxHeartbeats 4000000 in
theorem z_X1_passWeeks_L2 {p : Program} {e : Env} {s : State} {m : MethodId} {args : Array Value} {below : List Frame} {meth : Method} {c : Code} (l : Launch) (y : Sy) (k0 : Nat) (h0 : isC k0) (x1 : Int32) (C : Sd p s m args meth c cX1_passWeeks 3 RX1 (some .int) y)  (K : Int32 → St → Prop)  : ∀ (n : Nat) (v2 : Int32) (st : St) (H : Heap) (locs : List Loc) (ls : Array Slot), gH 107 enX y st s H locs → lv_has ls 3 [(0, .ref (ad y k0)), (1, .int x1), (2, .int v2)] → w_X1_passWeeks_L2 k0 x1  K n v2 st → W p l e (rmm 4 95) s m args below meth c H locs 0 0 (MQ below (va_Qi K (gB 107 enX y) (gA 107 y)) args s 0 0 (gA 107 y)) (F0 m 2 ls []) := by
  obtain ⟨hx, hb, hml, hown, hts, hr, hlk, hK, hN⟩ := id C
  intro n
  induction n with
  | zero => intro v2 st H locs ls hG hl hw; exact False.elim hw
  | succ n hc2 =>
    intro v2 st H locs ls hG hl hw
    have hw : w_X1_passWeeks_L2q k0 x1  K (fun v2 st => w_X1_passWeeks_L2 k0 x1  K n v2 st) v2 st := hw
    unfold w_X1_passWeeks_L2q at hw
    refine lv_iload_n hx hb dX1_passWeeks_2 rfl (lv_at hl 2 rfl) ?_
    refine lv_iload_n hx hb dX1_passWeeks_3 rfl (lv_at hl 1 rfl) ?_
    refine lv_icmp_ge (tgt := 18) hx hb dX1_passWeeks_4 (by decide) (fun hc => ?_) (fun hc => ?_)
    · replace hw := hw.1 hc
      exact z_X1_passWeeks_b18 l y k0 h0 x1 C  K  st hG (lv_sub hl [0] rfl) hw
    · replace hw := hw.2 hc
      refine lv_aload_n hx hb dX1_passWeeks_7 rfl (lv_at hl 0 rfl) ?_
      refine r_ki (r_run_V (k := k0) (As := []) (rest := []) hx hb hml hown hts hK hN hG (c_X1_passWeek l y k0 h0 st _ hw) (isC.lt h0) (isC.e h0 y _) rfl rfl qM_X1_114 qI_X1_passWeek qS_X1_passWeek qN_X1 qC_X1_passWeek hd_X1_passWeek ⟨Nat.le_of_ble_eq_true rfl, Nat.le_of_ble_eq_true rfl⟩ hl.1 rfl (Nat.le_of_ble_eq_true rfl) dX1_passWeeks_8) hG (fun r8 st8 H locs hw hG => ?_)
      refine lv_pop hx hb dX1_passWeeks_11 rfl ?_
      refine lv_iinc (v := (v2 + 1)) (lv' := [(2, .int (v2 + 1)), (0, .ref (ad y k0)), (1, .int x1)]) hx hb dX1_passWeeks_12 hl (k := 2) rfl rfl (Nat.le_of_ble_eq_true rfl) rfl (fun ls hl => ?_)
      refine lv_goto (tgt := 2) hx hb dX1_passWeeks_15 (by decide) ?_
      exact hc2 (v2 + 1) st8 H locs _ hG (lv_sub hl [1, 2, 0] rfl) hw
theorem hd_X1_passWeeks : yX1_passWeeks.cls ≠ "java/lang/invoke/MethodHandle" ∧ yX1_passWeeks.cls ≠ "java/lang/invoke/VarHandle" ∧ (parseMethodDescriptor yX1_passWeeks.desc).map (fun d => d.parameters.length) = some 1 := by decide +kernel
set_option maxRecDepth 100000 in
set_option maxHeartbeats 4000000 in
theorem c_X1_passWeeks (l : Launch) (y : Sy) (k0 : Nat) (h0 : isC k0) (x1 : Int32) (st : St) (K : Int32 → St → Prop) (hw : w_X1_passWeeks k0 x1 st K) : Ci 107 enX l yX1_passWeeks cX1_passWeeks 3 (some .int) 4 95 y [.ref (ad y k0), .int x1] st K := by
  refine ent (by decide) (Nat.le_of_ble_eq_true rfl) ?_
  intro p e s m below meth c C hG ls hl
  have hl : lv_has ls 3 [(0, .ref (ad y k0)), (1, .int x1)] := hl
  generalize ([.ref (ad y k0), .int x1] : List Value).toArray = args at C ⊢
  have C : Sd p s m args meth c cX1_passWeeks 3 RX1 (some .int) y := C
  obtain ⟨hx, hb, hml, hown, hts, hr, hlk, hK, hN⟩ := id C
  generalize s.heap = H at hG ⊢
  generalize ([] : List Loc) = locs at hG ⊢
  unfold w_X1_passWeeks at hw
  refine lv_iconst (v := 0) hx hb dX1_passWeeks_0 (by decide) ?_
  refine lv_istore_n (lv' := [(2, .int 0), (0, .ref (ad y k0)), (1, .int x1)]) hx hb dX1_passWeeks_1 rfl hl (Nat.le_of_ble_eq_true rfl) rfl (fun ls hl => ?_)
  obtain ⟨n2, hw⟩ := hw
  exact z_X1_passWeeks_L2 l y k0 h0 x1 C  K  n2 0 st H locs _ hG (lv_sub hl [1, 2, 0] rfl) hw
set_option maxRecDepth 100000 in
set_option maxHeartbeats 4000000 in
theorem z_X3_keepersIn_b38 {p : Program} {e : Env} {s : State} {m : MethodId} {args : Array Value} {below : List Frame} {meth : Method} {c : Code} (l : Launch) (y : Sy) (x1 : Int32) (C : Sd p s m args meth c cX3_keepersIn 4 RX3 (some .int) y) (c4 : Int32 → Int32 → St → Prop) (K : Int32 → St → Prop) (hc4 : ∀ (v2 : Int32) (v3 : Int32) (st : St) (H : Heap) (locs : List Loc) (ls : Array Slot), gH 107 enX y st s H locs → lv_has ls 4 [(0, .ref (ad y 8)), (1, .int x1), (2, .int v2), (3, .int v3)] → c4 v2 v3 st → W p l e (rmm 2 42) s m args below meth c H locs 0 0 (MQ below (va_Qi K (gB 107 enX y) (gA 107 y)) args s 0 0 (gA 107 y)) (F0 m 4 ls [])) (v2 : Int32) (v3 : Int32) (st : St) {H : Heap} {locs : List Loc} {ls : Array Slot} (hG : gH 107 enX y st s H locs) (hl : lv_has ls 4 [(0, .ref (ad y 8)), (1, .int x1), (2, .int v2), (3, .int v3)]) (hw : w_X3_keepersIn_b38 x1 c4 K v2 v3 st) : W p l e (rmm 2 42) s m args below meth c H locs 0 0 (MQ below (va_Qi K (gB 107 enX y) (gA 107 y)) args s 0 0 (gA 107 y)) (F0 m 38 ls []) := by
  obtain ⟨hx, hb, hml, hown, hts, hr, hlk, hK, hN⟩ := id C
  unfold w_X3_keepersIn_b38 at hw
  refine lv_iinc (v := (v3 + 1)) (lv' := [(3, .int (v3 + 1)), (0, .ref (ad y 8)), (1, .int x1), (2, .int v2)]) hx hb dX3_keepersIn_38 hl (k := 3) rfl rfl (Nat.le_of_ble_eq_true rfl) rfl (fun ls hl => ?_)
  refine lv_goto (tgt := 4) hx hb dX3_keepersIn_41 (by decide) ?_
  exact hc4 v2 (v3 + 1) st H locs _ hG (lv_sub hl [1, 2, 3, 0] rfl) hw
set_option maxRecDepth 100000 in
set_option maxHeartbeats 4000000 in
theorem z_X3_keepersIn_b32 {p : Program} {e : Env} {s : State} {m : MethodId} {args : Array Value} {below : List Frame} {meth : Method} {c : Code} (l : Launch) (y : Sy) (x1 : Int32) (C : Sd p s m args meth c cX3_keepersIn 4 RX3 (some .int) y) (c4 : Int32 → Int32 → St → Prop) (K : Int32 → St → Prop) (hc4 : ∀ (v2 : Int32) (v3 : Int32) (st : St) (H : Heap) (locs : List Loc) (ls : Array Slot), gH 107 enX y st s H locs → lv_has ls 4 [(0, .ref (ad y 8)), (1, .int x1), (2, .int v2), (3, .int v3)] → c4 v2 v3 st → W p l e (rmm 2 42) s m args below meth c H locs 0 0 (MQ below (va_Qi K (gB 107 enX y) (gA 107 y)) args s 0 0 (gA 107 y)) (F0 m 4 ls [])) (v2 : Int32) (v3 : Int32) (st : St) {H : Heap} {locs : List Loc} {ls : Array Slot} (hG : gH 107 enX y st s H locs) (hl : lv_has ls 4 [(0, .ref (ad y 8)), (1, .int x1), (2, .int v2), (3, .int v3)]) (hw : w_X3_keepersIn_b32 x1 c4 K v2 v3 st) : W p l e (rmm 2 42) s m args below meth c H locs 0 0 (MQ below (va_Qi K (gB 107 enX y) (gA 107 y)) args s 0 0 (gA 107 y)) (F0 m 32 ls []) := by
  obtain ⟨hx, hb, hml, hown, hts, hr, hlk, hK, hN⟩ := id C
  unfold w_X3_keepersIn_b32 at hw
  refine lv_iload_n hx hb dX3_keepersIn_32 rfl (lv_at hl 2 rfl) ?_
  refine lv_iconst (v := 1) hx hb dX3_keepersIn_33 (by decide) ?_
  refine lv_iload_n hx hb dX3_keepersIn_34 rfl (lv_at hl 3 rfl) ?_
  refine lv_ishl hx hb dX3_keepersIn_35 ?_
  refine lv_ior hx hb dX3_keepersIn_36 ?_
  refine lv_istore_n (lv' := [(2, .int (v2 ||| ((1 : Int32) <<< (v3 &&& 31)))), (0, .ref (ad y 8)), (1, .int x1), (3, .int v3)]) hx hb dX3_keepersIn_37 rfl hl (Nat.le_of_ble_eq_true rfl) rfl (fun ls hl => ?_)
  exact z_X3_keepersIn_b38 l y x1 C c4 K hc4 (v2 ||| ((1 : Int32) <<< (v3 &&& 31))) v3 st hG (lv_sub hl [1, 2, 0, 3] rfl) hw
set_option maxRecDepth 100000 in
set_option maxHeartbeats 4000000 in
theorem z_X3_keepersIn_L4 {p : Program} {e : Env} {s : State} {m : MethodId} {args : Array Value} {below : List Frame} {meth : Method} {c : Code} (l : Launch) (y : Sy) (x1 : Int32) (C : Sd p s m args meth c cX3_keepersIn 4 RX3 (some .int) y)  (K : Int32 → St → Prop)  : ∀ (n : Nat) (v2 : Int32) (v3 : Int32) (st : St) (H : Heap) (locs : List Loc) (ls : Array Slot), gH 107 enX y st s H locs → lv_has ls 4 [(0, .ref (ad y 8)), (1, .int x1), (2, .int v2), (3, .int v3)] → w_X3_keepersIn_L4 x1  K n v2 v3 st → W p l e (rmm 2 42) s m args below meth c H locs 0 0 (MQ below (va_Qi K (gB 107 enX y) (gA 107 y)) args s 0 0 (gA 107 y)) (F0 m 4 ls []) := by
  obtain ⟨hx, hb, hml, hown, hts, hr, hlk, hK, hN⟩ := id C
  intro n
  induction n with
  | zero => intro v2 v3 st H locs ls hG hl hw; exact False.elim hw
  | succ n hc4 =>
    intro v2 v3 st H locs ls hG hl hw
    have hw : w_X3_keepersIn_L4q x1  K (fun v2 v3 st => w_X3_keepersIn_L4 x1  K n v2 v3 st) v2 v3 st := hw
    unfold w_X3_keepersIn_L4q at hw
    refine lv_iload_n hx hb dX3_keepersIn_4 rfl (lv_at hl 3 rfl) ?_
    refine lv_aload_n hx hb dX3_keepersIn_5 rfl (lv_at hl 0 rfl) ?_
    refine r_get (C := RX3) (T := TX3) (Nf := 2) hx hb hts hown hK hG (by decide) rfl rfl inX3 0 (by decide) qF_X3_15 rfl dX3_keepersIn_6 ?_
    refine r_ki (r_run_V (k := 11) (As := []) (rest := [.int v3]) hx hb hml hown hts hK hN hG (c_X1_keeperCount l y 11 isC_11 st _ hw) (isC.lt isC_11) (isC.e isC_11 y _) rfl rfl qM_X3_19 qI_X1_keeperCount qS_X1_keeperCount qN_X1 qC_X1_keeperCount hd_X1_keeperCount ⟨Nat.le_of_ble_eq_true rfl, Nat.le_of_ble_eq_true rfl⟩ hl.1 rfl (Nat.le_of_ble_eq_true rfl) dX3_keepersIn_9) hG (fun r9 st9 H locs hw hG => ?_)
    refine lv_icmp_ge (tgt := 44) hx hb dX3_keepersIn_12 (by decide) (fun hc => ?_) (fun hc => ?_)
    · replace hw := hw.1 hc
      refine lv_iload_n hx hb dX3_keepersIn_44 rfl (lv_at hl 2 rfl) ?_
      exact r_iret hx hb hr hlk hK hG rfl hw dX3_keepersIn_45
    · replace hw := hw.2 hc
      refine lv_iload_n hx hb dX3_keepersIn_15 rfl (lv_at hl 1 rfl) ?_
      refine lv_iconst (v := (-1)) hx hb dX3_keepersIn_16 (by decide) ?_
      refine lv_icmp_eq (tgt := 32) hx hb dX3_keepersIn_17 (by decide) (fun hc => ?_) (fun hc => ?_)
      · replace hw := hw.1 hc
        exact z_X3_keepersIn_b32 l y x1 C (fun v2 v3 st => w_X3_keepersIn_L4 x1  K n v2 v3 st) K hc4 v2 v3 st9 hG (lv_sub hl [0, 1, 2, 3] rfl) hw
      · replace hw := hw.2 hc
        refine lv_aload_n hx hb dX3_keepersIn_20 rfl (lv_at hl 0 rfl) ?_
        refine r_get (C := RX3) (T := TX3) (Nf := 2) hx hb hts hown hK hG (by decide) rfl rfl inX3 0 (by decide) qF_X3_15 rfl dX3_keepersIn_21 ?_
        refine lv_iload_n hx hb dX3_keepersIn_24 rfl (lv_at hl 3 rfl) ?_
        refine r_ki (r_run_V (k := 11) (As := [.int v3]) (rest := []) hx hb hml hown hts hK hN hG (c_X1_townOf l y 11 isC_11 v3 st9 _ hw) (isC.lt isC_11) (isC.e isC_11 y _) rfl rfl qM_X3_25 qI_X1_townOf qS_X1_townOf qN_X1 qC_X1_townOf hd_X1_townOf ⟨Nat.le_of_ble_eq_true rfl, Nat.le_of_ble_eq_true rfl⟩ hl.1 rfl (Nat.le_of_ble_eq_true rfl) dX3_keepersIn_25) hG (fun r25 st25 H locs hw hG => ?_)
        refine lv_iload_n hx hb dX3_keepersIn_28 rfl (lv_at hl 1 rfl) ?_
        refine lv_icmp_ne (tgt := 38) hx hb dX3_keepersIn_29 (by decide) (fun hc => ?_) (fun hc => ?_)
        · replace hw := hw.1 hc
          exact z_X3_keepersIn_b38 l y x1 C (fun v2 v3 st => w_X3_keepersIn_L4 x1  K n v2 v3 st) K hc4 v2 v3 st25 hG (lv_sub hl [0, 1, 2, 3] rfl) hw
        · replace hw := hw.2 hc
          exact z_X3_keepersIn_b32 l y x1 C (fun v2 v3 st => w_X3_keepersIn_L4 x1  K n v2 v3 st) K hc4 v2 v3 st25 hG (lv_sub hl [0, 1, 2, 3] rfl) hw
theorem hd_X3_keepersIn : yX3_keepersIn.cls ≠ "java/lang/invoke/MethodHandle" ∧ yX3_keepersIn.cls ≠ "java/lang/invoke/VarHandle" ∧ (parseMethodDescriptor yX3_keepersIn.desc).map (fun d => d.parameters.length) = some 1 := by decide +kernel
set_option maxRecDepth 100000 in
set_option maxHeartbeats 4000000 in
theorem c_X3_keepersIn (l : Launch) (y : Sy) (x1 : Int32) (st : St) (K : Int32 → St → Prop) (hw : w_X3_keepersIn x1 st K) : Ci 107 enX l yX3_keepersIn cX3_keepersIn 4 (some .int) 2 42 y [.ref (ad y 8), .int x1] st K := by
  refine ent (by decide) (Nat.le_of_ble_eq_true rfl) ?_
  intro p e s m below meth c C hG ls hl
  have hl : lv_has ls 4 [(0, .ref (ad y 8)), (1, .int x1)] := hl
  generalize ([.ref (ad y 8), .int x1] : List Value).toArray = args at C ⊢
  have C : Sd p s m args meth c cX3_keepersIn 4 RX3 (some .int) y := C
  obtain ⟨hx, hb, hml, hown, hts, hr, hlk, hK, hN⟩ := id C
  generalize s.heap = H at hG ⊢
  generalize ([] : List Loc) = locs at hG ⊢
  unfold w_X3_keepersIn at hw
  refine lv_iconst (v := 0) hx hb dX3_keepersIn_0 (by decide) ?_
  refine lv_istore_n (lv' := [(2, .int 0), (0, .ref (ad y 8)), (1, .int x1)]) hx hb dX3_keepersIn_1 rfl hl (Nat.le_of_ble_eq_true rfl) rfl (fun ls hl => ?_)
  refine lv_iconst (v := 0) hx hb dX3_keepersIn_2 (by decide) ?_
  refine lv_istore_n (lv' := [(3, .int 0), (2, .int 0), (0, .ref (ad y 8)), (1, .int x1)]) hx hb dX3_keepersIn_3 rfl hl (Nat.le_of_ble_eq_true rfl) rfl (fun ls hl => ?_)
  obtain ⟨n4, hw⟩ := hw
  exact z_X3_keepersIn_L4 l y x1 C  K  n4 0 0 st H locs _ hG (lv_sub hl [2, 3, 1, 0] rfl) hw
set_option maxRecDepth 100000 in
set_option maxHeartbeats 4000000 in
theorem z_X3_wages_b35 {p : Program} {e : Env} {s : State} {m : MethodId} {args : Array Value} {below : List Frame} {meth : Method} {c : Code} (l : Launch) (y : Sy) (x1 : Int32) (C : Sd p s m args meth c cX3_wages 4 RX3 (some .int) y) (c4 : Int32 → Int32 → St → Prop) (K : Int32 → St → Prop) (hc4 : ∀ (v2 : Int32) (v3 : Int32) (st : St) (H : Heap) (locs : List Loc) (ls : Array Slot), gH 107 enX y st s H locs → lv_has ls 4 [(0, .ref (ad y 8)), (1, .int x1), (2, .int v2), (3, .int v3)] → c4 v2 v3 st → W p l e (rmm 2 44) s m args below meth c H locs 0 0 (MQ below (va_Qi K (gB 107 enX y) (gA 107 y)) args s 0 0 (gA 107 y)) (F0 m 4 ls [])) (v2 : Int32) (v3 : Int32) (st : St) {H : Heap} {locs : List Loc} {ls : Array Slot} (hG : gH 107 enX y st s H locs) (hl : lv_has ls 4 [(0, .ref (ad y 8)), (1, .int x1), (2, .int v2), (3, .int v3)]) (hw : w_X3_wages_b35 x1 c4 K v2 v3 st) : W p l e (rmm 2 44) s m args below meth c H locs 0 0 (MQ below (va_Qi K (gB 107 enX y) (gA 107 y)) args s 0 0 (gA 107 y)) (F0 m 35 ls []) := by
  obtain ⟨hx, hb, hml, hown, hts, hr, hlk, hK, hN⟩ := id C
  unfold w_X3_wages_b35 at hw
  refine lv_iinc (v := (v3 + 1)) (lv' := [(3, .int (v3 + 1)), (0, .ref (ad y 8)), (1, .int x1), (2, .int v2)]) hx hb dX3_wages_35 hl (k := 3) rfl rfl (Nat.le_of_ble_eq_true rfl) rfl (fun ls hl => ?_)
  refine lv_goto (tgt := 4) hx hb dX3_wages_38 (by decide) ?_
  exact hc4 v2 (v3 + 1) st H locs _ hG (lv_sub hl [1, 2, 3, 0] rfl) hw
set_option maxRecDepth 100000 in
set_option maxHeartbeats 4000000 in
theorem z_X3_wages_L4 {p : Program} {e : Env} {s : State} {m : MethodId} {args : Array Value} {below : List Frame} {meth : Method} {c : Code} (l : Launch) (y : Sy) (x1 : Int32) (C : Sd p s m args meth c cX3_wages 4 RX3 (some .int) y)  (K : Int32 → St → Prop)  : ∀ (n : Nat) (v2 : Int32) (v3 : Int32) (st : St) (H : Heap) (locs : List Loc) (ls : Array Slot), gH 107 enX y st s H locs → lv_has ls 4 [(0, .ref (ad y 8)), (1, .int x1), (2, .int v2), (3, .int v3)] → w_X3_wages_L4 x1  K n v2 v3 st → W p l e (rmm 2 44) s m args below meth c H locs 0 0 (MQ below (va_Qi K (gB 107 enX y) (gA 107 y)) args s 0 0 (gA 107 y)) (F0 m 4 ls []) := by
  obtain ⟨hx, hb, hml, hown, hts, hr, hlk, hK, hN⟩ := id C
  intro n
  induction n with
  | zero => intro v2 v3 st H locs ls hG hl hw; exact False.elim hw
  | succ n hc4 =>
    intro v2 v3 st H locs ls hG hl hw
    have hw : w_X3_wages_L4q x1  K (fun v2 v3 st => w_X3_wages_L4 x1  K n v2 v3 st) v2 v3 st := hw
    unfold w_X3_wages_L4q at hw
    refine lv_iload_n hx hb dX3_wages_4 rfl (lv_at hl 3 rfl) ?_
    refine lv_aload_n hx hb dX3_wages_5 rfl (lv_at hl 0 rfl) ?_
    refine r_get (C := RX3) (T := TX3) (Nf := 2) hx hb hts hown hK hG (by decide) rfl rfl inX3 0 (by decide) qF_X3_15 rfl dX3_wages_6 ?_
    refine r_ki (r_run_V (k := 11) (As := []) (rest := [.int v3]) hx hb hml hown hts hK hN hG (c_X1_keeperCount l y 11 isC_11 st _ hw) (isC.lt isC_11) (isC.e isC_11 y _) rfl rfl qM_X3_19 qI_X1_keeperCount qS_X1_keeperCount qN_X1 qC_X1_keeperCount hd_X1_keeperCount ⟨Nat.le_of_ble_eq_true rfl, Nat.le_of_ble_eq_true rfl⟩ hl.1 rfl (Nat.le_of_ble_eq_true rfl) dX3_wages_9) hG (fun r9 st9 H locs hw hG => ?_)
    refine lv_icmp_ge (tgt := 41) hx hb dX3_wages_12 (by decide) (fun hc => ?_) (fun hc => ?_)
    · replace hw := hw.1 hc
      refine lv_iload_n hx hb dX3_wages_41 rfl (lv_at hl 2 rfl) ?_
      exact r_iret hx hb hr hlk hK hG rfl hw dX3_wages_42
    · replace hw := hw.2 hc
      refine lv_iload_n hx hb dX3_wages_15 rfl (lv_at hl 1 rfl) ?_
      refine lv_iload_n hx hb dX3_wages_16 rfl (lv_at hl 3 rfl) ?_
      refine r_ki (r_run_N (As := [.int x1, .int v3]) (rest := []) hx hb hml hown hts hK hN hG (c_X8_bit l y x1 v3 st9 _ hw) qM_X3_29 qT_X8_bit qN_X8 qC_X8_bit hd_X8_bit ⟨Nat.le_of_ble_eq_true rfl, Nat.le_of_ble_eq_true rfl⟩ hl.1 rfl (Nat.le_of_ble_eq_true rfl) dX3_wages_17) hG (fun r17 st17 H locs hw hG => ?_)
      refine lv_iconst (v := 1) hx hb dX3_wages_20 (by decide) ?_
      refine lv_icmp_ne (tgt := 35) hx hb dX3_wages_21 (by decide) (fun hc => ?_) (fun hc => ?_)
      · replace hw := hw.1 hc
        exact z_X3_wages_b35 l y x1 C (fun v2 v3 st => w_X3_wages_L4 x1  K n v2 v3 st) K hc4 v2 v3 st17 hG (lv_sub hl [0, 1, 2, 3] rfl) hw
      · replace hw := hw.2 hc
        refine lv_iload_n hx hb dX3_wages_24 rfl (lv_at hl 2 rfl) ?_
        refine lv_aload_n hx hb dX3_wages_25 rfl (lv_at hl 0 rfl) ?_
        refine r_get (C := RX3) (T := TX3) (Nf := 2) hx hb hts hown hK hG (by decide) rfl rfl inX3 0 (by decide) qF_X3_15 rfl dX3_wages_26 ?_
        refine lv_iload_n hx hb dX3_wages_29 rfl (lv_at hl 3 rfl) ?_
        refine r_ki (r_run_V (k := 11) (As := [.int v3]) (rest := [.int v2]) hx hb hml hown hts hK hN hG (c_X1_wageOf l y 11 isC_11 v3 st17 _ hw) (isC.lt isC_11) (isC.e isC_11 y _) rfl rfl qM_X3_33 qI_X1_wageOf qS_X1_wageOf qN_X1 qC_X1_wageOf hd_X1_wageOf ⟨Nat.le_of_ble_eq_true rfl, Nat.le_of_ble_eq_true rfl⟩ hl.1 rfl (Nat.le_of_ble_eq_true rfl) dX3_wages_30) hG (fun r30 st30 H locs hw hG => ?_)
        refine lv_iadd hx hb dX3_wages_33 ?_
        refine lv_istore_n (lv' := [(2, .int (v2 + r30)), (0, .ref (ad y 8)), (1, .int x1), (3, .int v3)]) hx hb dX3_wages_34 rfl hl (Nat.le_of_ble_eq_true rfl) rfl (fun ls hl => ?_)
        exact z_X3_wages_b35 l y x1 C (fun v2 v3 st => w_X3_wages_L4 x1  K n v2 v3 st) K hc4 (v2 + r30) v3 st30 hG (lv_sub hl [1, 2, 0, 3] rfl) hw
theorem hd_X3_wages : yX3_wages.cls ≠ "java/lang/invoke/MethodHandle" ∧ yX3_wages.cls ≠ "java/lang/invoke/VarHandle" ∧ (parseMethodDescriptor yX3_wages.desc).map (fun d => d.parameters.length) = some 1 := by decide +kernel
set_option maxRecDepth 100000 in
set_option maxHeartbeats 4000000 in
theorem c_X3_wages (l : Launch) (y : Sy) (x1 : Int32) (st : St) (K : Int32 → St → Prop) (hw : w_X3_wages x1 st K) : Ci 107 enX l yX3_wages cX3_wages 4 (some .int) 2 44 y [.ref (ad y 8), .int x1] st K := by
  refine ent (by decide) (Nat.le_of_ble_eq_true rfl) ?_
  intro p e s m below meth c C hG ls hl
  have hl : lv_has ls 4 [(0, .ref (ad y 8)), (1, .int x1)] := hl
  generalize ([.ref (ad y 8), .int x1] : List Value).toArray = args at C ⊢
  have C : Sd p s m args meth c cX3_wages 4 RX3 (some .int) y := C
  obtain ⟨hx, hb, hml, hown, hts, hr, hlk, hK, hN⟩ := id C
  generalize s.heap = H at hG ⊢
  generalize ([] : List Loc) = locs at hG ⊢
  unfold w_X3_wages at hw
  refine lv_iconst (v := 0) hx hb dX3_wages_0 (by decide) ?_
  refine lv_istore_n (lv' := [(2, .int 0), (0, .ref (ad y 8)), (1, .int x1)]) hx hb dX3_wages_1 rfl hl (Nat.le_of_ble_eq_true rfl) rfl (fun ls hl => ?_)
  refine lv_iconst (v := 0) hx hb dX3_wages_2 (by decide) ?_
  refine lv_istore_n (lv' := [(3, .int 0), (2, .int 0), (0, .ref (ad y 8)), (1, .int x1)]) hx hb dX3_wages_3 rfl hl (Nat.le_of_ble_eq_true rfl) rfl (fun ls hl => ?_)
  obtain ⟨n4, hw⟩ := hw
  exact z_X3_wages_L4 l y x1 C  K  n4 0 0 st H locs _ hG (lv_sub hl [2, 3, 1, 0] rfl) hw
theorem hd_X3_crowd : yX3_crowd.cls ≠ "java/lang/invoke/MethodHandle" ∧ yX3_crowd.cls ≠ "java/lang/invoke/VarHandle" ∧ (parseMethodDescriptor yX3_crowd.desc).map (fun d => d.parameters.length) = some 1 := by decide +kernel
set_option maxRecDepth 100000 in
set_option maxHeartbeats 4000000 in
theorem c_X3_crowd (l : Launch) (y : Sy) (x1 : Int32) (st : St) (K : Int32 → St → Prop) (hw : w_X3_crowd x1 st K) : Ci 107 enX l yX3_crowd cX3_crowd 2 (some .int) 3 65 y [.ref (ad y 8), .int x1] st K := by
  refine ent (by decide) (Nat.le_of_ble_eq_true rfl) ?_
  intro p e s m below meth c C hG ls hl
  have hl : lv_has ls 2 [(0, .ref (ad y 8)), (1, .int x1)] := hl
  generalize ([.ref (ad y 8), .int x1] : List Value).toArray = args at C ⊢
  have C : Sd p s m args meth c cX3_crowd 2 RX3 (some .int) y := C
  obtain ⟨hx, hb, hml, hown, hts, hr, hlk, hK, hN⟩ := id C
  generalize s.heap = H at hG ⊢
  generalize ([] : List Loc) = locs at hG ⊢
  unfold w_X3_crowd at hw
  refine lv_aload_n hx hb dX3_crowd_0 rfl (lv_at hl 0 rfl) ?_
  refine lv_iload_n hx hb dX3_crowd_1 rfl (lv_at hl 1 rfl) ?_
  refine r_ki (r_run_V (k := 8) (As := [.int x1]) (rest := []) hx hb hml hown hts hK hN hG (c_X3_keepersIn l y x1 st _ hw) (by decide) rfl rfl rfl qM_X3_36 qI_X3_keepersIn qS_X3_keepersIn qN_X3 qC_X3_keepersIn hd_X3_keepersIn ⟨Nat.le_of_ble_eq_true rfl, Nat.le_of_ble_eq_true rfl⟩ hl.1 rfl (Nat.le_of_ble_eq_true rfl) dX3_crowd_2) hG (fun r2 st2 H locs hw hG => ?_)
  refine r_ki (r_run_S (As := [.int r2]) (rest := []) hx hb hml hown hts hK hN hG (c_J6_bitCount_0f7a4 l y r2 st2 _ hw) qM_X3_39 qT_J6_bitCount_0f7a4 qN_J6 qC_J6_bitCount_0f7a4 hd_J6_bitCount_0f7a4 ⟨Nat.le_of_ble_eq_true rfl, Nat.le_of_ble_eq_true rfl⟩ hl.1 rfl (Nat.le_of_ble_eq_true rfl) dX3_crowd_5) hG (fun r5 st5 H locs hw hG => ?_)
  exact r_iret hx hb hr hlk hK hG rfl hw dX3_crowd_8
set_option maxRecDepth 100000 in
set_option maxHeartbeats 4000000 in
theorem z_X3_townOfMost_b24 {p : Program} {e : Env} {s : State} {m : MethodId} {args : Array Value} {below : List Frame} {meth : Method} {c : Code} (l : Launch) (y : Sy)  (C : Sd p s m args meth c cX3_townOfMost 3 RX3 (some .int) y) (c4 : Int32 → Int32 → St → Prop) (K : Int32 → St → Prop) (hc4 : ∀ (v1 : Int32) (v2 : Int32) (st : St) (H : Heap) (locs : List Loc) (ls : Array Slot), gH 107 enX y st s H locs → lv_has ls 3 [(0, .ref (ad y 8)), (1, .int v1), (2, .int v2)] → c4 v1 v2 st → W p l e (rmm 4 86) s m args below meth c H locs 0 0 (MQ below (va_Qi K (gB 107 enX y) (gA 107 y)) args s 0 0 (gA 107 y)) (F0 m 4 ls [])) (v1 : Int32) (v2 : Int32) (st : St) {H : Heap} {locs : List Loc} {ls : Array Slot} (hG : gH 107 enX y st s H locs) (hl : lv_has ls 3 [(0, .ref (ad y 8)), (1, .int v1), (2, .int v2)]) (hw : w_X3_townOfMost_b24  c4 K v1 v2 st) : W p l e (rmm 4 86) s m args below meth c H locs 0 0 (MQ below (va_Qi K (gB 107 enX y) (gA 107 y)) args s 0 0 (gA 107 y)) (F0 m 24 ls []) := by
  obtain ⟨hx, hb, hml, hown, hts, hr, hlk, hK, hN⟩ := id C
  unfold w_X3_townOfMost_b24 at hw
  refine lv_iinc (v := (v2 + 1)) (lv' := [(2, .int (v2 + 1)), (0, .ref (ad y 8)), (1, .int v1)]) hx hb dX3_townOfMost_24 hl (k := 2) rfl rfl (Nat.le_of_ble_eq_true rfl) rfl (fun ls hl => ?_)
  refine lv_goto (tgt := 4) hx hb dX3_townOfMost_27 (by decide) ?_
  exact hc4 v1 (v2 + 1) st H locs _ hG (lv_sub hl [1, 2, 0] rfl) hw
set_option maxRecDepth 100000 in
set_option maxHeartbeats 4000000 in
theorem z_X3_townOfMost_L4 {p : Program} {e : Env} {s : State} {m : MethodId} {args : Array Value} {below : List Frame} {meth : Method} {c : Code} (l : Launch) (y : Sy)  (C : Sd p s m args meth c cX3_townOfMost 3 RX3 (some .int) y)  (K : Int32 → St → Prop)  : ∀ (n : Nat) (v1 : Int32) (v2 : Int32) (st : St) (H : Heap) (locs : List Loc) (ls : Array Slot), gH 107 enX y st s H locs → lv_has ls 3 [(0, .ref (ad y 8)), (1, .int v1), (2, .int v2)] → w_X3_townOfMost_L4   K n v1 v2 st → W p l e (rmm 4 86) s m args below meth c H locs 0 0 (MQ below (va_Qi K (gB 107 enX y) (gA 107 y)) args s 0 0 (gA 107 y)) (F0 m 4 ls []) := by
  obtain ⟨hx, hb, hml, hown, hts, hr, hlk, hK, hN⟩ := id C
  intro n
  induction n with
  | zero => intro v1 v2 st H locs ls hG hl hw; exact False.elim hw
  | succ n hc4 =>
    intro v1 v2 st H locs ls hG hl hw
    have hw : w_X3_townOfMost_L4q   K (fun v1 v2 st => w_X3_townOfMost_L4   K n v1 v2 st) v1 v2 st := hw
    unfold w_X3_townOfMost_L4q at hw
    refine lv_iload_n hx hb dX3_townOfMost_4 rfl (lv_at hl 2 rfl) ?_
    refine lv_iconst (v := 4) hx hb dX3_townOfMost_5 (by decide) ?_
    refine lv_icmp_ge (tgt := 30) hx hb dX3_townOfMost_6 (by decide) (fun hc => ?_) (fun hc => ?_)
    · replace hw := hw.1 hc
      refine lv_iload_n hx hb dX3_townOfMost_30 rfl (lv_at hl 1 rfl) ?_
      exact r_iret hx hb hr hlk hK hG rfl hw dX3_townOfMost_31
    · replace hw := hw.2 hc
      refine lv_aload_n hx hb dX3_townOfMost_9 rfl (lv_at hl 0 rfl) ?_
      refine lv_iload_n hx hb dX3_townOfMost_10 rfl (lv_at hl 2 rfl) ?_
      refine r_ki (r_run_V (k := 8) (As := [.int v2]) (rest := []) hx hb hml hown hts hK hN hG (c_X3_crowd l y v2 st _ hw) (by decide) rfl rfl rfl qM_X3_44 qI_X3_crowd qS_X3_crowd qN_X3 qC_X3_crowd hd_X3_crowd ⟨Nat.le_of_ble_eq_true rfl, Nat.le_of_ble_eq_true rfl⟩ hl.1 rfl (Nat.le_of_ble_eq_true rfl) dX3_townOfMost_11) hG (fun r11 st11 H locs hw hG => ?_)
      refine lv_aload_n hx hb dX3_townOfMost_14 rfl (lv_at hl 0 rfl) ?_
      refine lv_iload_n hx hb dX3_townOfMost_15 rfl (lv_at hl 1 rfl) ?_
      refine r_ki (r_run_V (k := 8) (As := [.int v1]) (rest := [.int r11]) hx hb hml hown hts hK hN hG (c_X3_crowd l y v1 st11 _ hw) (by decide) rfl rfl rfl qM_X3_44 qI_X3_crowd qS_X3_crowd qN_X3 qC_X3_crowd hd_X3_crowd ⟨Nat.le_of_ble_eq_true rfl, Nat.le_of_ble_eq_true rfl⟩ hl.1 rfl (Nat.le_of_ble_eq_true rfl) dX3_townOfMost_16) hG (fun r16 st16 H locs hw hG => ?_)
      refine lv_icmp_le (tgt := 24) hx hb dX3_townOfMost_19 (by decide) (fun hc => ?_) (fun hc => ?_)
      · replace hw := hw.1 hc
        exact z_X3_townOfMost_b24 l y  C (fun v1 v2 st => w_X3_townOfMost_L4   K n v1 v2 st) K hc4 v1 v2 st16 hG (lv_sub hl [0, 1, 2] rfl) hw
      · replace hw := hw.2 hc
        refine lv_iload_n hx hb dX3_townOfMost_22 rfl (lv_at hl 2 rfl) ?_
        refine lv_istore_n (lv' := [(1, .int v2), (0, .ref (ad y 8)), (2, .int v2)]) hx hb dX3_townOfMost_23 rfl hl (Nat.le_of_ble_eq_true rfl) rfl (fun ls hl => ?_)
        exact z_X3_townOfMost_b24 l y  C (fun v1 v2 st => w_X3_townOfMost_L4   K n v1 v2 st) K hc4 v2 v2 st16 hG (lv_sub hl [1, 0, 2] rfl) hw
theorem hd_X3_townOfMost : yX3_townOfMost.cls ≠ "java/lang/invoke/MethodHandle" ∧ yX3_townOfMost.cls ≠ "java/lang/invoke/VarHandle" ∧ (parseMethodDescriptor yX3_townOfMost.desc).map (fun d => d.parameters.length) = some 0 := by decide +kernel
set_option maxRecDepth 100000 in
set_option maxHeartbeats 4000000 in
theorem c_X3_townOfMost (l : Launch) (y : Sy)  (st : St) (K : Int32 → St → Prop) (hw : w_X3_townOfMost  st K) : Ci 107 enX l yX3_townOfMost cX3_townOfMost 3 (some .int) 4 86 y [.ref (ad y 8)] st K := by
  refine ent (by decide) (Nat.le_of_ble_eq_true rfl) ?_
  intro p e s m below meth c C hG ls hl
  have hl : lv_has ls 3 [(0, .ref (ad y 8))] := hl
  generalize ([.ref (ad y 8)] : List Value).toArray = args at C ⊢
  have C : Sd p s m args meth c cX3_townOfMost 3 RX3 (some .int) y := C
  obtain ⟨hx, hb, hml, hown, hts, hr, hlk, hK, hN⟩ := id C
  generalize s.heap = H at hG ⊢
  generalize ([] : List Loc) = locs at hG ⊢
  unfold w_X3_townOfMost at hw
  refine lv_iconst (v := 0) hx hb dX3_townOfMost_0 (by decide) ?_
  refine lv_istore_n (lv' := [(1, .int 0), (0, .ref (ad y 8))]) hx hb dX3_townOfMost_1 rfl hl (Nat.le_of_ble_eq_true rfl) rfl (fun ls hl => ?_)
  refine lv_iconst (v := 1) hx hb dX3_townOfMost_2 (by decide) ?_
  refine lv_istore_n (lv' := [(2, .int 1), (1, .int 0), (0, .ref (ad y 8))]) hx hb dX3_townOfMost_3 rfl hl (Nat.le_of_ble_eq_true rfl) rfl (fun ls hl => ?_)
  obtain ⟨n4, hw⟩ := hw
  exact z_X3_townOfMost_L4 l y  C  K  n4 0 1 st H locs _ hG (lv_sub hl [2, 1, 0] rfl) hw
set_option maxRecDepth 100000 in
set_option maxHeartbeats 4000000 in
theorem z_X3_mostHateIn_b62 {p : Program} {e : Env} {s : State} {m : MethodId} {args : Array Value} {below : List Frame} {meth : Method} {c : Code} (l : Launch) (y : Sy) (x1 : Int32) (C : Sd p s m args meth c cX3_mostHateIn 5 RX3 (some .int) y) (c5 : Int32 → Int32 → St → Prop) (c21 : Int32 → Int32 → Int32 → St → Prop) (K : Int32 → St → Prop) (hc5 : ∀ (v2 : Int32) (v3 : Int32) (st : St) (H : Heap) (locs : List Loc) (ls : Array Slot), gH 107 enX y st s H locs → lv_has ls 5 [(0, .ref (ad y 8)), (1, .int x1), (2, .int v2), (3, .int v3)] → c5 v2 v3 st → W p l e (rmm 2 44) s m args below meth c H locs 0 0 (MQ below (va_Qi K (gB 107 enX y) (gA 107 y)) args s 0 0 (gA 107 y)) (F0 m 5 ls [])) (hc21 : ∀ (v2 : Int32) (v3 : Int32) (v4 : Int32) (st : St) (H : Heap) (locs : List Loc) (ls : Array Slot), gH 107 enX y st s H locs → lv_has ls 5 [(0, .ref (ad y 8)), (1, .int x1), (2, .int v2), (3, .int v3), (4, .int v4)] → c21 v2 v3 v4 st → W p l e (rmm 2 44) s m args below meth c H locs 0 0 (MQ below (va_Qi K (gB 107 enX y) (gA 107 y)) args s 0 0 (gA 107 y)) (F0 m 21 ls [])) (v2 : Int32) (v3 : Int32) (v4 : Int32) (st : St) {H : Heap} {locs : List Loc} {ls : Array Slot} (hG : gH 107 enX y st s H locs) (hl : lv_has ls 5 [(0, .ref (ad y 8)), (1, .int x1), (2, .int v2), (3, .int v3), (4, .int v4)]) (hw : w_X3_mostHateIn_b62 x1 c5 c21 K v2 v3 v4 st) : W p l e (rmm 2 44) s m args below meth c H locs 0 0 (MQ below (va_Qi K (gB 107 enX y) (gA 107 y)) args s 0 0 (gA 107 y)) (F0 m 62 ls []) := by
  obtain ⟨hx, hb, hml, hown, hts, hr, hlk, hK, hN⟩ := id C
  unfold w_X3_mostHateIn_b62 at hw
  refine lv_iinc (v := (v4 + 1)) (lv' := [(4, .int (v4 + 1)), (0, .ref (ad y 8)), (1, .int x1), (2, .int v2), (3, .int v3)]) hx hb dX3_mostHateIn_62 hl (k := 4) rfl rfl (Nat.le_of_ble_eq_true rfl) rfl (fun ls hl => ?_)
  refine lv_goto (tgt := 21) hx hb dX3_mostHateIn_65 (by decide) ?_
  exact hc21 v2 v3 (v4 + 1) st H locs _ hG (lv_sub hl [1, 2, 3, 4, 0] rfl) hw
set_option maxRecDepth 100000 in
set_option maxHeartbeats 4000000 in
theorem z_X3_mostHateIn_b68 {p : Program} {e : Env} {s : State} {m : MethodId} {args : Array Value} {below : List Frame} {meth : Method} {c : Code} (l : Launch) (y : Sy) (x1 : Int32) (C : Sd p s m args meth c cX3_mostHateIn 5 RX3 (some .int) y) (c5 : Int32 → Int32 → St → Prop) (K : Int32 → St → Prop) (hc5 : ∀ (v2 : Int32) (v3 : Int32) (st : St) (H : Heap) (locs : List Loc) (ls : Array Slot), gH 107 enX y st s H locs → lv_has ls 5 [(0, .ref (ad y 8)), (1, .int x1), (2, .int v2), (3, .int v3)] → c5 v2 v3 st → W p l e (rmm 2 44) s m args below meth c H locs 0 0 (MQ below (va_Qi K (gB 107 enX y) (gA 107 y)) args s 0 0 (gA 107 y)) (F0 m 5 ls [])) (v2 : Int32) (v3 : Int32) (st : St) {H : Heap} {locs : List Loc} {ls : Array Slot} (hG : gH 107 enX y st s H locs) (hl : lv_has ls 5 [(0, .ref (ad y 8)), (1, .int x1), (2, .int v2), (3, .int v3)]) (hw : w_X3_mostHateIn_b68 x1 c5 K v2 v3 st) : W p l e (rmm 2 44) s m args below meth c H locs 0 0 (MQ below (va_Qi K (gB 107 enX y) (gA 107 y)) args s 0 0 (gA 107 y)) (F0 m 68 ls []) := by
  obtain ⟨hx, hb, hml, hown, hts, hr, hlk, hK, hN⟩ := id C
  unfold w_X3_mostHateIn_b68 at hw
  refine lv_iinc (v := (v3 + 1)) (lv' := [(3, .int (v3 + 1)), (0, .ref (ad y 8)), (1, .int x1), (2, .int v2)]) hx hb dX3_mostHateIn_68 hl (k := 3) rfl rfl (Nat.le_of_ble_eq_true rfl) rfl (fun ls hl => ?_)
  refine lv_goto (tgt := 5) hx hb dX3_mostHateIn_71 (by decide) ?_
  exact hc5 v2 (v3 + 1) st H locs _ hG (lv_sub hl [1, 2, 3, 0] rfl) hw
set_option maxRecDepth 100000 in
set_option maxHeartbeats 4000000 in
theorem z_X3_mostHateIn_L21 {p : Program} {e : Env} {s : State} {m : MethodId} {args : Array Value} {below : List Frame} {meth : Method} {c : Code} (l : Launch) (y : Sy) (x1 : Int32) (C : Sd p s m args meth c cX3_mostHateIn 5 RX3 (some .int) y) (c5 : Int32 → Int32 → St → Prop) (K : Int32 → St → Prop) (hc5 : ∀ (v2 : Int32) (v3 : Int32) (st : St) (H : Heap) (locs : List Loc) (ls : Array Slot), gH 107 enX y st s H locs → lv_has ls 5 [(0, .ref (ad y 8)), (1, .int x1), (2, .int v2), (3, .int v3)] → c5 v2 v3 st → W p l e (rmm 2 44) s m args below meth c H locs 0 0 (MQ below (va_Qi K (gB 107 enX y) (gA 107 y)) args s 0 0 (gA 107 y)) (F0 m 5 ls [])) : ∀ (n : Nat) (v2 : Int32) (v3 : Int32) (v4 : Int32) (st : St) (H : Heap) (locs : List Loc) (ls : Array Slot), gH 107 enX y st s H locs → lv_has ls 5 [(0, .ref (ad y 8)), (1, .int x1), (2, .int v2), (3, .int v3), (4, .int v4)] → w_X3_mostHateIn_L21 x1 c5 K n v2 v3 v4 st → W p l e (rmm 2 44) s m args below meth c H locs 0 0 (MQ below (va_Qi K (gB 107 enX y) (gA 107 y)) args s 0 0 (gA 107 y)) (F0 m 21 ls []) := by
  obtain ⟨hx, hb, hml, hown, hts, hr, hlk, hK, hN⟩ := id C
  intro n
  induction n with
  | zero => intro v2 v3 v4 st H locs ls hG hl hw; exact False.elim hw
  | succ n hc21 =>
    intro v2 v3 v4 st H locs ls hG hl hw
    have hw : w_X3_mostHateIn_L21q x1 c5 K (fun v2 v3 v4 st => w_X3_mostHateIn_L21 x1 c5 K n v2 v3 v4 st) v2 v3 v4 st := hw
    unfold w_X3_mostHateIn_L21q at hw
    refine lv_iload hx hb dX3_mostHateIn_21 (lv_at hl 4 rfl) ?_
    refine lv_aload_n hx hb dX3_mostHateIn_23 rfl (lv_at hl 0 rfl) ?_
    refine r_get (C := RX3) (T := TX3) (Nf := 2) hx hb hts hown hK hG (by decide) rfl rfl inX3 0 (by decide) qF_X3_15 rfl dX3_mostHateIn_24 ?_
    refine r_ki (r_run_V (k := 11) (As := []) (rest := [.int v4]) hx hb hml hown hts hK hN hG (c_X1_keeperCount l y 11 isC_11 st _ hw) (isC.lt isC_11) (isC.e isC_11 y _) rfl rfl qM_X3_19 qI_X1_keeperCount qS_X1_keeperCount qN_X1 qC_X1_keeperCount hd_X1_keeperCount ⟨Nat.le_of_ble_eq_true rfl, Nat.le_of_ble_eq_true rfl⟩ hl.1 rfl (Nat.le_of_ble_eq_true rfl) dX3_mostHateIn_27) hG (fun r27 st27 H locs hw hG => ?_)
    refine lv_icmp_ge (tgt := 68) hx hb dX3_mostHateIn_30 (by decide) (fun hc => ?_) (fun hc => ?_)
    · replace hw := hw.1 hc
      exact z_X3_mostHateIn_b68 l y x1 C c5 K hc5 v2 v3 st27 hG (lv_sub hl [0, 1, 2, 3] rfl) hw
    · replace hw := hw.2 hc
      refine lv_aload_n hx hb dX3_mostHateIn_33 rfl (lv_at hl 0 rfl) ?_
      refine r_get (C := RX3) (T := TX3) (Nf := 2) hx hb hts hown hK hG (by decide) rfl rfl inX3 0 (by decide) qF_X3_15 rfl dX3_mostHateIn_34 ?_
      refine lv_iload_n hx hb dX3_mostHateIn_37 rfl (lv_at hl 1 rfl) ?_
      refine lv_iload_n hx hb dX3_mostHateIn_38 rfl (lv_at hl 3 rfl) ?_
      refine lv_iload hx hb dX3_mostHateIn_39 (lv_at hl 4 rfl) ?_
      refine r_ki (r_run_V (k := 11) (As := [.int x1, .int v3, .int v4]) (rest := []) hx hb hml hown hts hK hN hG (c_X1_areBothIn l y 11 isC_11 x1 v3 v4 st27 _ hw) (isC.lt isC_11) (isC.e isC_11 y _) rfl rfl qM_X3_47 qI_X1_areBothIn qS_X1_areBothIn qN_X1 qC_X1_areBothIn hd_X1_areBothIn ⟨Nat.le_of_ble_eq_true rfl, Nat.le_of_ble_eq_true rfl⟩ hl.1 rfl (Nat.le_of_ble_eq_true rfl) dX3_mostHateIn_41) hG (fun r41 st41 H locs hw hG => ?_)
      refine lv_if_eq (tgt := 62) hx hb dX3_mostHateIn_44 (by decide) (fun hc => ?_) (fun hc => ?_)
      · replace hw := hw.1 hc
        exact z_X3_mostHateIn_b62 l y x1 C c5 (fun v2 v3 v4 st => w_X3_mostHateIn_L21 x1 c5 K n v2 v3 v4 st) K hc5 hc21 v2 v3 v4 st41 hG (lv_sub hl [0, 1, 2, 3, 4] rfl) hw
      · replace hw := hw.2 hc
        refine lv_iload_n hx hb dX3_mostHateIn_47 rfl (lv_at hl 2 rfl) ?_
        refine lv_aload_n hx hb dX3_mostHateIn_48 rfl (lv_at hl 0 rfl) ?_
        refine r_get (C := RX3) (T := TX3) (Nf := 2) hx hb hts hown hK hG (by decide) rfl rfl inX3 0 (by decide) qF_X3_15 rfl dX3_mostHateIn_49 ?_
        refine lv_iload_n hx hb dX3_mostHateIn_52 rfl (lv_at hl 3 rfl) ?_
        refine lv_iload hx hb dX3_mostHateIn_53 (lv_at hl 4 rfl) ?_
        refine r_ki (r_run_V (k := 11) (As := [.int v3, .int v4]) (rest := [.int v2]) hx hb hml hown hts hK hN hG (c_X1_hateOf l y 11 isC_11 v3 v4 st41 _ hw) (isC.lt isC_11) (isC.e isC_11 y _) rfl rfl qM_X3_51 qI_X1_hateOf qS_X1_hateOf qN_X1 qC_X1_hateOf hd_X1_hateOf ⟨Nat.le_of_ble_eq_true rfl, Nat.le_of_ble_eq_true rfl⟩ hl.1 rfl (Nat.le_of_ble_eq_true rfl) dX3_mostHateIn_55) hG (fun r55 st55 H locs hw hG => ?_)
        refine va_mmax hx hb (hml.trans hl.1.symm) hown (hts _ qM_X3_54) (hts _ qT_Lib_Math_max_name) (hts _ qN_J9) (hts _ qC_Lib_Math_max_name) (Nat.le_of_ble_eq_true rfl) (Nat.le_of_ble_eq_true rfl) (Nat.zero_le _) (Nat.zero_le _) dX3_mostHateIn_58 ?_
        refine lv_istore_n (lv' := [(2, .int (if v2 < r55 then r55 else v2)), (0, .ref (ad y 8)), (1, .int x1), (3, .int v3), (4, .int v4)]) hx hb dX3_mostHateIn_61 rfl hl (Nat.le_of_ble_eq_true rfl) rfl (fun ls hl => ?_)
        exact z_X3_mostHateIn_b62 l y x1 C c5 (fun v2 v3 v4 st => w_X3_mostHateIn_L21 x1 c5 K n v2 v3 v4 st) K hc5 hc21 (if v2 < r55 then r55 else v2) v3 v4 st55 hG (lv_sub hl [1, 2, 0, 3, 4] rfl) hw
set_option maxRecDepth 100000 in
set_option maxHeartbeats 4000000 in
theorem z_X3_mostHateIn_L5 {p : Program} {e : Env} {s : State} {m : MethodId} {args : Array Value} {below : List Frame} {meth : Method} {c : Code} (l : Launch) (y : Sy) (x1 : Int32) (C : Sd p s m args meth c cX3_mostHateIn 5 RX3 (some .int) y)  (K : Int32 → St → Prop)  : ∀ (n : Nat) (v2 : Int32) (v3 : Int32) (st : St) (H : Heap) (locs : List Loc) (ls : Array Slot), gH 107 enX y st s H locs → lv_has ls 5 [(0, .ref (ad y 8)), (1, .int x1), (2, .int v2), (3, .int v3)] → w_X3_mostHateIn_L5 x1  K n v2 v3 st → W p l e (rmm 2 44) s m args below meth c H locs 0 0 (MQ below (va_Qi K (gB 107 enX y) (gA 107 y)) args s 0 0 (gA 107 y)) (F0 m 5 ls []) := by
  obtain ⟨hx, hb, hml, hown, hts, hr, hlk, hK, hN⟩ := id C
  intro n
  induction n with
  | zero => intro v2 v3 st H locs ls hG hl hw; exact False.elim hw
  | succ n hc5 =>
    intro v2 v3 st H locs ls hG hl hw
    have hw : w_X3_mostHateIn_L5q x1  K (fun v2 v3 st => w_X3_mostHateIn_L5 x1  K n v2 v3 st) v2 v3 st := hw
    unfold w_X3_mostHateIn_L5q at hw
    refine lv_iload_n hx hb dX3_mostHateIn_5 rfl (lv_at hl 3 rfl) ?_
    refine lv_aload_n hx hb dX3_mostHateIn_6 rfl (lv_at hl 0 rfl) ?_
    refine r_get (C := RX3) (T := TX3) (Nf := 2) hx hb hts hown hK hG (by decide) rfl rfl inX3 0 (by decide) qF_X3_15 rfl dX3_mostHateIn_7 ?_
    refine r_ki (r_run_V (k := 11) (As := []) (rest := [.int v3]) hx hb hml hown hts hK hN hG (c_X1_keeperCount l y 11 isC_11 st _ hw) (isC.lt isC_11) (isC.e isC_11 y _) rfl rfl qM_X3_19 qI_X1_keeperCount qS_X1_keeperCount qN_X1 qC_X1_keeperCount hd_X1_keeperCount ⟨Nat.le_of_ble_eq_true rfl, Nat.le_of_ble_eq_true rfl⟩ hl.1 rfl (Nat.le_of_ble_eq_true rfl) dX3_mostHateIn_10) hG (fun r10 st10 H locs hw hG => ?_)
    refine lv_icmp_ge (tgt := 74) hx hb dX3_mostHateIn_13 (by decide) (fun hc => ?_) (fun hc => ?_)
    · replace hw := hw.1 hc
      refine lv_iload_n hx hb dX3_mostHateIn_74 rfl (lv_at hl 2 rfl) ?_
      exact r_iret hx hb hr hlk hK hG rfl hw dX3_mostHateIn_75
    · replace hw := hw.2 hc
      refine lv_iload_n hx hb dX3_mostHateIn_16 rfl (lv_at hl 3 rfl) ?_
      refine lv_iconst (v := 1) hx hb dX3_mostHateIn_17 (by decide) ?_
      refine lv_iadd hx hb dX3_mostHateIn_18 ?_
      refine lv_istore (lv' := [(4, .int (v3 + 1)), (0, .ref (ad y 8)), (1, .int x1), (2, .int v2), (3, .int v3)]) hx hb dX3_mostHateIn_19 hl (Nat.le_of_ble_eq_true rfl) rfl (fun ls hl => ?_)
      obtain ⟨n21, hw⟩ := hw
      exact z_X3_mostHateIn_L21 l y x1 C (fun v2 v3 st => w_X3_mostHateIn_L5 x1  K n v2 v3 st) K hc5 n21 v2 v3 (v3 + 1) st10 H locs _ hG (lv_sub hl [1, 2, 3, 4, 0] rfl) hw
theorem hd_X3_mostHateIn : yX3_mostHateIn.cls ≠ "java/lang/invoke/MethodHandle" ∧ yX3_mostHateIn.cls ≠ "java/lang/invoke/VarHandle" ∧ (parseMethodDescriptor yX3_mostHateIn.desc).map (fun d => d.parameters.length) = some 1 := by decide +kernel
set_option maxRecDepth 100000 in
set_option maxHeartbeats 4000000 in
theorem c_X3_mostHateIn (l : Launch) (y : Sy) (x1 : Int32) (st : St) (K : Int32 → St → Prop) (hw : w_X3_mostHateIn x1 st K) : Ci 107 enX l yX3_mostHateIn cX3_mostHateIn 5 (some .int) 2 44 y [.ref (ad y 8), .int x1] st K := by
  refine ent (by decide) (Nat.le_of_ble_eq_true rfl) ?_
  intro p e s m below meth c C hG ls hl
  have hl : lv_has ls 5 [(0, .ref (ad y 8)), (1, .int x1)] := hl
  generalize ([.ref (ad y 8), .int x1] : List Value).toArray = args at C ⊢
  have C : Sd p s m args meth c cX3_mostHateIn 5 RX3 (some .int) y := C
  obtain ⟨hx, hb, hml, hown, hts, hr, hlk, hK, hN⟩ := id C
  generalize s.heap = H at hG ⊢
  generalize ([] : List Loc) = locs at hG ⊢
  unfold w_X3_mostHateIn at hw
  refine lv_bipush (v := (-9)) hx hb dX3_mostHateIn_0 (by decide) ?_
  refine lv_istore_n (lv' := [(2, .int (-9)), (0, .ref (ad y 8)), (1, .int x1)]) hx hb dX3_mostHateIn_2 rfl hl (Nat.le_of_ble_eq_true rfl) rfl (fun ls hl => ?_)
  refine lv_iconst (v := 0) hx hb dX3_mostHateIn_3 (by decide) ?_
  refine lv_istore_n (lv' := [(3, .int 0), (2, .int (-9)), (0, .ref (ad y 8)), (1, .int x1)]) hx hb dX3_mostHateIn_4 rfl hl (Nat.le_of_ble_eq_true rfl) rfl (fun ls hl => ?_)
  obtain ⟨n5, hw⟩ := hw
  exact z_X3_mostHateIn_L5 l y x1 C  K  n5 (-9) 0 st H locs _ hG (lv_sub hl [2, 3, 1, 0] rfl) hw
set_option maxRecDepth 100000 in
set_option maxHeartbeats 4000000 in
theorem z_X3_townsThatOpen_b24 {p : Program} {e : Env} {s : State} {m : MethodId} {args : Array Value} {below : List Frame} {meth : Method} {c : Code} (l : Launch) (y : Sy) (x1 : Int32) (C : Sd p s m args meth c cX3_townsThatOpen 4 RX3 (some .int) y) (c4 : Int32 → Int32 → St → Prop) (K : Int32 → St → Prop) (hc4 : ∀ (v2 : Int32) (v3 : Int32) (st : St) (H : Heap) (locs : List Loc) (ls : Array Slot), gH 107 enX y st s H locs → lv_has ls 4 [(0, .ref (ad y 8)), (1, .int x1), (2, .int v2), (3, .int v3)] → c4 v2 v3 st → W p l e (rmm 3 68) s m args below meth c H locs 0 0 (MQ below (va_Qi K (gB 107 enX y) (gA 107 y)) args s 0 0 (gA 107 y)) (F0 m 4 ls [])) (v2 : Int32) (v3 : Int32) (st : St) {H : Heap} {locs : List Loc} {ls : Array Slot} (hG : gH 107 enX y st s H locs) (hl : lv_has ls 4 [(0, .ref (ad y 8)), (1, .int x1), (2, .int v2), (3, .int v3)]) (hw : w_X3_townsThatOpen_b24 x1 c4 K v2 v3 st) : W p l e (rmm 3 68) s m args below meth c H locs 0 0 (MQ below (va_Qi K (gB 107 enX y) (gA 107 y)) args s 0 0 (gA 107 y)) (F0 m 24 ls []) := by
  obtain ⟨hx, hb, hml, hown, hts, hr, hlk, hK, hN⟩ := id C
  unfold w_X3_townsThatOpen_b24 at hw
  refine lv_iinc (v := (v3 + 1)) (lv' := [(3, .int (v3 + 1)), (0, .ref (ad y 8)), (1, .int x1), (2, .int v2)]) hx hb dX3_townsThatOpen_24 hl (k := 3) rfl rfl (Nat.le_of_ble_eq_true rfl) rfl (fun ls hl => ?_)
  refine lv_goto (tgt := 4) hx hb dX3_townsThatOpen_27 (by decide) ?_
  exact hc4 v2 (v3 + 1) st H locs _ hG (lv_sub hl [1, 2, 3, 0] rfl) hw
set_option maxRecDepth 100000 in
set_option maxHeartbeats 4000000 in
theorem z_X3_townsThatOpen_L4 {p : Program} {e : Env} {s : State} {m : MethodId} {args : Array Value} {below : List Frame} {meth : Method} {c : Code} (l : Launch) (y : Sy) (x1 : Int32) (C : Sd p s m args meth c cX3_townsThatOpen 4 RX3 (some .int) y)  (K : Int32 → St → Prop)  : ∀ (n : Nat) (v2 : Int32) (v3 : Int32) (st : St) (H : Heap) (locs : List Loc) (ls : Array Slot), gH 107 enX y st s H locs → lv_has ls 4 [(0, .ref (ad y 8)), (1, .int x1), (2, .int v2), (3, .int v3)] → w_X3_townsThatOpen_L4 x1  K n v2 v3 st → W p l e (rmm 3 68) s m args below meth c H locs 0 0 (MQ below (va_Qi K (gB 107 enX y) (gA 107 y)) args s 0 0 (gA 107 y)) (F0 m 4 ls []) := by
  obtain ⟨hx, hb, hml, hown, hts, hr, hlk, hK, hN⟩ := id C
  intro n
  induction n with
  | zero => intro v2 v3 st H locs ls hG hl hw; exact False.elim hw
  | succ n hc4 =>
    intro v2 v3 st H locs ls hG hl hw
    have hw : w_X3_townsThatOpen_L4q x1  K (fun v2 v3 st => w_X3_townsThatOpen_L4 x1  K n v2 v3 st) v2 v3 st := hw
    unfold w_X3_townsThatOpen_L4q at hw
    refine lv_iload_n hx hb dX3_townsThatOpen_4 rfl (lv_at hl 3 rfl) ?_
    refine lv_iconst (v := 4) hx hb dX3_townsThatOpen_5 (by decide) ?_
    refine lv_icmp_ge (tgt := 30) hx hb dX3_townsThatOpen_6 (by decide) (fun hc => ?_) (fun hc => ?_)
    · replace hw := hw.1 hc
      refine lv_iload_n hx hb dX3_townsThatOpen_30 rfl (lv_at hl 2 rfl) ?_
      exact r_iret hx hb hr hlk hK hG rfl hw dX3_townsThatOpen_31
    · replace hw := hw.2 hc
      refine lv_aload_n hx hb dX3_townsThatOpen_9 rfl (lv_at hl 0 rfl) ?_
      refine lv_iload_n hx hb dX3_townsThatOpen_10 rfl (lv_at hl 3 rfl) ?_
      refine r_ki (r_run_V (k := 8) (As := [.int v3]) (rest := []) hx hb hml hown hts hK hN hG (c_X3_mostHateIn l y v3 st _ hw) (by decide) rfl rfl rfl qM_X3_59 qI_X3_mostHateIn qS_X3_mostHateIn qN_X3 qC_X3_mostHateIn hd_X3_mostHateIn ⟨Nat.le_of_ble_eq_true rfl, Nat.le_of_ble_eq_true rfl⟩ hl.1 rfl (Nat.le_of_ble_eq_true rfl) dX3_townsThatOpen_11) hG (fun r11 st11 H locs hw hG => ?_)
      refine lv_iload_n hx hb dX3_townsThatOpen_14 rfl (lv_at hl 1 rfl) ?_
      refine lv_icmp_lt (tgt := 24) hx hb dX3_townsThatOpen_15 (by decide) (fun hc => ?_) (fun hc => ?_)
      · replace hw := hw.1 hc
        exact z_X3_townsThatOpen_b24 l y x1 C (fun v2 v3 st => w_X3_townsThatOpen_L4 x1  K n v2 v3 st) K hc4 v2 v3 st11 hG (lv_sub hl [0, 1, 2, 3] rfl) hw
      · replace hw := hw.2 hc
        refine lv_iload_n hx hb dX3_townsThatOpen_18 rfl (lv_at hl 2 rfl) ?_
        refine lv_iconst (v := 1) hx hb dX3_townsThatOpen_19 (by decide) ?_
        refine lv_iload_n hx hb dX3_townsThatOpen_20 rfl (lv_at hl 3 rfl) ?_
        refine lv_ishl hx hb dX3_townsThatOpen_21 ?_
        refine lv_ior hx hb dX3_townsThatOpen_22 ?_
        refine lv_istore_n (lv' := [(2, .int (v2 ||| ((1 : Int32) <<< (v3 &&& 31)))), (0, .ref (ad y 8)), (1, .int x1), (3, .int v3)]) hx hb dX3_townsThatOpen_23 rfl hl (Nat.le_of_ble_eq_true rfl) rfl (fun ls hl => ?_)
        exact z_X3_townsThatOpen_b24 l y x1 C (fun v2 v3 st => w_X3_townsThatOpen_L4 x1  K n v2 v3 st) K hc4 (v2 ||| ((1 : Int32) <<< (v3 &&& 31))) v3 st11 hG (lv_sub hl [1, 2, 0, 3] rfl) hw
theorem hd_X3_townsThatOpen : yX3_townsThatOpen.cls ≠ "java/lang/invoke/MethodHandle" ∧ yX3_townsThatOpen.cls ≠ "java/lang/invoke/VarHandle" ∧ (parseMethodDescriptor yX3_townsThatOpen.desc).map (fun d => d.parameters.length) = some 1 := by decide +kernel
set_option maxRecDepth 100000 in
set_option maxHeartbeats 4000000 in
theorem c_X3_townsThatOpen (l : Launch) (y : Sy) (x1 : Int32) (st : St) (K : Int32 → St → Prop) (hw : w_X3_townsThatOpen x1 st K) : Ci 107 enX l yX3_townsThatOpen cX3_townsThatOpen 4 (some .int) 3 68 y [.ref (ad y 8), .int x1] st K := by
  refine ent (by decide) (Nat.le_of_ble_eq_true rfl) ?_
  intro p e s m below meth c C hG ls hl
  have hl : lv_has ls 4 [(0, .ref (ad y 8)), (1, .int x1)] := hl
  generalize ([.ref (ad y 8), .int x1] : List Value).toArray = args at C ⊢
  have C : Sd p s m args meth c cX3_townsThatOpen 4 RX3 (some .int) y := C
  obtain ⟨hx, hb, hml, hown, hts, hr, hlk, hK, hN⟩ := id C
  generalize s.heap = H at hG ⊢
  generalize ([] : List Loc) = locs at hG ⊢
  unfold w_X3_townsThatOpen at hw
  refine lv_iconst (v := 0) hx hb dX3_townsThatOpen_0 (by decide) ?_
  refine lv_istore_n (lv' := [(2, .int 0), (0, .ref (ad y 8)), (1, .int x1)]) hx hb dX3_townsThatOpen_1 rfl hl (Nat.le_of_ble_eq_true rfl) rfl (fun ls hl => ?_)
  refine lv_iconst (v := 0) hx hb dX3_townsThatOpen_2 (by decide) ?_
  refine lv_istore_n (lv' := [(3, .int 0), (2, .int 0), (0, .ref (ad y 8)), (1, .int x1)]) hx hb dX3_townsThatOpen_3 rfl hl (Nat.le_of_ble_eq_true rfl) rfl (fun ls hl => ?_)
  obtain ⟨n4, hw⟩ := hw
  exact z_X3_townsThatOpen_L4 l y x1 C  K  n4 0 0 st H locs _ hG (lv_sub hl [2, 3, 1, 0] rfl) hw
set_option maxRecDepth 100000 in
set_option maxHeartbeats 4000000 in
theorem z_X3_mostTwosWith_b99 {p : Program} {e : Env} {s : State} {m : MethodId} {args : Array Value} {below : List Frame} {meth : Method} {c : Code} (l : Launch) (y : Sy) (x1 : Int32) (x2 : Int32) (x3 : Int32) (C : Sd p s m args meth c cX3_mostTwosWith 7 RX3 (some .int) y) (c13 : Int32 → Int32 → St → Prop) (K : Int32 → St → Prop) (hc13 : ∀ (v4 : Int32) (v5 : Int32) (st : St) (H : Heap) (locs : List Loc) (ls : Array Slot), gH 107 enX y st s H locs → lv_has ls 7 [(0, .ref (ad y 8)), (1, .int x1), (2, .int x2), (3, .int x3), (4, .int v4), (5, .int v5)] → c13 v4 v5 st → W p l e (rmm 2 43) s m args below meth c H locs 0 0 (MQ below (va_Qi K (gB 107 enX y) (gA 107 y)) args s 0 0 (gA 107 y)) (F0 m 13 ls [])) (v4 : Int32) (v5 : Int32) (st : St) {H : Heap} {locs : List Loc} {ls : Array Slot} (hG : gH 107 enX y st s H locs) (hl : lv_has ls 7 [(0, .ref (ad y 8)), (1, .int x1), (2, .int x2), (3, .int x3), (4, .int v4), (5, .int v5)]) (hw : w_X3_mostTwosWith_b99 x1 x2 x3 c13 K v4 v5 st) : W p l e (rmm 2 43) s m args below meth c H locs 0 0 (MQ below (va_Qi K (gB 107 enX y) (gA 107 y)) args s 0 0 (gA 107 y)) (F0 m 99 ls []) := by
  obtain ⟨hx, hb, hml, hown, hts, hr, hlk, hK, hN⟩ := id C
  unfold w_X3_mostTwosWith_b99 at hw
  refine lv_iinc (v := (v5 + 1)) (lv' := [(5, .int (v5 + 1)), (0, .ref (ad y 8)), (1, .int x1), (2, .int x2), (3, .int x3), (4, .int v4)]) hx hb dX3_mostTwosWith_99 hl (k := 5) rfl rfl (Nat.le_of_ble_eq_true rfl) rfl (fun ls hl => ?_)
  refine lv_goto (tgt := 13) hx hb dX3_mostTwosWith_102 (by decide) ?_
  exact hc13 v4 (v5 + 1) st H locs _ hG (lv_sub hl [1, 2, 3, 4, 5, 0] rfl) hw
set_option maxRecDepth 100000 in
set_option maxHeartbeats 4000000 in
theorem z_X3_mostTwosWith_b44 {p : Program} {e : Env} {s : State} {m : MethodId} {args : Array Value} {below : List Frame} {meth : Method} {c : Code} (l : Launch) (y : Sy) (x1 : Int32) (x2 : Int32) (x3 : Int32) (C : Sd p s m args meth c cX3_mostTwosWith 7 RX3 (some .int) y) (c13 : Int32 → Int32 → St → Prop) (K : Int32 → St → Prop) (hc13 : ∀ (v4 : Int32) (v5 : Int32) (st : St) (H : Heap) (locs : List Loc) (ls : Array Slot), gH 107 enX y st s H locs → lv_has ls 7 [(0, .ref (ad y 8)), (1, .int x1), (2, .int x2), (3, .int x3), (4, .int v4), (5, .int v5)] → c13 v4 v5 st → W p l e (rmm 2 43) s m args below meth c H locs 0 0 (MQ below (va_Qi K (gB 107 enX y) (gA 107 y)) args s 0 0 (gA 107 y)) (F0 m 13 ls [])) (v4 : Int32) (v5 : Int32) (s0 : Int32) (st : St) {H : Heap} {locs : List Loc} {ls : Array Slot} (hG : gH 107 enX y st s H locs) (hl : lv_has ls 7 [(0, .ref (ad y 8)), (1, .int x1), (2, .int x2), (3, .int x3), (4, .int v4), (5, .int v5)]) (hw : w_X3_mostTwosWith_b44 x1 x2 x3 c13 K v4 v5 s0 st) : W p l e (rmm 2 43) s m args below meth c H locs 0 0 (MQ below (va_Qi K (gB 107 enX y) (gA 107 y)) args s 0 0 (gA 107 y)) (F0 m 44 ls [.int s0]) := by
  obtain ⟨hx, hb, hml, hown, hts, hr, hlk, hK, hN⟩ := id C
  unfold w_X3_mostTwosWith_b44 at hw
  refine lv_istore (lv' := [(6, .int s0), (0, .ref (ad y 8)), (1, .int x1), (2, .int x2), (3, .int x3), (4, .int v4), (5, .int v5)]) hx hb dX3_mostTwosWith_44 hl (Nat.le_of_ble_eq_true rfl) rfl (fun ls hl => ?_)
  refine lv_iload_n hx hb dX3_mostTwosWith_46 rfl (lv_at hl 3 rfl) ?_
  refine lv_iload hx hb dX3_mostTwosWith_47 (lv_at hl 6 rfl) ?_
  refine r_ki (r_run_N (As := [.int x2, .int v5]) (rest := []) hx hb hml hown hts hK hN hG (c_X8_bit l y x2 v5 st _ hw) qM_X3_29 qT_X8_bit qN_X8 qC_X8_bit hd_X8_bit ⟨Nat.le_of_ble_eq_true rfl, Nat.le_of_ble_eq_true rfl⟩ hl.1 rfl (Nat.le_of_ble_eq_true rfl) dX3_mostTwosWith_49) hG (fun r49 st49 H locs hw hG => ?_)
  refine lv_iconst (v := 1) hx hb dX3_mostTwosWith_52 (by decide) ?_
  refine lv_icmp_ne (tgt := 99) hx hb dX3_mostTwosWith_53 (by decide) (fun hc => ?_) (fun hc => ?_)
  · replace hw := hw.1 hc
    exact z_X3_mostTwosWith_b99 l y x1 x2 x3 C c13 K hc13 v4 v5 st49 hG (lv_sub hl [1, 2, 3, 4, 5, 6] rfl) hw
  · replace hw := hw.2 hc
    refine lv_iload hx hb dX3_mostTwosWith_56 (lv_at hl 0 rfl) ?_
    refine lv_if_eq (tgt := 99) hx hb dX3_mostTwosWith_58 (by decide) (fun hc => ?_) (fun hc => ?_)
    · replace hw := hw.1 hc
      exact z_X3_mostTwosWith_b99 l y x1 x2 x3 C c13 K hc13 v4 v5 st49 hG (lv_sub hl [1, 2, 3, 4, 5, 6] rfl) hw
    · replace hw := hw.2 hc
      refine lv_aload_n hx hb dX3_mostTwosWith_61 rfl (lv_at hl 1 rfl) ?_
      refine r_get (C := RX3) (T := TX3) (Nf := 2) hx hb hts hown hK hG (by decide) rfl rfl inX3 0 (by decide) qF_X3_15 rfl dX3_mostTwosWith_62 ?_
      refine lv_iload hx hb dX3_mostTwosWith_65 (lv_at hl 6 rfl) ?_
      refine lv_iload_n hx hb dX3_mostTwosWith_67 rfl (lv_at hl 2 rfl) ?_
      refine r_ki (r_run_V (k := 11) (As := [.int v5, .int x1]) (rest := []) hx hb hml hown hts hK hN hG (c_X1_hateOf l y 11 isC_11 v5 x1 st49 _ hw) (isC.lt isC_11) (isC.e isC_11 y _) rfl rfl qM_X3_51 qI_X1_hateOf qS_X1_hateOf qN_X1 qC_X1_hateOf hd_X1_hateOf ⟨Nat.le_of_ble_eq_true rfl, Nat.le_of_ble_eq_true rfl⟩ hl.1 rfl (Nat.le_of_ble_eq_true rfl) dX3_mostTwosWith_68) hG (fun r68 st68 H locs hw hG => ?_)
      refine lv_iload_n hx hb dX3_mostTwosWith_71 rfl (lv_at hl 4 rfl) ?_
      refine lv_icmp_lt (tgt := 99) hx hb dX3_mostTwosWith_72 (by decide) (fun hc => ?_) (fun hc => ?_)
      · replace hw := hw.1 hc
        exact z_X3_mostTwosWith_b99 l y x1 x2 x3 C c13 K hc13 v4 v5 st68 hG (lv_sub hl [1, 2, 3, 4, 5, 6] rfl) hw
      · replace hw := hw.2 hc
        refine lv_iload hx hb dX3_mostTwosWith_75 (lv_at hl 5 rfl) ?_
        refine lv_iconst (v := 1) hx hb dX3_mostTwosWith_77 (by decide) ?_
        refine lv_aload_n hx hb dX3_mostTwosWith_78 rfl (lv_at hl 1 rfl) ?_
        refine r_get (C := RX3) (T := TX3) (Nf := 2) hx hb hts hown hK hG (by decide) rfl rfl inX3 1 (by decide) qF_X3_9 rfl dX3_mostTwosWith_79 ?_
        refine lv_iload_n hx hb dX3_mostTwosWith_82 rfl (lv_at hl 3 rfl) ?_
        refine lv_iconst (v := 1) hx hb dX3_mostTwosWith_83 (by decide) ?_
        refine lv_iload hx hb dX3_mostTwosWith_84 (lv_at hl 6 rfl) ?_
        refine lv_ishl hx hb dX3_mostTwosWith_86 ?_
        refine lv_iconst (v := (-1)) hx hb dX3_mostTwosWith_87 (by decide) ?_
        refine lv_ixor hx hb dX3_mostTwosWith_88 ?_
        refine lv_iand hx hb dX3_mostTwosWith_89 ?_
        refine r_ki (r_run_N (As := [.ref (ad y 9), .int (x2 &&& (((1 : Int32) <<< (v5 &&& 31)) ^^^ (-1)))]) (rest := [.int 1, .int v4]) hx hb hml hown hts hK hN hG (c_X8_at l y 9 64 isA_9 (x2 &&& (((1 : Int32) <<< (v5 &&& 31)) ^^^ (-1))) st68 _ hw) qM_X3_70 qT_X8_at qN_X8 qC_X8_at hd_X8_at ⟨Nat.le_of_ble_eq_true rfl, Nat.le_of_ble_eq_true rfl⟩ hl.1 rfl (Nat.le_of_ble_eq_true rfl) dX3_mostTwosWith_90) hG (fun r90 st90 H locs hw hG => ?_)
        refine lv_iadd hx hb dX3_mostTwosWith_93 ?_
        refine va_mmax hx hb (hml.trans hl.1.symm) hown (hts _ qM_X3_54) (hts _ qT_Lib_Math_max_name) (hts _ qN_J9) (hts _ qC_Lib_Math_max_name) (Nat.le_of_ble_eq_true rfl) (Nat.le_of_ble_eq_true rfl) (Nat.zero_le _) (Nat.zero_le _) dX3_mostTwosWith_94 ?_
        refine lv_istore (lv' := [(4, .int (if v4 < (1 + r90) then (1 + r90) else v4)), (6, .int s0), (0, .ref (ad y 8)), (1, .int x1), (2, .int x2), (3, .int x3), (5, .int v5)]) hx hb dX3_mostTwosWith_97 hl (Nat.le_of_ble_eq_true rfl) rfl (fun ls hl => ?_)
        exact z_X3_mostTwosWith_b99 l y x1 x2 x3 C c13 K hc13 (if v4 < (1 + r90) then (1 + r90) else v4) v5 st90 hG (lv_sub hl [2, 3, 4, 5, 0, 6] rfl) hw
set_option maxRecDepth 100000 in
set_option maxHeartbeats 4000000 in
theorem z_X3_mostTwosWith_L13 {p : Program} {e : Env} {s : State} {m : MethodId} {args : Array Value} {below : List Frame} {meth : Method} {c : Code} (l : Launch) (y : Sy) (x1 : Int32) (x2 : Int32) (x3 : Int32) (C : Sd p s m args meth c cX3_mostTwosWith 7 RX3 (some .int) y)  (K : Int32 → St → Prop)  : ∀ (n : Nat) (v4 : Int32) (v5 : Int32) (st : St) (H : Heap) (locs : List Loc) (ls : Array Slot), gH 107 enX y st s H locs → lv_has ls 7 [(0, .ref (ad y 8)), (1, .int x1), (2, .int x2), (3, .int x3), (4, .int v4), (5, .int v5)] → w_X3_mostTwosWith_L13 x1 x2 x3  K n v4 v5 st → W p l e (rmm 2 43) s m args below meth c H locs 0 0 (MQ below (va_Qi K (gB 107 enX y) (gA 107 y)) args s 0 0 (gA 107 y)) (F0 m 13 ls []) := by
  obtain ⟨hx, hb, hml, hown, hts, hr, hlk, hK, hN⟩ := id C
  intro n
  induction n with
  | zero => intro v4 v5 st H locs ls hG hl hw; exact False.elim hw
  | succ n hc13 =>
    intro v4 v5 st H locs ls hG hl hw
    have hw : w_X3_mostTwosWith_L13q x1 x2 x3  K (fun v4 v5 st => w_X3_mostTwosWith_L13 x1 x2 x3  K n v4 v5 st) v4 v5 st := hw
    unfold w_X3_mostTwosWith_L13q at hw
    refine lv_iload hx hb dX3_mostTwosWith_13 (lv_at hl 5 rfl) ?_
    refine lv_iload_n hx hb dX3_mostTwosWith_15 rfl (lv_at hl 1 rfl) ?_
    refine lv_icmp_ge (tgt := 105) hx hb dX3_mostTwosWith_16 (by decide) (fun hc => ?_) (fun hc => ?_)
    · replace hw := hw.1 hc
      refine lv_iload hx hb dX3_mostTwosWith_105 (lv_at hl 4 rfl) ?_
      exact r_iret hx hb hr hlk hK hG rfl hw dX3_mostTwosWith_107
    · replace hw := hw.2 hc
      refine lv_aload_n hx hb dX3_mostTwosWith_19 rfl (lv_at hl 0 rfl) ?_
      refine r_get (C := RX3) (T := TX3) (Nf := 2) hx hb hts hown hK hG (by decide) rfl rfl inX3 0 (by decide) qF_X3_15 rfl dX3_mostTwosWith_20 ?_
      refine lv_iload hx hb dX3_mostTwosWith_23 (lv_at hl 5 rfl) ?_
      refine r_ki (r_run_V (k := 11) (As := [.int v5]) (rest := []) hx hb hml hown hts hK hN hG (c_X1_townOf l y 11 isC_11 v5 st _ hw) (isC.lt isC_11) (isC.e isC_11 y _) rfl rfl qM_X3_25 qI_X1_townOf qS_X1_townOf qN_X1 qC_X1_townOf hd_X1_townOf ⟨Nat.le_of_ble_eq_true rfl, Nat.le_of_ble_eq_true rfl⟩ hl.1 rfl (Nat.le_of_ble_eq_true rfl) dX3_mostTwosWith_25) hG (fun r25 st25 H locs hw hG => ?_)
      refine lv_aload_n hx hb dX3_mostTwosWith_28 rfl (lv_at hl 0 rfl) ?_
      refine r_get (C := RX3) (T := TX3) (Nf := 2) hx hb hts hown hK hG (by decide) rfl rfl inX3 0 (by decide) qF_X3_15 rfl dX3_mostTwosWith_29 ?_
      refine lv_iload_n hx hb dX3_mostTwosWith_32 rfl (lv_at hl 1 rfl) ?_
      refine r_ki (r_run_V (k := 11) (As := [.int x1]) (rest := [.int r25]) hx hb hml hown hts hK hN hG (c_X1_townOf l y 11 isC_11 x1 st25 _ hw) (isC.lt isC_11) (isC.e isC_11 y _) rfl rfl qM_X3_25 qI_X1_townOf qS_X1_townOf qN_X1 qC_X1_townOf hd_X1_townOf ⟨Nat.le_of_ble_eq_true rfl, Nat.le_of_ble_eq_true rfl⟩ hl.1 rfl (Nat.le_of_ble_eq_true rfl) dX3_mostTwosWith_33) hG (fun r33 st33 H locs hw hG => ?_)
      refine lv_icmp_ne (tgt := 43) hx hb dX3_mostTwosWith_36 (by decide) (fun hc => ?_) (fun hc => ?_)
      · replace hw := hw.1 hc
        refine lv_iconst (v := 0) hx hb dX3_mostTwosWith_43 (by decide) ?_
        exact z_X3_mostTwosWith_b44 l y x1 x2 x3 C (fun v4 v5 st => w_X3_mostTwosWith_L13 x1 x2 x3  K n v4 v5 st) K hc13 v4 v5 0 st33 hG (lv_sub hl [0, 1, 2, 3, 4, 5] rfl) hw
      · replace hw := hw.2 hc
        refine lv_iconst (v := 1) hx hb dX3_mostTwosWith_39 (by decide) ?_
        refine lv_goto (tgt := 44) hx hb dX3_mostTwosWith_40 (by decide) ?_
        exact z_X3_mostTwosWith_b44 l y x1 x2 x3 C (fun v4 v5 st => w_X3_mostTwosWith_L13 x1 x2 x3  K n v4 v5 st) K hc13 v4 v5 1 st33 hG (lv_sub hl [0, 1, 2, 3, 4, 5] rfl) hw
theorem hd_X3_mostTwosWith : yX3_mostTwosWith.cls ≠ "java/lang/invoke/MethodHandle" ∧ yX3_mostTwosWith.cls ≠ "java/lang/invoke/VarHandle" ∧ (parseMethodDescriptor yX3_mostTwosWith.desc).map (fun d => d.parameters.length) = some 3 := by decide +kernel
set_option maxRecDepth 100000 in
set_option maxHeartbeats 4000000 in
theorem c_X3_mostTwosWith (l : Launch) (y : Sy) (x1 : Int32) (x2 : Int32) (x3 : Int32) (st : St) (K : Int32 → St → Prop) (hw : w_X3_mostTwosWith x1 x2 x3 st K) : Ci 107 enX l yX3_mostTwosWith cX3_mostTwosWith 7 (some .int) 2 43 y [.ref (ad y 8), .int x1, .int x2, .int x3] st K := by
  refine ent (by decide) (Nat.le_of_ble_eq_true rfl) ?_
  intro p e s m below meth c C hG ls hl
  have hl : lv_has ls 7 [(0, .ref (ad y 8)), (1, .int x1), (2, .int x2), (3, .int x3)] := hl
  generalize ([.ref (ad y 8), .int x1, .int x2, .int x3] : List Value).toArray = args at C ⊢
  have C : Sd p s m args meth c cX3_mostTwosWith 7 RX3 (some .int) y := C
  obtain ⟨hx, hb, hml, hown, hts, hr, hlk, hK, hN⟩ := id C
  generalize s.heap = H at hG ⊢
  generalize ([] : List Loc) = locs at hG ⊢
  unfold w_X3_mostTwosWith at hw
  refine lv_aload_n hx hb dX3_mostTwosWith_0 rfl (lv_at hl 0 rfl) ?_
  refine r_get (C := RX3) (T := TX3) (Nf := 2) hx hb hts hown hK hG (by decide) rfl rfl inX3 1 (by decide) qF_X3_9 rfl dX3_mostTwosWith_1 ?_
  refine lv_iload_n hx hb dX3_mostTwosWith_4 rfl (lv_at hl 2 rfl) ?_
  refine r_ki (r_run_N (As := [.ref (ad y 9), .int x2]) (rest := []) hx hb hml hown hts hK hN hG (c_X8_at l y 9 64 isA_9 x2 st _ hw) qM_X3_70 qT_X8_at qN_X8 qC_X8_at hd_X8_at ⟨Nat.le_of_ble_eq_true rfl, Nat.le_of_ble_eq_true rfl⟩ hl.1 rfl (Nat.le_of_ble_eq_true rfl) dX3_mostTwosWith_5) hG (fun r5 st5 H locs hw hG => ?_)
  refine lv_istore (lv' := [(4, .int r5), (0, .ref (ad y 8)), (1, .int x1), (2, .int x2), (3, .int x3)]) hx hb dX3_mostTwosWith_8 hl (Nat.le_of_ble_eq_true rfl) rfl (fun ls hl => ?_)
  refine lv_iconst (v := 0) hx hb dX3_mostTwosWith_10 (by decide) ?_
  refine lv_istore (lv' := [(5, .int 0), (4, .int r5), (0, .ref (ad y 8)), (1, .int x1), (2, .int x2), (3, .int x3)]) hx hb dX3_mostTwosWith_11 hl (Nat.le_of_ble_eq_true rfl) rfl (fun ls hl => ?_)
  obtain ⟨n13, hw⟩ := hw
  exact z_X3_mostTwosWith_L13 l y x1 x2 x3 C  K  n13 r5 0 st5 H locs _ hG (lv_sub hl [2, 3, 4, 5, 1, 0] rfl) hw
set_option maxRecDepth 100000 in
set_option maxHeartbeats 4000000 in
theorem z_X3_mostTwos_b47 {p : Program} {e : Env} {s : State} {m : MethodId} {args : Array Value} {below : List Frame} {meth : Method} {c : Code} (l : Launch) (y : Sy) (x1 : Int32) (C : Sd p s m args meth c cX3_mostTwos 4 RX3 (some .int) y) (c2 : Int32 → St → Prop) (K : Int32 → St → Prop) (hc2 : ∀ (v2 : Int32) (st : St) (H : Heap) (locs : List Loc) (ls : Array Slot), gH 107 enX y st s H locs → lv_has ls 4 [(0, .ref (ad y 8)), (1, .int x1), (2, .int v2)] → c2 v2 st → W p l e (rmm 3 69) s m args below meth c H locs 0 0 (MQ below (va_Qi K (gB 107 enX y) (gA 107 y)) args s 0 0 (gA 107 y)) (F0 m 2 ls [])) (v2 : Int32) (st : St) {H : Heap} {locs : List Loc} {ls : Array Slot} (hG : gH 107 enX y st s H locs) (hl : lv_has ls 4 [(0, .ref (ad y 8)), (1, .int x1), (2, .int v2)]) (hw : w_X3_mostTwos_b47 x1 c2 K v2 st) : W p l e (rmm 3 69) s m args below meth c H locs 0 0 (MQ below (va_Qi K (gB 107 enX y) (gA 107 y)) args s 0 0 (gA 107 y)) (F0 m 47 ls []) := by
  obtain ⟨hx, hb, hml, hown, hts, hr, hlk, hK, hN⟩ := id C
  unfold w_X3_mostTwos_b47 at hw
  refine lv_iinc (v := (v2 + 1)) (lv' := [(2, .int (v2 + 1)), (0, .ref (ad y 8)), (1, .int x1)]) hx hb dX3_mostTwos_47 hl (k := 2) rfl rfl (Nat.le_of_ble_eq_true rfl) rfl (fun ls hl => ?_)
  refine lv_goto (tgt := 2) hx hb dX3_mostTwos_50 (by decide) ?_
  exact hc2 (v2 + 1) st H locs _ hG (lv_sub hl [1, 2, 0] rfl) hw
set_option maxRecDepth 100000 in
set_option maxHeartbeats 4000000 in
theorem z_X3_mostTwos_L15 {p : Program} {e : Env} {s : State} {m : MethodId} {args : Array Value} {below : List Frame} {meth : Method} {c : Code} (l : Launch) (y : Sy) (x1 : Int32) (C : Sd p s m args meth c cX3_mostTwos 4 RX3 (some .int) y) (c2 : Int32 → St → Prop) (K : Int32 → St → Prop) (hc2 : ∀ (v2 : Int32) (st : St) (H : Heap) (locs : List Loc) (ls : Array Slot), gH 107 enX y st s H locs → lv_has ls 4 [(0, .ref (ad y 8)), (1, .int x1), (2, .int v2)] → c2 v2 st → W p l e (rmm 3 69) s m args below meth c H locs 0 0 (MQ below (va_Qi K (gB 107 enX y) (gA 107 y)) args s 0 0 (gA 107 y)) (F0 m 2 ls [])) : ∀ (n : Nat) (v2 : Int32) (v3 : Int32) (st : St) (H : Heap) (locs : List Loc) (ls : Array Slot), gH 107 enX y st s H locs → lv_has ls 4 [(0, .ref (ad y 8)), (1, .int x1), (2, .int v2), (3, .int v3)] → w_X3_mostTwos_L15 x1 c2 K n v2 v3 st → W p l e (rmm 3 69) s m args below meth c H locs 0 0 (MQ below (va_Qi K (gB 107 enX y) (gA 107 y)) args s 0 0 (gA 107 y)) (F0 m 15 ls []) := by
  obtain ⟨hx, hb, hml, hown, hts, hr, hlk, hK, hN⟩ := id C
  intro n
  induction n with
  | zero => intro v2 v3 st H locs ls hG hl hw; exact False.elim hw
  | succ n hc15 =>
    intro v2 v3 st H locs ls hG hl hw
    have hw : w_X3_mostTwos_L15q x1 c2 K (fun v2 v3 st => w_X3_mostTwos_L15 x1 c2 K n v2 v3 st) v2 v3 st := hw
    unfold w_X3_mostTwos_L15q at hw
    refine lv_iload_n hx hb dX3_mostTwos_15 rfl (lv_at hl 3 rfl) ?_
    refine lv_iconst (v := 1) hx hb dX3_mostTwos_16 (by decide) ?_
    refine lv_iload_n hx hb dX3_mostTwos_17 rfl (lv_at hl 2 rfl) ?_
    refine lv_ishl hx hb dX3_mostTwos_18 ?_
    refine lv_icmp_ge (tgt := 47) hx hb dX3_mostTwos_19 (by decide) (fun hc => ?_) (fun hc => ?_)
    · replace hw := hw.1 hc
      exact z_X3_mostTwos_b47 l y x1 C c2 K hc2 v2 st hG (lv_sub hl [0, 1, 2] rfl) hw
    · replace hw := hw.2 hc
      refine lv_aload_n hx hb dX3_mostTwos_22 rfl (lv_at hl 0 rfl) ?_
      refine r_get (C := RX3) (T := TX3) (Nf := 2) hx hb hts hown hK hG (by decide) rfl rfl inX3 1 (by decide) qF_X3_9 rfl dX3_mostTwos_23 ?_
      refine lv_iload_n hx hb dX3_mostTwos_26 rfl (lv_at hl 3 rfl) ?_
      refine lv_iconst (v := 1) hx hb dX3_mostTwos_27 (by decide) ?_
      refine lv_iload_n hx hb dX3_mostTwos_28 rfl (lv_at hl 2 rfl) ?_
      refine lv_ishl hx hb dX3_mostTwos_29 ?_
      refine lv_ior hx hb dX3_mostTwos_30 ?_
      refine lv_aload_n hx hb dX3_mostTwos_31 rfl (lv_at hl 0 rfl) ?_
      refine lv_iload_n hx hb dX3_mostTwos_32 rfl (lv_at hl 2 rfl) ?_
      refine lv_iload_n hx hb dX3_mostTwos_33 rfl (lv_at hl 3 rfl) ?_
      refine lv_iload_n hx hb dX3_mostTwos_34 rfl (lv_at hl 1 rfl) ?_
      refine r_ki (r_run_V (k := 8) (As := [.int v2, .int v3, .int x1]) (rest := [.int (v3 ||| ((1 : Int32) <<< (v2 &&& 31))), .ref (ad y 9)]) hx hb hml hown hts hK hN hG (c_X3_mostTwosWith l y v2 v3 x1 st _ hw) (by decide) rfl rfl rfl qM_X3_62 qI_X3_mostTwosWith qS_X3_mostTwosWith qN_X3 qC_X3_mostTwosWith hd_X3_mostTwosWith ⟨Nat.le_of_ble_eq_true rfl, Nat.le_of_ble_eq_true rfl⟩ hl.1 rfl (Nat.le_of_ble_eq_true rfl) dX3_mostTwos_35) hG (fun r35 st35 H locs hw hG => ?_)
      refine r_kv (r_run_N (As := [.ref (ad y 9), .int (v3 ||| ((1 : Int32) <<< (v2 &&& 31))), .int r35]) (rest := []) hx hb hml hown hts hK hN hG (c_X8_put l y 9 64 isA_9 (v3 ||| ((1 : Int32) <<< (v2 &&& 31))) r35 st35 _ hw) qM_X3_66 qT_X8_put qN_X8 qC_X8_put hd_X8_put ⟨Nat.le_of_ble_eq_true rfl, Nat.le_of_ble_eq_true rfl⟩ hl.1 rfl (Nat.le_of_ble_eq_true rfl) dX3_mostTwos_38) hG (fun st38 H locs hw hG => ?_)
      refine lv_iinc (v := (v3 + 1)) (lv' := [(3, .int (v3 + 1)), (0, .ref (ad y 8)), (1, .int x1), (2, .int v2)]) hx hb dX3_mostTwos_41 hl (k := 3) rfl rfl (Nat.le_of_ble_eq_true rfl) rfl (fun ls hl => ?_)
      refine lv_goto (tgt := 15) hx hb dX3_mostTwos_44 (by decide) ?_
      exact hc15 v2 (v3 + 1) st38 H locs _ hG (lv_sub hl [1, 2, 3, 0] rfl) hw
set_option maxRecDepth 100000 in
set_option maxHeartbeats 4000000 in
theorem z_X3_mostTwos_b53 {p : Program} {e : Env} {s : State} {m : MethodId} {args : Array Value} {below : List Frame} {meth : Method} {c : Code} (l : Launch) (y : Sy) (x1 : Int32) (C : Sd p s m args meth c cX3_mostTwos 4 RX3 (some .int) y)  (K : Int32 → St → Prop)   (st : St) {H : Heap} {locs : List Loc} {ls : Array Slot} (hG : gH 107 enX y st s H locs) (hl : lv_has ls 4 [(0, .ref (ad y 8))]) (hw : w_X3_mostTwos_b53 x1  K  st) : W p l e (rmm 3 69) s m args below meth c H locs 0 0 (MQ below (va_Qi K (gB 107 enX y) (gA 107 y)) args s 0 0 (gA 107 y)) (F0 m 53 ls []) := by
  obtain ⟨hx, hb, hml, hown, hts, hr, hlk, hK, hN⟩ := id C
  unfold w_X3_mostTwos_b53 at hw
  refine lv_aload_n hx hb dX3_mostTwos_53 rfl (lv_at hl 0 rfl) ?_
  refine r_get (C := RX3) (T := TX3) (Nf := 2) hx hb hts hown hK hG (by decide) rfl rfl inX3 1 (by decide) qF_X3_9 rfl dX3_mostTwos_54 ?_
  refine lv_iconst (v := 1) hx hb dX3_mostTwos_57 (by decide) ?_
  refine lv_aload_n hx hb dX3_mostTwos_58 rfl (lv_at hl 0 rfl) ?_
  refine r_get (C := RX3) (T := TX3) (Nf := 2) hx hb hts hown hK hG (by decide) rfl rfl inX3 0 (by decide) qF_X3_15 rfl dX3_mostTwos_59 ?_
  refine r_ki (r_run_V (k := 11) (As := []) (rest := [.int 1, .ref (ad y 9)]) hx hb hml hown hts hK hN hG (c_X1_keeperCount l y 11 isC_11 st _ hw) (isC.lt isC_11) (isC.e isC_11 y _) rfl rfl qM_X3_19 qI_X1_keeperCount qS_X1_keeperCount qN_X1 qC_X1_keeperCount hd_X1_keeperCount ⟨Nat.le_of_ble_eq_true rfl, Nat.le_of_ble_eq_true rfl⟩ hl.1 rfl (Nat.le_of_ble_eq_true rfl) dX3_mostTwos_62) hG (fun r62 st62 H locs hw hG => ?_)
  refine lv_ishl hx hb dX3_mostTwos_65 ?_
  refine lv_iconst (v := 1) hx hb dX3_mostTwos_66 (by decide) ?_
  refine lv_isub hx hb dX3_mostTwos_67 ?_
  refine r_ki (r_run_N (As := [.ref (ad y 9), .int (((1 : Int32) <<< (r62 &&& 31)) - 1)]) (rest := []) hx hb hml hown hts hK hN hG (c_X8_at l y 9 64 isA_9 (((1 : Int32) <<< (r62 &&& 31)) - 1) st62 _ hw) qM_X3_70 qT_X8_at qN_X8 qC_X8_at hd_X8_at ⟨Nat.le_of_ble_eq_true rfl, Nat.le_of_ble_eq_true rfl⟩ hl.1 rfl (Nat.le_of_ble_eq_true rfl) dX3_mostTwos_68) hG (fun r68 st68 H locs hw hG => ?_)
  exact r_iret hx hb hr hlk hK hG rfl hw dX3_mostTwos_71
set_option maxRecDepth 100000 in
set_option maxHeartbeats 4000000 in
theorem z_X3_mostTwos_L2 {p : Program} {e : Env} {s : State} {m : MethodId} {args : Array Value} {below : List Frame} {meth : Method} {c : Code} (l : Launch) (y : Sy) (x1 : Int32) (C : Sd p s m args meth c cX3_mostTwos 4 RX3 (some .int) y)  (K : Int32 → St → Prop)  : ∀ (n : Nat) (v2 : Int32) (st : St) (H : Heap) (locs : List Loc) (ls : Array Slot), gH 107 enX y st s H locs → lv_has ls 4 [(0, .ref (ad y 8)), (1, .int x1), (2, .int v2)] → w_X3_mostTwos_L2 x1  K n v2 st → W p l e (rmm 3 69) s m args below meth c H locs 0 0 (MQ below (va_Qi K (gB 107 enX y) (gA 107 y)) args s 0 0 (gA 107 y)) (F0 m 2 ls []) := by
  obtain ⟨hx, hb, hml, hown, hts, hr, hlk, hK, hN⟩ := id C
  intro n
  induction n with
  | zero => intro v2 st H locs ls hG hl hw; exact False.elim hw
  | succ n hc2 =>
    intro v2 st H locs ls hG hl hw
    have hw : w_X3_mostTwos_L2q x1  K (fun v2 st => w_X3_mostTwos_L2 x1  K n v2 st) v2 st := hw
    unfold w_X3_mostTwos_L2q at hw
    refine lv_iload_n hx hb dX3_mostTwos_2 rfl (lv_at hl 2 rfl) ?_
    refine lv_aload_n hx hb dX3_mostTwos_3 rfl (lv_at hl 0 rfl) ?_
    refine r_get (C := RX3) (T := TX3) (Nf := 2) hx hb hts hown hK hG (by decide) rfl rfl inX3 0 (by decide) qF_X3_15 rfl dX3_mostTwos_4 ?_
    refine r_ki (r_run_V (k := 11) (As := []) (rest := [.int v2]) hx hb hml hown hts hK hN hG (c_X1_keeperCount l y 11 isC_11 st _ hw) (isC.lt isC_11) (isC.e isC_11 y _) rfl rfl qM_X3_19 qI_X1_keeperCount qS_X1_keeperCount qN_X1 qC_X1_keeperCount hd_X1_keeperCount ⟨Nat.le_of_ble_eq_true rfl, Nat.le_of_ble_eq_true rfl⟩ hl.1 rfl (Nat.le_of_ble_eq_true rfl) dX3_mostTwos_7) hG (fun r7 st7 H locs hw hG => ?_)
    refine lv_icmp_ge (tgt := 53) hx hb dX3_mostTwos_10 (by decide) (fun hc => ?_) (fun hc => ?_)
    · replace hw := hw.1 hc
      exact z_X3_mostTwos_b53 l y x1 C  K  st7 hG (lv_sub hl [0] rfl) hw
    · replace hw := hw.2 hc
      refine lv_iconst (v := 0) hx hb dX3_mostTwos_13 (by decide) ?_
      refine lv_istore_n (lv' := [(3, .int 0), (0, .ref (ad y 8)), (1, .int x1), (2, .int v2)]) hx hb dX3_mostTwos_14 rfl hl (Nat.le_of_ble_eq_true rfl) rfl (fun ls hl => ?_)
      obtain ⟨n15, hw⟩ := hw
      exact z_X3_mostTwos_L15 l y x1 C (fun v2 st => w_X3_mostTwos_L2 x1  K n v2 st) K hc2 n15 v2 0 st7 H locs _ hG (lv_sub hl [1, 2, 3, 0] rfl) hw
theorem hd_X3_mostTwos : yX3_mostTwos.cls ≠ "java/lang/invoke/MethodHandle" ∧ yX3_mostTwos.cls ≠ "java/lang/invoke/VarHandle" ∧ (parseMethodDescriptor yX3_mostTwos.desc).map (fun d => d.parameters.length) = some 1 := by decide +kernel
set_option maxRecDepth 100000 in
set_option maxHeartbeats 4000000 in
theorem c_X3_mostTwos (l : Launch) (y : Sy) (x1 : Int32) (st : St) (K : Int32 → St → Prop) (hw : w_X3_mostTwos x1 st K) : Ci 107 enX l yX3_mostTwos cX3_mostTwos 4 (some .int) 3 69 y [.ref (ad y 8), .int x1] st K := by
  refine ent (by decide) (Nat.le_of_ble_eq_true rfl) ?_
  intro p e s m below meth c C hG ls hl
  have hl : lv_has ls 4 [(0, .ref (ad y 8)), (1, .int x1)] := hl
  generalize ([.ref (ad y 8), .int x1] : List Value).toArray = args at C ⊢
  have C : Sd p s m args meth c cX3_mostTwos 4 RX3 (some .int) y := C
  obtain ⟨hx, hb, hml, hown, hts, hr, hlk, hK, hN⟩ := id C
  generalize s.heap = H at hG ⊢
  generalize ([] : List Loc) = locs at hG ⊢
  unfold w_X3_mostTwos at hw
  refine lv_iconst (v := 0) hx hb dX3_mostTwos_0 (by decide) ?_
  refine lv_istore_n (lv' := [(2, .int 0), (0, .ref (ad y 8)), (1, .int x1)]) hx hb dX3_mostTwos_1 rfl hl (Nat.le_of_ble_eq_true rfl) rfl (fun ls hl => ?_)
  obtain ⟨n2, hw⟩ := hw
  exact z_X3_mostTwos_L2 l y x1 C  K  n2 0 st H locs _ hG (lv_sub hl [1, 2, 0] rfl) hw
set_option maxRecDepth 100000 in
set_option maxHeartbeats 4000000 in
theorem z_X3_worstTwo_b74 {p : Program} {e : Env} {s : State} {m : MethodId} {args : Array Value} {below : List Frame} {meth : Method} {c : Code} (l : Launch) (y : Sy) (x1 : Int32) (C : Sd p s m args meth c cX3_worstTwo 6 RX3 (some .int) y) (c9 : Int32 → Int32 → Int32 → St → Prop) (c27 : Int32 → Int32 → Int32 → Int32 → St → Prop) (K : Int32 → St → Prop) (hc9 : ∀ (v2 : Int32) (v3 : Int32) (v4 : Int32) (st : St) (H : Heap) (locs : List Loc) (ls : Array Slot), gH 107 enX y st s H locs → lv_has ls 6 [(0, .ref (ad y 8)), (1, .int x1), (2, .int v2), (3, .int v3), (4, .int v4)] → c9 v2 v3 v4 st → W p l e (rmm 2 43) s m args below meth c H locs 0 0 (MQ below (va_Qi K (gB 107 enX y) (gA 107 y)) args s 0 0 (gA 107 y)) (F0 m 9 ls [])) (hc27 : ∀ (v2 : Int32) (v3 : Int32) (v4 : Int32) (v5 : Int32) (st : St) (H : Heap) (locs : List Loc) (ls : Array Slot), gH 107 enX y st s H locs → lv_has ls 6 [(0, .ref (ad y 8)), (1, .int x1), (2, .int v2), (3, .int v3), (4, .int v4), (5, .int v5)] → c27 v2 v3 v4 v5 st → W p l e (rmm 2 43) s m args below meth c H locs 0 0 (MQ below (va_Qi K (gB 107 enX y) (gA 107 y)) args s 0 0 (gA 107 y)) (F0 m 27 ls [])) (v2 : Int32) (v3 : Int32) (v4 : Int32) (v5 : Int32) (st : St) {H : Heap} {locs : List Loc} {ls : Array Slot} (hG : gH 107 enX y st s H locs) (hl : lv_has ls 6 [(0, .ref (ad y 8)), (1, .int x1), (2, .int v2), (3, .int v3), (4, .int v4), (5, .int v5)]) (hw : w_X3_worstTwo_b74 x1 c9 c27 K v2 v3 v4 v5 st) : W p l e (rmm 2 43) s m args below meth c H locs 0 0 (MQ below (va_Qi K (gB 107 enX y) (gA 107 y)) args s 0 0 (gA 107 y)) (F0 m 74 ls []) := by
  obtain ⟨hx, hb, hml, hown, hts, hr, hlk, hK, hN⟩ := id C
  unfold w_X3_worstTwo_b74 at hw
  refine lv_iinc (v := (v5 + 1)) (lv' := [(5, .int (v5 + 1)), (0, .ref (ad y 8)), (1, .int x1), (2, .int v2), (3, .int v3), (4, .int v4)]) hx hb dX3_worstTwo_74 hl (k := 5) rfl rfl (Nat.le_of_ble_eq_true rfl) rfl (fun ls hl => ?_)
  refine lv_goto (tgt := 27) hx hb dX3_worstTwo_77 (by decide) ?_
  exact hc27 v2 v3 v4 (v5 + 1) st H locs _ hG (lv_sub hl [1, 2, 3, 4, 5, 0] rfl) hw
set_option maxRecDepth 100000 in
set_option maxHeartbeats 4000000 in
theorem z_X3_worstTwo_b80 {p : Program} {e : Env} {s : State} {m : MethodId} {args : Array Value} {below : List Frame} {meth : Method} {c : Code} (l : Launch) (y : Sy) (x1 : Int32) (C : Sd p s m args meth c cX3_worstTwo 6 RX3 (some .int) y) (c9 : Int32 → Int32 → Int32 → St → Prop) (K : Int32 → St → Prop) (hc9 : ∀ (v2 : Int32) (v3 : Int32) (v4 : Int32) (st : St) (H : Heap) (locs : List Loc) (ls : Array Slot), gH 107 enX y st s H locs → lv_has ls 6 [(0, .ref (ad y 8)), (1, .int x1), (2, .int v2), (3, .int v3), (4, .int v4)] → c9 v2 v3 v4 st → W p l e (rmm 2 43) s m args below meth c H locs 0 0 (MQ below (va_Qi K (gB 107 enX y) (gA 107 y)) args s 0 0 (gA 107 y)) (F0 m 9 ls [])) (v2 : Int32) (v3 : Int32) (v4 : Int32) (st : St) {H : Heap} {locs : List Loc} {ls : Array Slot} (hG : gH 107 enX y st s H locs) (hl : lv_has ls 6 [(0, .ref (ad y 8)), (1, .int x1), (2, .int v2), (3, .int v3), (4, .int v4)]) (hw : w_X3_worstTwo_b80 x1 c9 K v2 v3 v4 st) : W p l e (rmm 2 43) s m args below meth c H locs 0 0 (MQ below (va_Qi K (gB 107 enX y) (gA 107 y)) args s 0 0 (gA 107 y)) (F0 m 80 ls []) := by
  obtain ⟨hx, hb, hml, hown, hts, hr, hlk, hK, hN⟩ := id C
  unfold w_X3_worstTwo_b80 at hw
  refine lv_iinc (v := (v4 + 1)) (lv' := [(4, .int (v4 + 1)), (0, .ref (ad y 8)), (1, .int x1), (2, .int v2), (3, .int v3)]) hx hb dX3_worstTwo_80 hl (k := 4) rfl rfl (Nat.le_of_ble_eq_true rfl) rfl (fun ls hl => ?_)
  refine lv_goto (tgt := 9) hx hb dX3_worstTwo_83 (by decide) ?_
  exact hc9 v2 v3 (v4 + 1) st H locs _ hG (lv_sub hl [1, 2, 3, 4, 0] rfl) hw
set_option maxRecDepth 100000 in
set_option maxHeartbeats 4000000 in
theorem z_X3_worstTwo_L27 {p : Program} {e : Env} {s : State} {m : MethodId} {args : Array Value} {below : List Frame} {meth : Method} {c : Code} (l : Launch) (y : Sy) (x1 : Int32) (C : Sd p s m args meth c cX3_worstTwo 6 RX3 (some .int) y) (c9 : Int32 → Int32 → Int32 → St → Prop) (K : Int32 → St → Prop) (hc9 : ∀ (v2 : Int32) (v3 : Int32) (v4 : Int32) (st : St) (H : Heap) (locs : List Loc) (ls : Array Slot), gH 107 enX y st s H locs → lv_has ls 6 [(0, .ref (ad y 8)), (1, .int x1), (2, .int v2), (3, .int v3), (4, .int v4)] → c9 v2 v3 v4 st → W p l e (rmm 2 43) s m args below meth c H locs 0 0 (MQ below (va_Qi K (gB 107 enX y) (gA 107 y)) args s 0 0 (gA 107 y)) (F0 m 9 ls [])) : ∀ (n : Nat) (v2 : Int32) (v3 : Int32) (v4 : Int32) (v5 : Int32) (st : St) (H : Heap) (locs : List Loc) (ls : Array Slot), gH 107 enX y st s H locs → lv_has ls 6 [(0, .ref (ad y 8)), (1, .int x1), (2, .int v2), (3, .int v3), (4, .int v4), (5, .int v5)] → w_X3_worstTwo_L27 x1 c9 K n v2 v3 v4 v5 st → W p l e (rmm 2 43) s m args below meth c H locs 0 0 (MQ below (va_Qi K (gB 107 enX y) (gA 107 y)) args s 0 0 (gA 107 y)) (F0 m 27 ls []) := by
  obtain ⟨hx, hb, hml, hown, hts, hr, hlk, hK, hN⟩ := id C
  intro n
  induction n with
  | zero => intro v2 v3 v4 v5 st H locs ls hG hl hw; exact False.elim hw
  | succ n hc27 =>
    intro v2 v3 v4 v5 st H locs ls hG hl hw
    have hw : w_X3_worstTwo_L27q x1 c9 K (fun v2 v3 v4 v5 st => w_X3_worstTwo_L27 x1 c9 K n v2 v3 v4 v5 st) v2 v3 v4 v5 st := hw
    unfold w_X3_worstTwo_L27q at hw
    refine lv_iload hx hb dX3_worstTwo_27 (lv_at hl 5 rfl) ?_
    refine lv_aload_n hx hb dX3_worstTwo_29 rfl (lv_at hl 0 rfl) ?_
    refine r_get (C := RX3) (T := TX3) (Nf := 2) hx hb hts hown hK hG (by decide) rfl rfl inX3 0 (by decide) qF_X3_15 rfl dX3_worstTwo_30 ?_
    refine r_ki (r_run_V (k := 11) (As := []) (rest := [.int v5]) hx hb hml hown hts hK hN hG (c_X1_keeperCount l y 11 isC_11 st _ hw) (isC.lt isC_11) (isC.e isC_11 y _) rfl rfl qM_X3_19 qI_X1_keeperCount qS_X1_keeperCount qN_X1 qC_X1_keeperCount hd_X1_keeperCount ⟨Nat.le_of_ble_eq_true rfl, Nat.le_of_ble_eq_true rfl⟩ hl.1 rfl (Nat.le_of_ble_eq_true rfl) dX3_worstTwo_33) hG (fun r33 st33 H locs hw hG => ?_)
    refine lv_icmp_ge (tgt := 80) hx hb dX3_worstTwo_36 (by decide) (fun hc => ?_) (fun hc => ?_)
    · replace hw := hw.1 hc
      exact z_X3_worstTwo_b80 l y x1 C c9 K hc9 v2 v3 v4 st33 hG (lv_sub hl [0, 1, 2, 3, 4] rfl) hw
    · replace hw := hw.2 hc
      refine lv_aload_n hx hb dX3_worstTwo_39 rfl (lv_at hl 0 rfl) ?_
      refine r_get (C := RX3) (T := TX3) (Nf := 2) hx hb hts hown hK hG (by decide) rfl rfl inX3 0 (by decide) qF_X3_15 rfl dX3_worstTwo_40 ?_
      refine lv_iload hx hb dX3_worstTwo_43 (lv_at hl 4 rfl) ?_
      refine lv_iload hx hb dX3_worstTwo_45 (lv_at hl 5 rfl) ?_
      refine r_ki (r_run_V (k := 11) (As := [.int v4, .int v5]) (rest := []) hx hb hml hown hts hK hN hG (c_X1_hateOf l y 11 isC_11 v4 v5 st33 _ hw) (isC.lt isC_11) (isC.e isC_11 y _) rfl rfl qM_X3_51 qI_X1_hateOf qS_X1_hateOf qN_X1 qC_X1_hateOf hd_X1_hateOf ⟨Nat.le_of_ble_eq_true rfl, Nat.le_of_ble_eq_true rfl⟩ hl.1 rfl (Nat.le_of_ble_eq_true rfl) dX3_worstTwo_47) hG (fun r47 st47 H locs hw hG => ?_)
      refine lv_iload_n hx hb dX3_worstTwo_50 rfl (lv_at hl 3 rfl) ?_
      refine lv_icmp_le (tgt := 74) hx hb dX3_worstTwo_51 (by decide) (fun hc => ?_) (fun hc => ?_)
      · replace hw := hw.1 hc
        exact z_X3_worstTwo_b74 l y x1 C c9 (fun v2 v3 v4 v5 st => w_X3_worstTwo_L27 x1 c9 K n v2 v3 v4 v5 st) K hc9 hc27 v2 v3 v4 v5 st47 hG (lv_sub hl [0, 1, 2, 3, 4, 5] rfl) hw
      · replace hw := hw.2 hc
        refine lv_aload_n hx hb dX3_worstTwo_54 rfl (lv_at hl 0 rfl) ?_
        refine r_get (C := RX3) (T := TX3) (Nf := 2) hx hb hts hown hK hG (by decide) rfl rfl inX3 0 (by decide) qF_X3_15 rfl dX3_worstTwo_55 ?_
        refine lv_iload hx hb dX3_worstTwo_58 (lv_at hl 4 rfl) ?_
        refine lv_iload hx hb dX3_worstTwo_60 (lv_at hl 5 rfl) ?_
        refine r_ki (r_run_V (k := 11) (As := [.int v4, .int v5]) (rest := []) hx hb hml hown hts hK hN hG (c_X1_hateOf l y 11 isC_11 v4 v5 st47 _ hw) (isC.lt isC_11) (isC.e isC_11 y _) rfl rfl qM_X3_51 qI_X1_hateOf qS_X1_hateOf qN_X1 qC_X1_hateOf hd_X1_hateOf ⟨Nat.le_of_ble_eq_true rfl, Nat.le_of_ble_eq_true rfl⟩ hl.1 rfl (Nat.le_of_ble_eq_true rfl) dX3_worstTwo_62) hG (fun r62 st62 H locs hw hG => ?_)
        refine lv_istore_n (lv' := [(3, .int r62), (0, .ref (ad y 8)), (1, .int x1), (2, .int v2), (4, .int v4), (5, .int v5)]) hx hb dX3_worstTwo_65 rfl hl (Nat.le_of_ble_eq_true rfl) rfl (fun ls hl => ?_)
        refine lv_iload hx hb dX3_worstTwo_66 (lv_at hl 4 rfl) ?_
        refine lv_iload hx hb dX3_worstTwo_68 (lv_at hl 5 rfl) ?_
        refine r_ki (r_run_N (As := [.int v4, .int v5]) (rest := []) hx hb hml hown hts hK hN hG (c_X8_twoName l y v4 v5 st62 _ hw) qM_X3_74 qT_X8_twoName qN_X8 qC_X8_twoName hd_X8_twoName ⟨Nat.le_of_ble_eq_true rfl, Nat.le_of_ble_eq_true rfl⟩ hl.1 rfl (Nat.le_of_ble_eq_true rfl) dX3_worstTwo_70) hG (fun r70 st70 H locs hw hG => ?_)
        refine lv_istore_n (lv' := [(2, .int r70), (3, .int r62), (0, .ref (ad y 8)), (1, .int x1), (4, .int v4), (5, .int v5)]) hx hb dX3_worstTwo_73 rfl hl (Nat.le_of_ble_eq_true rfl) rfl (fun ls hl => ?_)
        exact z_X3_worstTwo_b74 l y x1 C c9 (fun v2 v3 v4 v5 st => w_X3_worstTwo_L27 x1 c9 K n v2 v3 v4 v5 st) K hc9 hc27 r70 r62 v4 v5 st70 hG (lv_sub hl [2, 3, 0, 1, 4, 5] rfl) hw
set_option maxRecDepth 100000 in
set_option maxHeartbeats 4000000 in
theorem z_X3_worstTwo_b86 {p : Program} {e : Env} {s : State} {m : MethodId} {args : Array Value} {below : List Frame} {meth : Method} {c : Code} (l : Launch) (y : Sy) (x1 : Int32) (C : Sd p s m args meth c cX3_worstTwo 6 RX3 (some .int) y)  (K : Int32 → St → Prop)  (v2 : Int32) (v3 : Int32) (st : St) {H : Heap} {locs : List Loc} {ls : Array Slot} (hG : gH 107 enX y st s H locs) (hl : lv_has ls 6 [(1, .int x1), (2, .int v2), (3, .int v3)]) (hw : w_X3_worstTwo_b86 x1  K v2 v3 st) : W p l e (rmm 2 43) s m args below meth c H locs 0 0 (MQ below (va_Qi K (gB 107 enX y) (gA 107 y)) args s 0 0 (gA 107 y)) (F0 m 86 ls []) := by
  obtain ⟨hx, hb, hml, hown, hts, hr, hlk, hK, hN⟩ := id C
  unfold w_X3_worstTwo_b86 at hw
  refine lv_iload_n hx hb dX3_worstTwo_86 rfl (lv_at hl 0 rfl) ?_
  refine lv_if_eq (tgt := 94) hx hb dX3_worstTwo_87 (by decide) (fun hc => ?_) (fun hc => ?_)
  · replace hw := hw.1 hc
    refine lv_iload_n hx hb dX3_worstTwo_94 rfl (lv_at hl 2 rfl) ?_
    exact r_iret hx hb hr hlk hK hG rfl hw dX3_worstTwo_95
  · replace hw := hw.2 hc
    refine lv_iload_n hx hb dX3_worstTwo_90 rfl (lv_at hl 1 rfl) ?_
    refine lv_goto (tgt := 95) hx hb dX3_worstTwo_91 (by decide) ?_
    exact r_iret hx hb hr hlk hK hG rfl hw dX3_worstTwo_95
set_option maxRecDepth 100000 in
set_option maxHeartbeats 4000000 in
theorem z_X3_worstTwo_L9 {p : Program} {e : Env} {s : State} {m : MethodId} {args : Array Value} {below : List Frame} {meth : Method} {c : Code} (l : Launch) (y : Sy) (x1 : Int32) (C : Sd p s m args meth c cX3_worstTwo 6 RX3 (some .int) y)  (K : Int32 → St → Prop)  : ∀ (n : Nat) (v2 : Int32) (v3 : Int32) (v4 : Int32) (st : St) (H : Heap) (locs : List Loc) (ls : Array Slot), gH 107 enX y st s H locs → lv_has ls 6 [(0, .ref (ad y 8)), (1, .int x1), (2, .int v2), (3, .int v3), (4, .int v4)] → w_X3_worstTwo_L9 x1  K n v2 v3 v4 st → W p l e (rmm 2 43) s m args below meth c H locs 0 0 (MQ below (va_Qi K (gB 107 enX y) (gA 107 y)) args s 0 0 (gA 107 y)) (F0 m 9 ls []) := by
  obtain ⟨hx, hb, hml, hown, hts, hr, hlk, hK, hN⟩ := id C
  intro n
  induction n with
  | zero => intro v2 v3 v4 st H locs ls hG hl hw; exact False.elim hw
  | succ n hc9 =>
    intro v2 v3 v4 st H locs ls hG hl hw
    have hw : w_X3_worstTwo_L9q x1  K (fun v2 v3 v4 st => w_X3_worstTwo_L9 x1  K n v2 v3 v4 st) v2 v3 v4 st := hw
    unfold w_X3_worstTwo_L9q at hw
    refine lv_iload hx hb dX3_worstTwo_9 (lv_at hl 4 rfl) ?_
    refine lv_aload_n hx hb dX3_worstTwo_11 rfl (lv_at hl 0 rfl) ?_
    refine r_get (C := RX3) (T := TX3) (Nf := 2) hx hb hts hown hK hG (by decide) rfl rfl inX3 0 (by decide) qF_X3_15 rfl dX3_worstTwo_12 ?_
    refine r_ki (r_run_V (k := 11) (As := []) (rest := [.int v4]) hx hb hml hown hts hK hN hG (c_X1_keeperCount l y 11 isC_11 st _ hw) (isC.lt isC_11) (isC.e isC_11 y _) rfl rfl qM_X3_19 qI_X1_keeperCount qS_X1_keeperCount qN_X1 qC_X1_keeperCount hd_X1_keeperCount ⟨Nat.le_of_ble_eq_true rfl, Nat.le_of_ble_eq_true rfl⟩ hl.1 rfl (Nat.le_of_ble_eq_true rfl) dX3_worstTwo_15) hG (fun r15 st15 H locs hw hG => ?_)
    refine lv_icmp_ge (tgt := 86) hx hb dX3_worstTwo_18 (by decide) (fun hc => ?_) (fun hc => ?_)
    · replace hw := hw.1 hc
      exact z_X3_worstTwo_b86 l y x1 C  K  v2 v3 st15 hG (lv_sub hl [1, 2, 3] rfl) hw
    · replace hw := hw.2 hc
      refine lv_iload hx hb dX3_worstTwo_21 (lv_at hl 4 rfl) ?_
      refine lv_iconst (v := 1) hx hb dX3_worstTwo_23 (by decide) ?_
      refine lv_iadd hx hb dX3_worstTwo_24 ?_
      refine lv_istore (lv' := [(5, .int (v4 + 1)), (0, .ref (ad y 8)), (1, .int x1), (2, .int v2), (3, .int v3), (4, .int v4)]) hx hb dX3_worstTwo_25 hl (Nat.le_of_ble_eq_true rfl) rfl (fun ls hl => ?_)
      obtain ⟨n27, hw⟩ := hw
      exact z_X3_worstTwo_L27 l y x1 C (fun v2 v3 v4 st => w_X3_worstTwo_L9 x1  K n v2 v3 v4 st) K hc9 n27 v2 v3 v4 (v4 + 1) st15 H locs _ hG (lv_sub hl [1, 2, 3, 4, 5, 0] rfl) hw
theorem hd_X3_worstTwo : yX3_worstTwo.cls ≠ "java/lang/invoke/MethodHandle" ∧ yX3_worstTwo.cls ≠ "java/lang/invoke/VarHandle" ∧ (parseMethodDescriptor yX3_worstTwo.desc).map (fun d => d.parameters.length) = some 1 := by decide +kernel
set_option maxRecDepth 100000 in
set_option maxHeartbeats 4000000 in
theorem c_X3_worstTwo (l : Launch) (y : Sy) (x1 : Int32) (st : St) (K : Int32 → St → Prop) (hw : w_X3_worstTwo x1 st K) : Ci 107 enX l yX3_worstTwo cX3_worstTwo 6 (some .int) 2 43 y [.ref (ad y 8), .int x1] st K := by
  refine ent (by decide) (Nat.le_of_ble_eq_true rfl) ?_
  intro p e s m below meth c C hG ls hl
  have hl : lv_has ls 6 [(0, .ref (ad y 8)), (1, .int x1)] := hl
  generalize ([.ref (ad y 8), .int x1] : List Value).toArray = args at C ⊢
  have C : Sd p s m args meth c cX3_worstTwo 6 RX3 (some .int) y := C
  obtain ⟨hx, hb, hml, hown, hts, hr, hlk, hK, hN⟩ := id C
  generalize s.heap = H at hG ⊢
  generalize ([] : List Loc) = locs at hG ⊢
  unfold w_X3_worstTwo at hw
  refine lv_bipush (v := (-9)) hx hb dX3_worstTwo_0 (by decide) ?_
  refine lv_istore_n (lv' := [(2, .int (-9)), (0, .ref (ad y 8)), (1, .int x1)]) hx hb dX3_worstTwo_2 rfl hl (Nat.le_of_ble_eq_true rfl) rfl (fun ls hl => ?_)
  refine lv_bipush (v := (-9)) hx hb dX3_worstTwo_3 (by decide) ?_
  refine lv_istore_n (lv' := [(3, .int (-9)), (2, .int (-9)), (0, .ref (ad y 8)), (1, .int x1)]) hx hb dX3_worstTwo_5 rfl hl (Nat.le_of_ble_eq_true rfl) rfl (fun ls hl => ?_)
  refine lv_iconst (v := 0) hx hb dX3_worstTwo_6 (by decide) ?_
  refine lv_istore (lv' := [(4, .int 0), (3, .int (-9)), (2, .int (-9)), (0, .ref (ad y 8)), (1, .int x1)]) hx hb dX3_worstTwo_7 hl (Nat.le_of_ble_eq_true rfl) rfl (fun ls hl => ?_)
  obtain ⟨n9, hw⟩ := hw
  exact z_X3_worstTwo_L9 l y x1 C  K  n9 (-9) (-9) 0 st H locs _ hG (lv_sub hl [3, 4, 2, 1, 0] rfl) hw
set_option maxRecDepth 100000 in
set_option maxHeartbeats 4000000 in
theorem z_X3_friends_b45 {p : Program} {e : Env} {s : State} {m : MethodId} {args : Array Value} {below : List Frame} {meth : Method} {c : Code} (l : Launch) (y : Sy)  (C : Sd p s m args meth c cX3_friends 4 RX3 (some .int) y) (c4 : Int32 → Int32 → St → Prop) (c19 : Int32 → Int32 → Int32 → St → Prop) (K : Int32 → St → Prop) (hc4 : ∀ (v1 : Int32) (v2 : Int32) (st : St) (H : Heap) (locs : List Loc) (ls : Array Slot), gH 107 enX y st s H locs → lv_has ls 4 [(0, .ref (ad y 8)), (1, .int v1), (2, .int v2)] → c4 v1 v2 st → W p l e (rmm 2 43) s m args below meth c H locs 0 0 (MQ below (va_Qi K (gB 107 enX y) (gA 107 y)) args s 0 0 (gA 107 y)) (F0 m 4 ls [])) (hc19 : ∀ (v1 : Int32) (v2 : Int32) (v3 : Int32) (st : St) (H : Heap) (locs : List Loc) (ls : Array Slot), gH 107 enX y st s H locs → lv_has ls 4 [(0, .ref (ad y 8)), (1, .int v1), (2, .int v2), (3, .int v3)] → c19 v1 v2 v3 st → W p l e (rmm 2 43) s m args below meth c H locs 0 0 (MQ below (va_Qi K (gB 107 enX y) (gA 107 y)) args s 0 0 (gA 107 y)) (F0 m 19 ls [])) (v1 : Int32) (v2 : Int32) (v3 : Int32) (st : St) {H : Heap} {locs : List Loc} {ls : Array Slot} (hG : gH 107 enX y st s H locs) (hl : lv_has ls 4 [(0, .ref (ad y 8)), (1, .int v1), (2, .int v2), (3, .int v3)]) (hw : w_X3_friends_b45  c4 c19 K v1 v2 v3 st) : W p l e (rmm 2 43) s m args below meth c H locs 0 0 (MQ below (va_Qi K (gB 107 enX y) (gA 107 y)) args s 0 0 (gA 107 y)) (F0 m 45 ls []) := by
  obtain ⟨hx, hb, hml, hown, hts, hr, hlk, hK, hN⟩ := id C
  unfold w_X3_friends_b45 at hw
  refine lv_iinc (v := (v3 + 1)) (lv' := [(3, .int (v3 + 1)), (0, .ref (ad y 8)), (1, .int v1), (2, .int v2)]) hx hb dX3_friends_45 hl (k := 3) rfl rfl (Nat.le_of_ble_eq_true rfl) rfl (fun ls hl => ?_)
  refine lv_goto (tgt := 19) hx hb dX3_friends_48 (by decide) ?_
  exact hc19 v1 v2 (v3 + 1) st H locs _ hG (lv_sub hl [1, 2, 3, 0] rfl) hw
set_option maxRecDepth 100000 in
set_option maxHeartbeats 4000000 in
theorem z_X3_friends_b51 {p : Program} {e : Env} {s : State} {m : MethodId} {args : Array Value} {below : List Frame} {meth : Method} {c : Code} (l : Launch) (y : Sy)  (C : Sd p s m args meth c cX3_friends 4 RX3 (some .int) y) (c4 : Int32 → Int32 → St → Prop) (K : Int32 → St → Prop) (hc4 : ∀ (v1 : Int32) (v2 : Int32) (st : St) (H : Heap) (locs : List Loc) (ls : Array Slot), gH 107 enX y st s H locs → lv_has ls 4 [(0, .ref (ad y 8)), (1, .int v1), (2, .int v2)] → c4 v1 v2 st → W p l e (rmm 2 43) s m args below meth c H locs 0 0 (MQ below (va_Qi K (gB 107 enX y) (gA 107 y)) args s 0 0 (gA 107 y)) (F0 m 4 ls [])) (v1 : Int32) (v2 : Int32) (st : St) {H : Heap} {locs : List Loc} {ls : Array Slot} (hG : gH 107 enX y st s H locs) (hl : lv_has ls 4 [(0, .ref (ad y 8)), (1, .int v1), (2, .int v2)]) (hw : w_X3_friends_b51  c4 K v1 v2 st) : W p l e (rmm 2 43) s m args below meth c H locs 0 0 (MQ below (va_Qi K (gB 107 enX y) (gA 107 y)) args s 0 0 (gA 107 y)) (F0 m 51 ls []) := by
  obtain ⟨hx, hb, hml, hown, hts, hr, hlk, hK, hN⟩ := id C
  unfold w_X3_friends_b51 at hw
  refine lv_iinc (v := (v2 + 1)) (lv' := [(2, .int (v2 + 1)), (0, .ref (ad y 8)), (1, .int v1)]) hx hb dX3_friends_51 hl (k := 2) rfl rfl (Nat.le_of_ble_eq_true rfl) rfl (fun ls hl => ?_)
  refine lv_goto (tgt := 4) hx hb dX3_friends_54 (by decide) ?_
  exact hc4 v1 (v2 + 1) st H locs _ hG (lv_sub hl [1, 2, 0] rfl) hw
set_option maxRecDepth 100000 in
set_option maxHeartbeats 4000000 in
theorem z_X3_friends_L19 {p : Program} {e : Env} {s : State} {m : MethodId} {args : Array Value} {below : List Frame} {meth : Method} {c : Code} (l : Launch) (y : Sy)  (C : Sd p s m args meth c cX3_friends 4 RX3 (some .int) y) (c4 : Int32 → Int32 → St → Prop) (K : Int32 → St → Prop) (hc4 : ∀ (v1 : Int32) (v2 : Int32) (st : St) (H : Heap) (locs : List Loc) (ls : Array Slot), gH 107 enX y st s H locs → lv_has ls 4 [(0, .ref (ad y 8)), (1, .int v1), (2, .int v2)] → c4 v1 v2 st → W p l e (rmm 2 43) s m args below meth c H locs 0 0 (MQ below (va_Qi K (gB 107 enX y) (gA 107 y)) args s 0 0 (gA 107 y)) (F0 m 4 ls [])) : ∀ (n : Nat) (v1 : Int32) (v2 : Int32) (v3 : Int32) (st : St) (H : Heap) (locs : List Loc) (ls : Array Slot), gH 107 enX y st s H locs → lv_has ls 4 [(0, .ref (ad y 8)), (1, .int v1), (2, .int v2), (3, .int v3)] → w_X3_friends_L19  c4 K n v1 v2 v3 st → W p l e (rmm 2 43) s m args below meth c H locs 0 0 (MQ below (va_Qi K (gB 107 enX y) (gA 107 y)) args s 0 0 (gA 107 y)) (F0 m 19 ls []) := by
  obtain ⟨hx, hb, hml, hown, hts, hr, hlk, hK, hN⟩ := id C
  intro n
  induction n with
  | zero => intro v1 v2 v3 st H locs ls hG hl hw; exact False.elim hw
  | succ n hc19 =>
    intro v1 v2 v3 st H locs ls hG hl hw
    have hw : w_X3_friends_L19q  c4 K (fun v1 v2 v3 st => w_X3_friends_L19  c4 K n v1 v2 v3 st) v1 v2 v3 st := hw
    unfold w_X3_friends_L19q at hw
    refine lv_iload_n hx hb dX3_friends_19 rfl (lv_at hl 3 rfl) ?_
    refine lv_aload_n hx hb dX3_friends_20 rfl (lv_at hl 0 rfl) ?_
    refine r_get (C := RX3) (T := TX3) (Nf := 2) hx hb hts hown hK hG (by decide) rfl rfl inX3 0 (by decide) qF_X3_15 rfl dX3_friends_21 ?_
    refine r_ki (r_run_V (k := 11) (As := []) (rest := [.int v3]) hx hb hml hown hts hK hN hG (c_X1_keeperCount l y 11 isC_11 st _ hw) (isC.lt isC_11) (isC.e isC_11 y _) rfl rfl qM_X3_19 qI_X1_keeperCount qS_X1_keeperCount qN_X1 qC_X1_keeperCount hd_X1_keeperCount ⟨Nat.le_of_ble_eq_true rfl, Nat.le_of_ble_eq_true rfl⟩ hl.1 rfl (Nat.le_of_ble_eq_true rfl) dX3_friends_24) hG (fun r24 st24 H locs hw hG => ?_)
    refine lv_icmp_ge (tgt := 51) hx hb dX3_friends_27 (by decide) (fun hc => ?_) (fun hc => ?_)
    · replace hw := hw.1 hc
      exact z_X3_friends_b51 l y  C c4 K hc4 v1 v2 st24 hG (lv_sub hl [0, 1, 2] rfl) hw
    · replace hw := hw.2 hc
      refine lv_aload_n hx hb dX3_friends_30 rfl (lv_at hl 0 rfl) ?_
      refine r_get (C := RX3) (T := TX3) (Nf := 2) hx hb hts hown hK hG (by decide) rfl rfl inX3 0 (by decide) qF_X3_15 rfl dX3_friends_31 ?_
      refine lv_iload_n hx hb dX3_friends_34 rfl (lv_at hl 2 rfl) ?_
      refine lv_iload_n hx hb dX3_friends_35 rfl (lv_at hl 3 rfl) ?_
      refine r_ki (r_run_V (k := 11) (As := [.int v2, .int v3]) (rest := []) hx hb hml hown hts hK hN hG (c_X1_hateOf l y 11 isC_11 v2 v3 st24 _ hw) (isC.lt isC_11) (isC.e isC_11 y _) rfl rfl qM_X3_51 qI_X1_hateOf qS_X1_hateOf qN_X1 qC_X1_hateOf hd_X1_hateOf ⟨Nat.le_of_ble_eq_true rfl, Nat.le_of_ble_eq_true rfl⟩ hl.1 rfl (Nat.le_of_ble_eq_true rfl) dX3_friends_36) hG (fun r36 st36 H locs hw hG => ?_)
      refine lv_if_ne (tgt := 45) hx hb dX3_friends_39 (by decide) (fun hc => ?_) (fun hc => ?_)
      · replace hw := hw.1 hc
        exact z_X3_friends_b45 l y  C c4 (fun v1 v2 v3 st => w_X3_friends_L19  c4 K n v1 v2 v3 st) K hc4 hc19 v1 v2 v3 st36 hG (lv_sub hl [0, 1, 2, 3] rfl) hw
      · replace hw := hw.2 hc
        refine lv_iinc (v := (v1 + 1)) (lv' := [(1, .int (v1 + 1)), (0, .ref (ad y 8)), (2, .int v2), (3, .int v3)]) hx hb dX3_friends_42 hl (k := 1) rfl rfl (Nat.le_of_ble_eq_true rfl) rfl (fun ls hl => ?_)
        exact z_X3_friends_b45 l y  C c4 (fun v1 v2 v3 st => w_X3_friends_L19  c4 K n v1 v2 v3 st) K hc4 hc19 (v1 + 1) v2 v3 st36 hG (lv_sub hl [1, 0, 2, 3] rfl) hw
set_option maxRecDepth 100000 in
set_option maxHeartbeats 4000000 in
theorem z_X3_friends_L4 {p : Program} {e : Env} {s : State} {m : MethodId} {args : Array Value} {below : List Frame} {meth : Method} {c : Code} (l : Launch) (y : Sy)  (C : Sd p s m args meth c cX3_friends 4 RX3 (some .int) y)  (K : Int32 → St → Prop)  : ∀ (n : Nat) (v1 : Int32) (v2 : Int32) (st : St) (H : Heap) (locs : List Loc) (ls : Array Slot), gH 107 enX y st s H locs → lv_has ls 4 [(0, .ref (ad y 8)), (1, .int v1), (2, .int v2)] → w_X3_friends_L4   K n v1 v2 st → W p l e (rmm 2 43) s m args below meth c H locs 0 0 (MQ below (va_Qi K (gB 107 enX y) (gA 107 y)) args s 0 0 (gA 107 y)) (F0 m 4 ls []) := by
  obtain ⟨hx, hb, hml, hown, hts, hr, hlk, hK, hN⟩ := id C
  intro n
  induction n with
  | zero => intro v1 v2 st H locs ls hG hl hw; exact False.elim hw
  | succ n hc4 =>
    intro v1 v2 st H locs ls hG hl hw
    have hw : w_X3_friends_L4q   K (fun v1 v2 st => w_X3_friends_L4   K n v1 v2 st) v1 v2 st := hw
    unfold w_X3_friends_L4q at hw
    refine lv_iload_n hx hb dX3_friends_4 rfl (lv_at hl 2 rfl) ?_
    refine lv_aload_n hx hb dX3_friends_5 rfl (lv_at hl 0 rfl) ?_
    refine r_get (C := RX3) (T := TX3) (Nf := 2) hx hb hts hown hK hG (by decide) rfl rfl inX3 0 (by decide) qF_X3_15 rfl dX3_friends_6 ?_
    refine r_ki (r_run_V (k := 11) (As := []) (rest := [.int v2]) hx hb hml hown hts hK hN hG (c_X1_keeperCount l y 11 isC_11 st _ hw) (isC.lt isC_11) (isC.e isC_11 y _) rfl rfl qM_X3_19 qI_X1_keeperCount qS_X1_keeperCount qN_X1 qC_X1_keeperCount hd_X1_keeperCount ⟨Nat.le_of_ble_eq_true rfl, Nat.le_of_ble_eq_true rfl⟩ hl.1 rfl (Nat.le_of_ble_eq_true rfl) dX3_friends_9) hG (fun r9 st9 H locs hw hG => ?_)
    refine lv_icmp_ge (tgt := 57) hx hb dX3_friends_12 (by decide) (fun hc => ?_) (fun hc => ?_)
    · replace hw := hw.1 hc
      refine lv_iload_n hx hb dX3_friends_57 rfl (lv_at hl 1 rfl) ?_
      exact r_iret hx hb hr hlk hK hG rfl hw dX3_friends_58
    · replace hw := hw.2 hc
      refine lv_iload_n hx hb dX3_friends_15 rfl (lv_at hl 2 rfl) ?_
      refine lv_iconst (v := 1) hx hb dX3_friends_16 (by decide) ?_
      refine lv_iadd hx hb dX3_friends_17 ?_
      refine lv_istore_n (lv' := [(3, .int (v2 + 1)), (0, .ref (ad y 8)), (1, .int v1), (2, .int v2)]) hx hb dX3_friends_18 rfl hl (Nat.le_of_ble_eq_true rfl) rfl (fun ls hl => ?_)
      obtain ⟨n19, hw⟩ := hw
      exact z_X3_friends_L19 l y  C (fun v1 v2 st => w_X3_friends_L4   K n v1 v2 st) K hc4 n19 v1 v2 (v2 + 1) st9 H locs _ hG (lv_sub hl [1, 2, 3, 0] rfl) hw
theorem hd_X3_friends : yX3_friends.cls ≠ "java/lang/invoke/MethodHandle" ∧ yX3_friends.cls ≠ "java/lang/invoke/VarHandle" ∧ (parseMethodDescriptor yX3_friends.desc).map (fun d => d.parameters.length) = some 0 := by decide +kernel
set_option maxRecDepth 100000 in
set_option maxHeartbeats 4000000 in
theorem c_X3_friends (l : Launch) (y : Sy)  (st : St) (K : Int32 → St → Prop) (hw : w_X3_friends  st K) : Ci 107 enX l yX3_friends cX3_friends 4 (some .int) 2 43 y [.ref (ad y 8)] st K := by
  refine ent (by decide) (Nat.le_of_ble_eq_true rfl) ?_
  intro p e s m below meth c C hG ls hl
  have hl : lv_has ls 4 [(0, .ref (ad y 8))] := hl
  generalize ([.ref (ad y 8)] : List Value).toArray = args at C ⊢
  have C : Sd p s m args meth c cX3_friends 4 RX3 (some .int) y := C
  obtain ⟨hx, hb, hml, hown, hts, hr, hlk, hK, hN⟩ := id C
  generalize s.heap = H at hG ⊢
  generalize ([] : List Loc) = locs at hG ⊢
  unfold w_X3_friends at hw
  refine lv_iconst (v := 0) hx hb dX3_friends_0 (by decide) ?_
  refine lv_istore_n (lv' := [(1, .int 0), (0, .ref (ad y 8))]) hx hb dX3_friends_1 rfl hl (Nat.le_of_ble_eq_true rfl) rfl (fun ls hl => ?_)
  refine lv_iconst (v := 0) hx hb dX3_friends_2 (by decide) ?_
  refine lv_istore_n (lv' := [(2, .int 0), (1, .int 0), (0, .ref (ad y 8))]) hx hb dX3_friends_3 rfl hl (Nat.le_of_ble_eq_true rfl) rfl (fun ls hl => ?_)
  obtain ⟨n4, hw⟩ := hw
  exact z_X3_friends_L4 l y  C  K  n4 0 0 st H locs _ hG (lv_sub hl [2, 1, 0] rfl) hw
set_option maxRecDepth 100000 in
set_option maxHeartbeats 4000000 in
theorem z_X3_deepestSealed_b64 {p : Program} {e : Env} {s : State} {m : MethodId} {args : Array Value} {below : List Frame} {meth : Method} {c : Code} (l : Launch) (y : Sy)  (C : Sd p s m args meth c cX3_deepestSealed 4 RX3 (some .int) y) (c5 : Int32 → Int32 → St → Prop) (K : Int32 → St → Prop) (hc5 : ∀ (v1 : Int32) (v2 : Int32) (st : St) (H : Heap) (locs : List Loc) (ls : Array Slot), gH 107 enX y st s H locs → lv_has ls 4 [(0, .ref (ad y 8)), (1, .int v1), (2, .int v2)] → c5 v1 v2 st → W p l e (rmm 2 42) s m args below meth c H locs 0 0 (MQ below (va_Qi K (gB 107 enX y) (gA 107 y)) args s 0 0 (gA 107 y)) (F0 m 5 ls [])) (v1 : Int32) (v2 : Int32) (st : St) {H : Heap} {locs : List Loc} {ls : Array Slot} (hG : gH 107 enX y st s H locs) (hl : lv_has ls 4 [(0, .ref (ad y 8)), (1, .int v1), (2, .int v2)]) (hw : w_X3_deepestSealed_b64  c5 K v1 v2 st) : W p l e (rmm 2 42) s m args below meth c H locs 0 0 (MQ below (va_Qi K (gB 107 enX y) (gA 107 y)) args s 0 0 (gA 107 y)) (F0 m 64 ls []) := by
  obtain ⟨hx, hb, hml, hown, hts, hr, hlk, hK, hN⟩ := id C
  unfold w_X3_deepestSealed_b64 at hw
  refine lv_iinc (v := (v2 + 1)) (lv' := [(2, .int (v2 + 1)), (0, .ref (ad y 8)), (1, .int v1)]) hx hb dX3_deepestSealed_64 hl (k := 2) rfl rfl (Nat.le_of_ble_eq_true rfl) rfl (fun ls hl => ?_)
  refine lv_goto (tgt := 5) hx hb dX3_deepestSealed_67 (by decide) ?_
  exact hc5 v1 (v2 + 1) st H locs _ hG (lv_sub hl [1, 2, 0] rfl) hw
set_option maxRecDepth 100000 in
set_option maxHeartbeats 4000000 in
theorem z_X3_deepestSealed_b46 {p : Program} {e : Env} {s : State} {m : MethodId} {args : Array Value} {below : List Frame} {meth : Method} {c : Code} (l : Launch) (y : Sy)  (C : Sd p s m args meth c cX3_deepestSealed 4 RX3 (some .int) y) (c5 : Int32 → Int32 → St → Prop) (K : Int32 → St → Prop) (hc5 : ∀ (v1 : Int32) (v2 : Int32) (st : St) (H : Heap) (locs : List Loc) (ls : Array Slot), gH 107 enX y st s H locs → lv_has ls 4 [(0, .ref (ad y 8)), (1, .int v1), (2, .int v2)] → c5 v1 v2 st → W p l e (rmm 2 42) s m args below meth c H locs 0 0 (MQ below (va_Qi K (gB 107 enX y) (gA 107 y)) args s 0 0 (gA 107 y)) (F0 m 5 ls [])) (v1 : Int32) (v2 : Int32) (s0 : Int32) (st : St) {H : Heap} {locs : List Loc} {ls : Array Slot} (hG : gH 107 enX y st s H locs) (hl : lv_has ls 4 [(0, .ref (ad y 8)), (1, .int v1), (2, .int v2)]) (hw : w_X3_deepestSealed_b46  c5 K v1 v2 s0 st) : W p l e (rmm 2 42) s m args below meth c H locs 0 0 (MQ below (va_Qi K (gB 107 enX y) (gA 107 y)) args s 0 0 (gA 107 y)) (F0 m 46 ls [.int s0]) := by
  obtain ⟨hx, hb, hml, hown, hts, hr, hlk, hK, hN⟩ := id C
  unfold w_X3_deepestSealed_b46 at hw
  refine lv_istore_n (lv' := [(3, .int s0), (0, .ref (ad y 8)), (1, .int v1), (2, .int v2)]) hx hb dX3_deepestSealed_46 rfl hl (Nat.le_of_ble_eq_true rfl) rfl (fun ls hl => ?_)
  refine lv_aload_n hx hb dX3_deepestSealed_47 rfl (lv_at hl 1 rfl) ?_
  refine r_get (C := RX3) (T := TX3) (Nf := 2) hx hb hts hown hK hG (by decide) rfl rfl inX3 0 (by decide) qF_X3_15 rfl dX3_deepestSealed_48 ?_
  refine lv_iload_n hx hb dX3_deepestSealed_51 rfl (lv_at hl 3 rfl) ?_
  refine r_ki (r_run_V (k := 11) (As := [.int v2]) (rest := []) hx hb hml hown hts hK hN hG (c_X1_isOpen l y 11 isC_11 v2 st _ hw) (isC.lt isC_11) (isC.e isC_11 y _) rfl rfl qM_X3_83 qI_X1_isOpen qS_X1_isOpen qN_X1 qC_X1_isOpen hd_X1_isOpen ⟨Nat.le_of_ble_eq_true rfl, Nat.le_of_ble_eq_true rfl⟩ hl.1 rfl (Nat.le_of_ble_eq_true rfl) dX3_deepestSealed_52) hG (fun r52 st52 H locs hw hG => ?_)
  refine lv_if_ne (tgt := 64) hx hb dX3_deepestSealed_55 (by decide) (fun hc => ?_) (fun hc => ?_)
  · replace hw := hw.1 hc
    exact z_X3_deepestSealed_b64 l y  C c5 K hc5 v1 v2 st52 hG (lv_sub hl [1, 2, 3] rfl) hw
  · replace hw := hw.2 hc
    refine lv_iload_n hx hb dX3_deepestSealed_58 rfl (lv_at hl 0 rfl) ?_
    refine lv_if_eq (tgt := 64) hx hb dX3_deepestSealed_59 (by decide) (fun hc => ?_) (fun hc => ?_)
    · replace hw := hw.1 hc
      exact z_X3_deepestSealed_b64 l y  C c5 K hc5 v1 v2 st52 hG (lv_sub hl [1, 2, 3] rfl) hw
    · replace hw := hw.2 hc
      refine lv_iload_n hx hb dX3_deepestSealed_62 rfl (lv_at hl 3 rfl) ?_
      refine lv_istore_n (lv' := [(1, .int v2), (3, .int s0), (0, .ref (ad y 8)), (2, .int v2)]) hx hb dX3_deepestSealed_63 rfl hl (Nat.le_of_ble_eq_true rfl) rfl (fun ls hl => ?_)
      exact z_X3_deepestSealed_b64 l y  C c5 K hc5 v2 v2 st52 hG (lv_sub hl [2, 0, 3] rfl) hw
set_option maxRecDepth 100000 in
set_option maxHeartbeats 4000000 in
theorem z_X3_deepestSealed_b41 {p : Program} {e : Env} {s : State} {m : MethodId} {args : Array Value} {below : List Frame} {meth : Method} {c : Code} (l : Launch) (y : Sy)  (C : Sd p s m args meth c cX3_deepestSealed 4 RX3 (some .int) y) (c5 : Int32 → Int32 → St → Prop) (K : Int32 → St → Prop) (hc5 : ∀ (v1 : Int32) (v2 : Int32) (st : St) (H : Heap) (locs : List Loc) (ls : Array Slot), gH 107 enX y st s H locs → lv_has ls 4 [(0, .ref (ad y 8)), (1, .int v1), (2, .int v2)] → c5 v1 v2 st → W p l e (rmm 2 42) s m args below meth c H locs 0 0 (MQ below (va_Qi K (gB 107 enX y) (gA 107 y)) args s 0 0 (gA 107 y)) (F0 m 5 ls [])) (v1 : Int32) (v2 : Int32) (st : St) {H : Heap} {locs : List Loc} {ls : Array Slot} (hG : gH 107 enX y st s H locs) (hl : lv_has ls 4 [(0, .ref (ad y 8)), (1, .int v1), (2, .int v2)]) (hw : w_X3_deepestSealed_b41  c5 K v1 v2 st) : W p l e (rmm 2 42) s m args below meth c H locs 0 0 (MQ below (va_Qi K (gB 107 enX y) (gA 107 y)) args s 0 0 (gA 107 y)) (F0 m 41 ls []) := by
  obtain ⟨hx, hb, hml, hown, hts, hr, hlk, hK, hN⟩ := id C
  unfold w_X3_deepestSealed_b41 at hw
  refine lv_iconst (v := 1) hx hb dX3_deepestSealed_41 (by decide) ?_
  refine lv_goto (tgt := 46) hx hb dX3_deepestSealed_42 (by decide) ?_
  exact z_X3_deepestSealed_b46 l y  C c5 K hc5 v1 v2 1 st hG (lv_sub hl [0, 1, 2] rfl) hw
set_option maxRecDepth 100000 in
set_option maxHeartbeats 4000000 in
theorem z_X3_deepestSealed_L5 {p : Program} {e : Env} {s : State} {m : MethodId} {args : Array Value} {below : List Frame} {meth : Method} {c : Code} (l : Launch) (y : Sy)  (C : Sd p s m args meth c cX3_deepestSealed 4 RX3 (some .int) y)  (K : Int32 → St → Prop)  : ∀ (n : Nat) (v1 : Int32) (v2 : Int32) (st : St) (H : Heap) (locs : List Loc) (ls : Array Slot), gH 107 enX y st s H locs → lv_has ls 4 [(0, .ref (ad y 8)), (1, .int v1), (2, .int v2)] → w_X3_deepestSealed_L5   K n v1 v2 st → W p l e (rmm 2 42) s m args below meth c H locs 0 0 (MQ below (va_Qi K (gB 107 enX y) (gA 107 y)) args s 0 0 (gA 107 y)) (F0 m 5 ls []) := by
  obtain ⟨hx, hb, hml, hown, hts, hr, hlk, hK, hN⟩ := id C
  intro n
  induction n with
  | zero => intro v1 v2 st H locs ls hG hl hw; exact False.elim hw
  | succ n hc5 =>
    intro v1 v2 st H locs ls hG hl hw
    have hw : w_X3_deepestSealed_L5q   K (fun v1 v2 st => w_X3_deepestSealed_L5   K n v1 v2 st) v1 v2 st := hw
    unfold w_X3_deepestSealed_L5q at hw
    refine lv_iload_n hx hb dX3_deepestSealed_5 rfl (lv_at hl 2 rfl) ?_
    refine lv_aload_n hx hb dX3_deepestSealed_6 rfl (lv_at hl 0 rfl) ?_
    refine r_get (C := RX3) (T := TX3) (Nf := 2) hx hb hts hown hK hG (by decide) rfl rfl inX3 0 (by decide) qF_X3_15 rfl dX3_deepestSealed_7 ?_
    refine r_ki (r_run_V (k := 11) (As := []) (rest := [.int v2]) hx hb hml hown hts hK hN hG (c_X1_letterCount l y 11 isC_11 st _ hw) (isC.lt isC_11) (isC.e isC_11 y _) rfl rfl qM_X3_77 qI_X1_letterCount qS_X1_letterCount qN_X1 qC_X1_letterCount hd_X1_letterCount ⟨Nat.le_of_ble_eq_true rfl, Nat.le_of_ble_eq_true rfl⟩ hl.1 rfl (Nat.le_of_ble_eq_true rfl) dX3_deepestSealed_10) hG (fun r10 st10 H locs hw hG => ?_)
    refine lv_icmp_ge (tgt := 70) hx hb dX3_deepestSealed_13 (by decide) (fun hc => ?_) (fun hc => ?_)
    · replace hw := hw.1 hc
      refine lv_iload_n hx hb dX3_deepestSealed_70 rfl (lv_at hl 1 rfl) ?_
      exact r_iret hx hb hr hlk hK hG rfl hw dX3_deepestSealed_71
    · replace hw := hw.2 hc
      refine lv_iload_n hx hb dX3_deepestSealed_16 rfl (lv_at hl 1 rfl) ?_
      refine lv_bipush (v := (-9)) hx hb dX3_deepestSealed_17 (by decide) ?_
      refine lv_icmp_eq (tgt := 41) hx hb dX3_deepestSealed_19 (by decide) (fun hc => ?_) (fun hc => ?_)
      · replace hw := hw.1 hc
        exact z_X3_deepestSealed_b41 l y  C (fun v1 v2 st => w_X3_deepestSealed_L5   K n v1 v2 st) K hc5 v1 v2 st10 hG (lv_sub hl [0, 1, 2] rfl) hw
      · replace hw := hw.2 hc
        refine lv_aload_n hx hb dX3_deepestSealed_22 rfl (lv_at hl 0 rfl) ?_
        refine r_get (C := RX3) (T := TX3) (Nf := 2) hx hb hts hown hK hG (by decide) rfl rfl inX3 0 (by decide) qF_X3_15 rfl dX3_deepestSealed_23 ?_
        refine lv_iload_n hx hb dX3_deepestSealed_26 rfl (lv_at hl 2 rfl) ?_
        refine r_ki (r_run_V (k := 11) (As := [.int v2]) (rest := []) hx hb hml hown hts hK hN hG (c_X1_depthOf l y 11 isC_11 v2 st10 _ hw) (isC.lt isC_11) (isC.e isC_11 y _) rfl rfl qM_X3_80 qI_X1_depthOf qS_X1_depthOf qN_X1 qC_X1_depthOf hd_X1_depthOf ⟨Nat.le_of_ble_eq_true rfl, Nat.le_of_ble_eq_true rfl⟩ hl.1 rfl (Nat.le_of_ble_eq_true rfl) dX3_deepestSealed_27) hG (fun r27 st27 H locs hw hG => ?_)
        refine lv_aload_n hx hb dX3_deepestSealed_30 rfl (lv_at hl 0 rfl) ?_
        refine r_get (C := RX3) (T := TX3) (Nf := 2) hx hb hts hown hK hG (by decide) rfl rfl inX3 0 (by decide) qF_X3_15 rfl dX3_deepestSealed_31 ?_
        refine lv_iload_n hx hb dX3_deepestSealed_34 rfl (lv_at hl 1 rfl) ?_
        refine r_ki (r_run_V (k := 11) (As := [.int v1]) (rest := [.int r27]) hx hb hml hown hts hK hN hG (c_X1_depthOf l y 11 isC_11 v1 st27 _ hw) (isC.lt isC_11) (isC.e isC_11 y _) rfl rfl qM_X3_80 qI_X1_depthOf qS_X1_depthOf qN_X1 qC_X1_depthOf hd_X1_depthOf ⟨Nat.le_of_ble_eq_true rfl, Nat.le_of_ble_eq_true rfl⟩ hl.1 rfl (Nat.le_of_ble_eq_true rfl) dX3_deepestSealed_35) hG (fun r35 st35 H locs hw hG => ?_)
        refine lv_icmp_le (tgt := 45) hx hb dX3_deepestSealed_38 (by decide) (fun hc => ?_) (fun hc => ?_)
        · replace hw := hw.1 hc
          refine lv_iconst (v := 0) hx hb dX3_deepestSealed_45 (by decide) ?_
          exact z_X3_deepestSealed_b46 l y  C (fun v1 v2 st => w_X3_deepestSealed_L5   K n v1 v2 st) K hc5 v1 v2 0 st35 hG (lv_sub hl [0, 1, 2] rfl) hw
        · replace hw := hw.2 hc
          exact z_X3_deepestSealed_b41 l y  C (fun v1 v2 st => w_X3_deepestSealed_L5   K n v1 v2 st) K hc5 v1 v2 st35 hG (lv_sub hl [0, 1, 2] rfl) hw
theorem hd_X3_deepestSealed : yX3_deepestSealed.cls ≠ "java/lang/invoke/MethodHandle" ∧ yX3_deepestSealed.cls ≠ "java/lang/invoke/VarHandle" ∧ (parseMethodDescriptor yX3_deepestSealed.desc).map (fun d => d.parameters.length) = some 0 := by decide +kernel
set_option maxRecDepth 100000 in
set_option maxHeartbeats 4000000 in
theorem c_X3_deepestSealed (l : Launch) (y : Sy)  (st : St) (K : Int32 → St → Prop) (hw : w_X3_deepestSealed  st K) : Ci 107 enX l yX3_deepestSealed cX3_deepestSealed 4 (some .int) 2 42 y [.ref (ad y 8)] st K := by
  refine ent (by decide) (Nat.le_of_ble_eq_true rfl) ?_
  intro p e s m below meth c C hG ls hl
  have hl : lv_has ls 4 [(0, .ref (ad y 8))] := hl
  generalize ([.ref (ad y 8)] : List Value).toArray = args at C ⊢
  have C : Sd p s m args meth c cX3_deepestSealed 4 RX3 (some .int) y := C
  obtain ⟨hx, hb, hml, hown, hts, hr, hlk, hK, hN⟩ := id C
  generalize s.heap = H at hG ⊢
  generalize ([] : List Loc) = locs at hG ⊢
  unfold w_X3_deepestSealed at hw
  refine lv_bipush (v := (-9)) hx hb dX3_deepestSealed_0 (by decide) ?_
  refine lv_istore_n (lv' := [(1, .int (-9)), (0, .ref (ad y 8))]) hx hb dX3_deepestSealed_2 rfl hl (Nat.le_of_ble_eq_true rfl) rfl (fun ls hl => ?_)
  refine lv_iconst (v := 0) hx hb dX3_deepestSealed_3 (by decide) ?_
  refine lv_istore_n (lv' := [(2, .int 0), (1, .int (-9)), (0, .ref (ad y 8))]) hx hb dX3_deepestSealed_4 rfl hl (Nat.le_of_ble_eq_true rfl) rfl (fun ls hl => ?_)
  obtain ⟨n5, hw⟩ := hw
  exact z_X3_deepestSealed_L5 l y  C  K  n5 (-9) 0 st H locs _ hG (lv_sub hl [2, 1, 0] rfl) hw
theorem hd_X3_hateOrSelf : yX3_hateOrSelf.cls ≠ "java/lang/invoke/MethodHandle" ∧ yX3_hateOrSelf.cls ≠ "java/lang/invoke/VarHandle" ∧ (parseMethodDescriptor yX3_hateOrSelf.desc).map (fun d => d.parameters.length) = some 2 := by decide +kernel
set_option maxRecDepth 100000 in
set_option maxHeartbeats 4000000 in
theorem c_X3_hateOrSelf (l : Launch) (y : Sy) (x1 : Int32) (x2 : Int32) (st : St) (K : Int32 → St → Prop) (hw : w_X3_hateOrSelf x1 x2 st K) : Ci 107 enX l yX3_hateOrSelf cX3_hateOrSelf 3 (some .int) 2 43 y [.ref (ad y 8), .int x1, .int x2] st K := by
  refine ent (by decide) (Nat.le_of_ble_eq_true rfl) ?_
  intro p e s m below meth c C hG ls hl
  have hl : lv_has ls 3 [(0, .ref (ad y 8)), (1, .int x1), (2, .int x2)] := hl
  generalize ([.ref (ad y 8), .int x1, .int x2] : List Value).toArray = args at C ⊢
  have C : Sd p s m args meth c cX3_hateOrSelf 3 RX3 (some .int) y := C
  obtain ⟨hx, hb, hml, hown, hts, hr, hlk, hK, hN⟩ := id C
  generalize s.heap = H at hG ⊢
  generalize ([] : List Loc) = locs at hG ⊢
  unfold w_X3_hateOrSelf at hw
  refine lv_iload_n hx hb dX3_hateOrSelf_0 rfl (lv_at hl 1 rfl) ?_
  refine lv_iload_n hx hb dX3_hateOrSelf_1 rfl (lv_at hl 2 rfl) ?_
  refine lv_icmp_ne (tgt := 9) hx hb dX3_hateOrSelf_2 (by decide) (fun hc => ?_) (fun hc => ?_)
  · replace hw := hw.1 hc
    refine lv_aload_n hx hb dX3_hateOrSelf_9 rfl (lv_at hl 0 rfl) ?_
    refine r_get (C := RX3) (T := TX3) (Nf := 2) hx hb hts hown hK hG (by decide) rfl rfl inX3 0 (by decide) qF_X3_15 rfl dX3_hateOrSelf_10 ?_
    refine lv_iload_n hx hb dX3_hateOrSelf_13 rfl (lv_at hl 1 rfl) ?_
    refine lv_iload_n hx hb dX3_hateOrSelf_14 rfl (lv_at hl 2 rfl) ?_
    refine r_ki (r_run_V (k := 11) (As := [.int x1, .int x2]) (rest := []) hx hb hml hown hts hK hN hG (c_X1_hateOf l y 11 isC_11 x1 x2 st _ hw) (isC.lt isC_11) (isC.e isC_11 y _) rfl rfl qM_X3_51 qI_X1_hateOf qS_X1_hateOf qN_X1 qC_X1_hateOf hd_X1_hateOf ⟨Nat.le_of_ble_eq_true rfl, Nat.le_of_ble_eq_true rfl⟩ hl.1 rfl (Nat.le_of_ble_eq_true rfl) dX3_hateOrSelf_15) hG (fun r15 st15 H locs hw hG => ?_)
    exact r_iret hx hb hr hlk hK hG rfl hw dX3_hateOrSelf_18
  · replace hw := hw.2 hc
    refine lv_iconst (v := 0) hx hb dX3_hateOrSelf_5 (by decide) ?_
    refine lv_goto (tgt := 18) hx hb dX3_hateOrSelf_6 (by decide) ?_
    exact r_iret hx hb hr hlk hK hG rfl hw dX3_hateOrSelf_18
set_option maxRecDepth 100000 in
set_option maxHeartbeats 4000000 in
theorem z_X3_hatesTogether_L4 {p : Program} {e : Env} {s : State} {m : MethodId} {args : Array Value} {below : List Frame} {meth : Method} {c : Code} (l : Launch) (y : Sy) (x1 : Int32) (C : Sd p s m args meth c cX3_hatesTogether 4 RX3 (some .int) y)  (K : Int32 → St → Prop)  : ∀ (n : Nat) (v2 : Int32) (v3 : Int32) (st : St) (H : Heap) (locs : List Loc) (ls : Array Slot), gH 107 enX y st s H locs → lv_has ls 4 [(0, .ref (ad y 8)), (1, .int x1), (2, .int v2), (3, .int v3)] → w_X3_hatesTogether_L4 x1  K n v2 v3 st → W p l e (rmm 3 65) s m args below meth c H locs 0 0 (MQ below (va_Qi K (gB 107 enX y) (gA 107 y)) args s 0 0 (gA 107 y)) (F0 m 4 ls []) := by
  obtain ⟨hx, hb, hml, hown, hts, hr, hlk, hK, hN⟩ := id C
  intro n
  induction n with
  | zero => intro v2 v3 st H locs ls hG hl hw; exact False.elim hw
  | succ n hc4 =>
    intro v2 v3 st H locs ls hG hl hw
    have hw : w_X3_hatesTogether_L4q x1  K (fun v2 v3 st => w_X3_hatesTogether_L4 x1  K n v2 v3 st) v2 v3 st := hw
    unfold w_X3_hatesTogether_L4q at hw
    refine lv_iload_n hx hb dX3_hatesTogether_4 rfl (lv_at hl 3 rfl) ?_
    refine lv_aload_n hx hb dX3_hatesTogether_5 rfl (lv_at hl 0 rfl) ?_
    refine r_get (C := RX3) (T := TX3) (Nf := 2) hx hb hts hown hK hG (by decide) rfl rfl inX3 0 (by decide) qF_X3_15 rfl dX3_hatesTogether_6 ?_
    refine r_ki (r_run_V (k := 11) (As := []) (rest := [.int v3]) hx hb hml hown hts hK hN hG (c_X1_keeperCount l y 11 isC_11 st _ hw) (isC.lt isC_11) (isC.e isC_11 y _) rfl rfl qM_X3_19 qI_X1_keeperCount qS_X1_keeperCount qN_X1 qC_X1_keeperCount hd_X1_keeperCount ⟨Nat.le_of_ble_eq_true rfl, Nat.le_of_ble_eq_true rfl⟩ hl.1 rfl (Nat.le_of_ble_eq_true rfl) dX3_hatesTogether_9) hG (fun r9 st9 H locs hw hG => ?_)
    refine lv_icmp_ge (tgt := 30) hx hb dX3_hatesTogether_12 (by decide) (fun hc => ?_) (fun hc => ?_)
    · replace hw := hw.1 hc
      refine lv_iload_n hx hb dX3_hatesTogether_30 rfl (lv_at hl 2 rfl) ?_
      exact r_iret hx hb hr hlk hK hG rfl hw dX3_hatesTogether_31
    · replace hw := hw.2 hc
      refine lv_iload_n hx hb dX3_hatesTogether_15 rfl (lv_at hl 2 rfl) ?_
      refine lv_aload_n hx hb dX3_hatesTogether_16 rfl (lv_at hl 0 rfl) ?_
      refine lv_iload_n hx hb dX3_hatesTogether_17 rfl (lv_at hl 1 rfl) ?_
      refine lv_iload_n hx hb dX3_hatesTogether_18 rfl (lv_at hl 3 rfl) ?_
      refine r_ki (r_run_V (k := 8) (As := [.int x1, .int v3]) (rest := [.int v2]) hx hb hml hown hts hK hN hG (c_X3_hateOrSelf l y x1 v3 st9 _ hw) (by decide) rfl rfl rfl qM_X3_90 qI_X3_hateOrSelf qS_X3_hateOrSelf qN_X3 qC_X3_hateOrSelf hd_X3_hateOrSelf ⟨Nat.le_of_ble_eq_true rfl, Nat.le_of_ble_eq_true rfl⟩ hl.1 rfl (Nat.le_of_ble_eq_true rfl) dX3_hatesTogether_19) hG (fun r19 st19 H locs hw hG => ?_)
      refine lv_iadd hx hb dX3_hatesTogether_22 ?_
      refine lv_istore_n (lv' := [(2, .int (v2 + r19)), (0, .ref (ad y 8)), (1, .int x1), (3, .int v3)]) hx hb dX3_hatesTogether_23 rfl hl (Nat.le_of_ble_eq_true rfl) rfl (fun ls hl => ?_)
      refine lv_iinc (v := (v3 + 1)) (lv' := [(3, .int (v3 + 1)), (2, .int (v2 + r19)), (0, .ref (ad y 8)), (1, .int x1)]) hx hb dX3_hatesTogether_24 hl (k := 3) rfl rfl (Nat.le_of_ble_eq_true rfl) rfl (fun ls hl => ?_)
      refine lv_goto (tgt := 4) hx hb dX3_hatesTogether_27 (by decide) ?_
      exact hc4 (v2 + r19) (v3 + 1) st19 H locs _ hG (lv_sub hl [2, 3, 1, 0] rfl) hw
theorem hd_X3_hatesTogether : yX3_hatesTogether.cls ≠ "java/lang/invoke/MethodHandle" ∧ yX3_hatesTogether.cls ≠ "java/lang/invoke/VarHandle" ∧ (parseMethodDescriptor yX3_hatesTogether.desc).map (fun d => d.parameters.length) = some 1 := by decide +kernel
set_option maxRecDepth 100000 in
set_option maxHeartbeats 4000000 in
theorem c_X3_hatesTogether (l : Launch) (y : Sy) (x1 : Int32) (st : St) (K : Int32 → St → Prop) (hw : w_X3_hatesTogether x1 st K) : Ci 107 enX l yX3_hatesTogether cX3_hatesTogether 4 (some .int) 3 65 y [.ref (ad y 8), .int x1] st K := by
  refine ent (by decide) (Nat.le_of_ble_eq_true rfl) ?_
  intro p e s m below meth c C hG ls hl
  have hl : lv_has ls 4 [(0, .ref (ad y 8)), (1, .int x1)] := hl
  generalize ([.ref (ad y 8), .int x1] : List Value).toArray = args at C ⊢
  have C : Sd p s m args meth c cX3_hatesTogether 4 RX3 (some .int) y := C
  obtain ⟨hx, hb, hml, hown, hts, hr, hlk, hK, hN⟩ := id C
  generalize s.heap = H at hG ⊢
  generalize ([] : List Loc) = locs at hG ⊢
  unfold w_X3_hatesTogether at hw
  refine lv_iconst (v := 0) hx hb dX3_hatesTogether_0 (by decide) ?_
  refine lv_istore_n (lv' := [(2, .int 0), (0, .ref (ad y 8)), (1, .int x1)]) hx hb dX3_hatesTogether_1 rfl hl (Nat.le_of_ble_eq_true rfl) rfl (fun ls hl => ?_)
  refine lv_iconst (v := 0) hx hb dX3_hatesTogether_2 (by decide) ?_
  refine lv_istore_n (lv' := [(3, .int 0), (2, .int 0), (0, .ref (ad y 8)), (1, .int x1)]) hx hb dX3_hatesTogether_3 rfl hl (Nat.le_of_ble_eq_true rfl) rfl (fun ls hl => ?_)
  obtain ⟨n4, hw⟩ := hw
  exact z_X3_hatesTogether_L4 l y x1 C  K  n4 0 0 st H locs _ hG (lv_sub hl [2, 3, 1, 0] rfl) hw
set_option maxRecDepth 100000 in
set_option maxHeartbeats 4000000 in
theorem z_X3_leastHating_b37 {p : Program} {e : Env} {s : State} {m : MethodId} {args : Array Value} {below : List Frame} {meth : Method} {c : Code} (l : Launch) (y : Sy)  (C : Sd p s m args meth c cX3_leastHating 3 RX3 (some .int) y) (c5 : Int32 → Int32 → St → Prop) (K : Int32 → St → Prop) (hc5 : ∀ (v1 : Int32) (v2 : Int32) (st : St) (H : Heap) (locs : List Loc) (ls : Array Slot), gH 107 enX y st s H locs → lv_has ls 3 [(0, .ref (ad y 8)), (1, .int v1), (2, .int v2)] → c5 v1 v2 st → W p l e (rmm 4 88) s m args below meth c H locs 0 0 (MQ below (va_Qi K (gB 107 enX y) (gA 107 y)) args s 0 0 (gA 107 y)) (F0 m 5 ls [])) (v1 : Int32) (v2 : Int32) (st : St) {H : Heap} {locs : List Loc} {ls : Array Slot} (hG : gH 107 enX y st s H locs) (hl : lv_has ls 3 [(0, .ref (ad y 8)), (1, .int v1), (2, .int v2)]) (hw : w_X3_leastHating_b37  c5 K v1 v2 st) : W p l e (rmm 4 88) s m args below meth c H locs 0 0 (MQ below (va_Qi K (gB 107 enX y) (gA 107 y)) args s 0 0 (gA 107 y)) (F0 m 37 ls []) := by
  obtain ⟨hx, hb, hml, hown, hts, hr, hlk, hK, hN⟩ := id C
  unfold w_X3_leastHating_b37 at hw
  refine lv_iinc (v := (v2 + 1)) (lv' := [(2, .int (v2 + 1)), (0, .ref (ad y 8)), (1, .int v1)]) hx hb dX3_leastHating_37 hl (k := 2) rfl rfl (Nat.le_of_ble_eq_true rfl) rfl (fun ls hl => ?_)
  refine lv_goto (tgt := 5) hx hb dX3_leastHating_40 (by decide) ?_
  exact hc5 v1 (v2 + 1) st H locs _ hG (lv_sub hl [1, 2, 0] rfl) hw
set_option maxRecDepth 100000 in
set_option maxHeartbeats 4000000 in
theorem z_X3_leastHating_b35 {p : Program} {e : Env} {s : State} {m : MethodId} {args : Array Value} {below : List Frame} {meth : Method} {c : Code} (l : Launch) (y : Sy)  (C : Sd p s m args meth c cX3_leastHating 3 RX3 (some .int) y) (c5 : Int32 → Int32 → St → Prop) (K : Int32 → St → Prop) (hc5 : ∀ (v1 : Int32) (v2 : Int32) (st : St) (H : Heap) (locs : List Loc) (ls : Array Slot), gH 107 enX y st s H locs → lv_has ls 3 [(0, .ref (ad y 8)), (1, .int v1), (2, .int v2)] → c5 v1 v2 st → W p l e (rmm 4 88) s m args below meth c H locs 0 0 (MQ below (va_Qi K (gB 107 enX y) (gA 107 y)) args s 0 0 (gA 107 y)) (F0 m 5 ls [])) (v2 : Int32) (st : St) {H : Heap} {locs : List Loc} {ls : Array Slot} (hG : gH 107 enX y st s H locs) (hl : lv_has ls 3 [(0, .ref (ad y 8)), (2, .int v2)]) (hw : w_X3_leastHating_b35  c5 K v2 st) : W p l e (rmm 4 88) s m args below meth c H locs 0 0 (MQ below (va_Qi K (gB 107 enX y) (gA 107 y)) args s 0 0 (gA 107 y)) (F0 m 35 ls []) := by
  obtain ⟨hx, hb, hml, hown, hts, hr, hlk, hK, hN⟩ := id C
  unfold w_X3_leastHating_b35 at hw
  refine lv_iload_n hx hb dX3_leastHating_35 rfl (lv_at hl 1 rfl) ?_
  refine lv_istore_n (lv' := [(1, .int v2), (0, .ref (ad y 8)), (2, .int v2)]) hx hb dX3_leastHating_36 rfl hl (Nat.le_of_ble_eq_true rfl) rfl (fun ls hl => ?_)
  exact z_X3_leastHating_b37 l y  C c5 K hc5 v2 v2 st hG (lv_sub hl [1, 0, 2] rfl) hw
set_option maxRecDepth 100000 in
set_option maxHeartbeats 4000000 in
theorem z_X3_leastHating_L5 {p : Program} {e : Env} {s : State} {m : MethodId} {args : Array Value} {below : List Frame} {meth : Method} {c : Code} (l : Launch) (y : Sy)  (C : Sd p s m args meth c cX3_leastHating 3 RX3 (some .int) y)  (K : Int32 → St → Prop)  : ∀ (n : Nat) (v1 : Int32) (v2 : Int32) (st : St) (H : Heap) (locs : List Loc) (ls : Array Slot), gH 107 enX y st s H locs → lv_has ls 3 [(0, .ref (ad y 8)), (1, .int v1), (2, .int v2)] → w_X3_leastHating_L5   K n v1 v2 st → W p l e (rmm 4 88) s m args below meth c H locs 0 0 (MQ below (va_Qi K (gB 107 enX y) (gA 107 y)) args s 0 0 (gA 107 y)) (F0 m 5 ls []) := by
  obtain ⟨hx, hb, hml, hown, hts, hr, hlk, hK, hN⟩ := id C
  intro n
  induction n with
  | zero => intro v1 v2 st H locs ls hG hl hw; exact False.elim hw
  | succ n hc5 =>
    intro v1 v2 st H locs ls hG hl hw
    have hw : w_X3_leastHating_L5q   K (fun v1 v2 st => w_X3_leastHating_L5   K n v1 v2 st) v1 v2 st := hw
    unfold w_X3_leastHating_L5q at hw
    refine lv_iload_n hx hb dX3_leastHating_5 rfl (lv_at hl 2 rfl) ?_
    refine lv_aload_n hx hb dX3_leastHating_6 rfl (lv_at hl 0 rfl) ?_
    refine r_get (C := RX3) (T := TX3) (Nf := 2) hx hb hts hown hK hG (by decide) rfl rfl inX3 0 (by decide) qF_X3_15 rfl dX3_leastHating_7 ?_
    refine r_ki (r_run_V (k := 11) (As := []) (rest := [.int v2]) hx hb hml hown hts hK hN hG (c_X1_keeperCount l y 11 isC_11 st _ hw) (isC.lt isC_11) (isC.e isC_11 y _) rfl rfl qM_X3_19 qI_X1_keeperCount qS_X1_keeperCount qN_X1 qC_X1_keeperCount hd_X1_keeperCount ⟨Nat.le_of_ble_eq_true rfl, Nat.le_of_ble_eq_true rfl⟩ hl.1 rfl (Nat.le_of_ble_eq_true rfl) dX3_leastHating_10) hG (fun r10 st10 H locs hw hG => ?_)
    refine lv_icmp_ge (tgt := 43) hx hb dX3_leastHating_13 (by decide) (fun hc => ?_) (fun hc => ?_)
    · replace hw := hw.1 hc
      refine lv_iload_n hx hb dX3_leastHating_43 rfl (lv_at hl 1 rfl) ?_
      exact r_iret hx hb hr hlk hK hG rfl hw dX3_leastHating_44
    · replace hw := hw.2 hc
      refine lv_iload_n hx hb dX3_leastHating_16 rfl (lv_at hl 1 rfl) ?_
      refine lv_bipush (v := (-9)) hx hb dX3_leastHating_17 (by decide) ?_
      refine lv_icmp_eq (tgt := 35) hx hb dX3_leastHating_19 (by decide) (fun hc => ?_) (fun hc => ?_)
      · replace hw := hw.1 hc
        exact z_X3_leastHating_b35 l y  C (fun v1 v2 st => w_X3_leastHating_L5   K n v1 v2 st) K hc5 v2 st10 hG (lv_sub hl [0, 2] rfl) hw
      · replace hw := hw.2 hc
        refine lv_aload_n hx hb dX3_leastHating_22 rfl (lv_at hl 0 rfl) ?_
        refine lv_iload_n hx hb dX3_leastHating_23 rfl (lv_at hl 2 rfl) ?_
        refine r_ki (r_run_V (k := 8) (As := [.int v2]) (rest := []) hx hb hml hown hts hK hN hG (c_X3_hatesTogether l y v2 st10 _ hw) (by decide) rfl rfl rfl qM_X3_87 qI_X3_hatesTogether qS_X3_hatesTogether qN_X3 qC_X3_hatesTogether hd_X3_hatesTogether ⟨Nat.le_of_ble_eq_true rfl, Nat.le_of_ble_eq_true rfl⟩ hl.1 rfl (Nat.le_of_ble_eq_true rfl) dX3_leastHating_24) hG (fun r24 st24 H locs hw hG => ?_)
        refine lv_aload_n hx hb dX3_leastHating_27 rfl (lv_at hl 0 rfl) ?_
        refine lv_iload_n hx hb dX3_leastHating_28 rfl (lv_at hl 1 rfl) ?_
        refine r_ki (r_run_V (k := 8) (As := [.int v1]) (rest := [.int r24]) hx hb hml hown hts hK hN hG (c_X3_hatesTogether l y v1 st24 _ hw) (by decide) rfl rfl rfl qM_X3_87 qI_X3_hatesTogether qS_X3_hatesTogether qN_X3 qC_X3_hatesTogether hd_X3_hatesTogether ⟨Nat.le_of_ble_eq_true rfl, Nat.le_of_ble_eq_true rfl⟩ hl.1 rfl (Nat.le_of_ble_eq_true rfl) dX3_leastHating_29) hG (fun r29 st29 H locs hw hG => ?_)
        refine lv_icmp_ge (tgt := 37) hx hb dX3_leastHating_32 (by decide) (fun hc => ?_) (fun hc => ?_)
        · replace hw := hw.1 hc
          exact z_X3_leastHating_b37 l y  C (fun v1 v2 st => w_X3_leastHating_L5   K n v1 v2 st) K hc5 v1 v2 st29 hG (lv_sub hl [0, 1, 2] rfl) hw
        · replace hw := hw.2 hc
          exact z_X3_leastHating_b35 l y  C (fun v1 v2 st => w_X3_leastHating_L5   K n v1 v2 st) K hc5 v2 st29 hG (lv_sub hl [0, 2] rfl) hw
theorem hd_X3_leastHating : yX3_leastHating.cls ≠ "java/lang/invoke/MethodHandle" ∧ yX3_leastHating.cls ≠ "java/lang/invoke/VarHandle" ∧ (parseMethodDescriptor yX3_leastHating.desc).map (fun d => d.parameters.length) = some 0 := by decide +kernel
set_option maxRecDepth 100000 in
set_option maxHeartbeats 4000000 in
theorem c_X3_leastHating (l : Launch) (y : Sy)  (st : St) (K : Int32 → St → Prop) (hw : w_X3_leastHating  st K) : Ci 107 enX l yX3_leastHating cX3_leastHating 3 (some .int) 4 88 y [.ref (ad y 8)] st K := by
  refine ent (by decide) (Nat.le_of_ble_eq_true rfl) ?_
  intro p e s m below meth c C hG ls hl
  have hl : lv_has ls 3 [(0, .ref (ad y 8))] := hl
  generalize ([.ref (ad y 8)] : List Value).toArray = args at C ⊢
  have C : Sd p s m args meth c cX3_leastHating 3 RX3 (some .int) y := C
  obtain ⟨hx, hb, hml, hown, hts, hr, hlk, hK, hN⟩ := id C
  generalize s.heap = H at hG ⊢
  generalize ([] : List Loc) = locs at hG ⊢
  unfold w_X3_leastHating at hw
  refine lv_bipush (v := (-9)) hx hb dX3_leastHating_0 (by decide) ?_
  refine lv_istore_n (lv' := [(1, .int (-9)), (0, .ref (ad y 8))]) hx hb dX3_leastHating_2 rfl hl (Nat.le_of_ble_eq_true rfl) rfl (fun ls hl => ?_)
  refine lv_iconst (v := 0) hx hb dX3_leastHating_3 (by decide) ?_
  refine lv_istore_n (lv' := [(2, .int 0), (1, .int (-9)), (0, .ref (ad y 8))]) hx hb dX3_leastHating_4 rfl hl (Nat.le_of_ble_eq_true rfl) rfl (fun ls hl => ?_)
  obtain ⟨n5, hw⟩ := hw
  exact z_X3_leastHating_L5 l y  C  K  n5 (-9) 0 st H locs _ hG (lv_sub hl [2, 1, 0] rfl) hw
set_option maxRecDepth 100000 in
set_option maxHeartbeats 4000000 in
theorem z_X3_mostHated_b62 {p : Program} {e : Env} {s : State} {m : MethodId} {args : Array Value} {below : List Frame} {meth : Method} {c : Code} (l : Launch) (y : Sy) (x1 : Int32) (C : Sd p s m args meth c cX3_mostHated 5 RX3 (some .int) y) (c5 : Int32 → Int32 → St → Prop) (K : Int32 → St → Prop) (hc5 : ∀ (v2 : Int32) (v3 : Int32) (st : St) (H : Heap) (locs : List Loc) (ls : Array Slot), gH 107 enX y st s H locs → lv_has ls 5 [(0, .ref (ad y 8)), (1, .int x1), (2, .int v2), (3, .int v3)] → c5 v2 v3 st → W p l e (rmm 2 43) s m args below meth c H locs 0 0 (MQ below (va_Qi K (gB 107 enX y) (gA 107 y)) args s 0 0 (gA 107 y)) (F0 m 5 ls [])) (v2 : Int32) (v3 : Int32) (st : St) {H : Heap} {locs : List Loc} {ls : Array Slot} (hG : gH 107 enX y st s H locs) (hl : lv_has ls 5 [(0, .ref (ad y 8)), (1, .int x1), (2, .int v2), (3, .int v3)]) (hw : w_X3_mostHated_b62 x1 c5 K v2 v3 st) : W p l e (rmm 2 43) s m args below meth c H locs 0 0 (MQ below (va_Qi K (gB 107 enX y) (gA 107 y)) args s 0 0 (gA 107 y)) (F0 m 62 ls []) := by
  obtain ⟨hx, hb, hml, hown, hts, hr, hlk, hK, hN⟩ := id C
  unfold w_X3_mostHated_b62 at hw
  refine lv_iinc (v := (v3 + 1)) (lv' := [(3, .int (v3 + 1)), (0, .ref (ad y 8)), (1, .int x1), (2, .int v2)]) hx hb dX3_mostHated_62 hl (k := 3) rfl rfl (Nat.le_of_ble_eq_true rfl) rfl (fun ls hl => ?_)
  refine lv_goto (tgt := 5) hx hb dX3_mostHated_65 (by decide) ?_
  exact hc5 v2 (v3 + 1) st H locs _ hG (lv_sub hl [1, 2, 3, 0] rfl) hw
set_option maxRecDepth 100000 in
set_option maxHeartbeats 4000000 in
theorem z_X3_mostHated_b48 {p : Program} {e : Env} {s : State} {m : MethodId} {args : Array Value} {below : List Frame} {meth : Method} {c : Code} (l : Launch) (y : Sy) (x1 : Int32) (C : Sd p s m args meth c cX3_mostHated 5 RX3 (some .int) y) (c5 : Int32 → Int32 → St → Prop) (K : Int32 → St → Prop) (hc5 : ∀ (v2 : Int32) (v3 : Int32) (st : St) (H : Heap) (locs : List Loc) (ls : Array Slot), gH 107 enX y st s H locs → lv_has ls 5 [(0, .ref (ad y 8)), (1, .int x1), (2, .int v2), (3, .int v3)] → c5 v2 v3 st → W p l e (rmm 2 43) s m args below meth c H locs 0 0 (MQ below (va_Qi K (gB 107 enX y) (gA 107 y)) args s 0 0 (gA 107 y)) (F0 m 5 ls [])) (v2 : Int32) (v3 : Int32) (s0 : Int32) (st : St) {H : Heap} {locs : List Loc} {ls : Array Slot} (hG : gH 107 enX y st s H locs) (hl : lv_has ls 5 [(0, .ref (ad y 8)), (1, .int x1), (2, .int v2), (3, .int v3)]) (hw : w_X3_mostHated_b48 x1 c5 K v2 v3 s0 st) : W p l e (rmm 2 43) s m args below meth c H locs 0 0 (MQ below (va_Qi K (gB 107 enX y) (gA 107 y)) args s 0 0 (gA 107 y)) (F0 m 48 ls [.int s0]) := by
  obtain ⟨hx, hb, hml, hown, hts, hr, hlk, hK, hN⟩ := id C
  unfold w_X3_mostHated_b48 at hw
  refine lv_istore (lv' := [(4, .int s0), (0, .ref (ad y 8)), (1, .int x1), (2, .int v2), (3, .int v3)]) hx hb dX3_mostHated_48 hl (Nat.le_of_ble_eq_true rfl) rfl (fun ls hl => ?_)
  refine lv_iload_n hx hb dX3_mostHated_50 rfl (lv_at hl 4 rfl) ?_
  refine lv_iload_n hx hb dX3_mostHated_51 rfl (lv_at hl 2 rfl) ?_
  refine lv_icmp_eq (tgt := 62) hx hb dX3_mostHated_52 (by decide) (fun hc => ?_) (fun hc => ?_)
  · replace hw := hw.1 hc
    exact z_X3_mostHated_b62 l y x1 C c5 K hc5 v2 v3 st hG (lv_sub hl [1, 2, 3, 4] rfl) hw
  · replace hw := hw.2 hc
    refine lv_iload hx hb dX3_mostHated_55 (lv_at hl 0 rfl) ?_
    refine lv_if_eq (tgt := 62) hx hb dX3_mostHated_57 (by decide) (fun hc => ?_) (fun hc => ?_)
    · replace hw := hw.1 hc
      exact z_X3_mostHated_b62 l y x1 C c5 K hc5 v2 v3 st hG (lv_sub hl [1, 2, 3, 4] rfl) hw
    · replace hw := hw.2 hc
      refine lv_iload_n hx hb dX3_mostHated_60 rfl (lv_at hl 4 rfl) ?_
      refine lv_istore_n (lv' := [(2, .int v3), (4, .int s0), (0, .ref (ad y 8)), (1, .int x1), (3, .int v3)]) hx hb dX3_mostHated_61 rfl hl (Nat.le_of_ble_eq_true rfl) rfl (fun ls hl => ?_)
      exact z_X3_mostHated_b62 l y x1 C c5 K hc5 v3 v3 st hG (lv_sub hl [2, 3, 0, 4] rfl) hw
set_option maxRecDepth 100000 in
set_option maxHeartbeats 4000000 in
theorem z_X3_mostHated_b43 {p : Program} {e : Env} {s : State} {m : MethodId} {args : Array Value} {below : List Frame} {meth : Method} {c : Code} (l : Launch) (y : Sy) (x1 : Int32) (C : Sd p s m args meth c cX3_mostHated 5 RX3 (some .int) y) (c5 : Int32 → Int32 → St → Prop) (K : Int32 → St → Prop) (hc5 : ∀ (v2 : Int32) (v3 : Int32) (st : St) (H : Heap) (locs : List Loc) (ls : Array Slot), gH 107 enX y st s H locs → lv_has ls 5 [(0, .ref (ad y 8)), (1, .int x1), (2, .int v2), (3, .int v3)] → c5 v2 v3 st → W p l e (rmm 2 43) s m args below meth c H locs 0 0 (MQ below (va_Qi K (gB 107 enX y) (gA 107 y)) args s 0 0 (gA 107 y)) (F0 m 5 ls [])) (v2 : Int32) (v3 : Int32) (st : St) {H : Heap} {locs : List Loc} {ls : Array Slot} (hG : gH 107 enX y st s H locs) (hl : lv_has ls 5 [(0, .ref (ad y 8)), (1, .int x1), (2, .int v2), (3, .int v3)]) (hw : w_X3_mostHated_b43 x1 c5 K v2 v3 st) : W p l e (rmm 2 43) s m args below meth c H locs 0 0 (MQ below (va_Qi K (gB 107 enX y) (gA 107 y)) args s 0 0 (gA 107 y)) (F0 m 43 ls []) := by
  obtain ⟨hx, hb, hml, hown, hts, hr, hlk, hK, hN⟩ := id C
  unfold w_X3_mostHated_b43 at hw
  refine lv_iconst (v := 1) hx hb dX3_mostHated_43 (by decide) ?_
  refine lv_goto (tgt := 48) hx hb dX3_mostHated_44 (by decide) ?_
  exact z_X3_mostHated_b48 l y x1 C c5 K hc5 v2 v3 1 st hG (lv_sub hl [0, 1, 2, 3] rfl) hw
set_option maxRecDepth 100000 in
set_option maxHeartbeats 4000000 in
theorem z_X3_mostHated_L5 {p : Program} {e : Env} {s : State} {m : MethodId} {args : Array Value} {below : List Frame} {meth : Method} {c : Code} (l : Launch) (y : Sy) (x1 : Int32) (C : Sd p s m args meth c cX3_mostHated 5 RX3 (some .int) y)  (K : Int32 → St → Prop)  : ∀ (n : Nat) (v2 : Int32) (v3 : Int32) (st : St) (H : Heap) (locs : List Loc) (ls : Array Slot), gH 107 enX y st s H locs → lv_has ls 5 [(0, .ref (ad y 8)), (1, .int x1), (2, .int v2), (3, .int v3)] → w_X3_mostHated_L5 x1  K n v2 v3 st → W p l e (rmm 2 43) s m args below meth c H locs 0 0 (MQ below (va_Qi K (gB 107 enX y) (gA 107 y)) args s 0 0 (gA 107 y)) (F0 m 5 ls []) := by
  obtain ⟨hx, hb, hml, hown, hts, hr, hlk, hK, hN⟩ := id C
  intro n
  induction n with
  | zero => intro v2 v3 st H locs ls hG hl hw; exact False.elim hw
  | succ n hc5 =>
    intro v2 v3 st H locs ls hG hl hw
    have hw : w_X3_mostHated_L5q x1  K (fun v2 v3 st => w_X3_mostHated_L5 x1  K n v2 v3 st) v2 v3 st := hw
    unfold w_X3_mostHated_L5q at hw
    refine lv_iload_n hx hb dX3_mostHated_5 rfl (lv_at hl 3 rfl) ?_
    refine lv_aload_n hx hb dX3_mostHated_6 rfl (lv_at hl 0 rfl) ?_
    refine r_get (C := RX3) (T := TX3) (Nf := 2) hx hb hts hown hK hG (by decide) rfl rfl inX3 0 (by decide) qF_X3_15 rfl dX3_mostHated_7 ?_
    refine r_ki (r_run_V (k := 11) (As := []) (rest := [.int v3]) hx hb hml hown hts hK hN hG (c_X1_keeperCount l y 11 isC_11 st _ hw) (isC.lt isC_11) (isC.e isC_11 y _) rfl rfl qM_X3_19 qI_X1_keeperCount qS_X1_keeperCount qN_X1 qC_X1_keeperCount hd_X1_keeperCount ⟨Nat.le_of_ble_eq_true rfl, Nat.le_of_ble_eq_true rfl⟩ hl.1 rfl (Nat.le_of_ble_eq_true rfl) dX3_mostHated_10) hG (fun r10 st10 H locs hw hG => ?_)
    refine lv_icmp_ge (tgt := 68) hx hb dX3_mostHated_13 (by decide) (fun hc => ?_) (fun hc => ?_)
    · replace hw := hw.1 hc
      refine lv_iload_n hx hb dX3_mostHated_68 rfl (lv_at hl 2 rfl) ?_
      exact r_iret hx hb hr hlk hK hG rfl hw dX3_mostHated_69
    · replace hw := hw.2 hc
      refine lv_iload_n hx hb dX3_mostHated_16 rfl (lv_at hl 2 rfl) ?_
      refine lv_bipush (v := (-9)) hx hb dX3_mostHated_17 (by decide) ?_
      refine lv_icmp_eq (tgt := 43) hx hb dX3_mostHated_19 (by decide) (fun hc => ?_) (fun hc => ?_)
      · replace hw := hw.1 hc
        exact z_X3_mostHated_b43 l y x1 C (fun v2 v3 st => w_X3_mostHated_L5 x1  K n v2 v3 st) K hc5 v2 v3 st10 hG (lv_sub hl [0, 1, 2, 3] rfl) hw
      · replace hw := hw.2 hc
        refine lv_aload_n hx hb dX3_mostHated_22 rfl (lv_at hl 0 rfl) ?_
        refine r_get (C := RX3) (T := TX3) (Nf := 2) hx hb hts hown hK hG (by decide) rfl rfl inX3 0 (by decide) qF_X3_15 rfl dX3_mostHated_23 ?_
        refine lv_iload_n hx hb dX3_mostHated_26 rfl (lv_at hl 1 rfl) ?_
        refine lv_iload_n hx hb dX3_mostHated_27 rfl (lv_at hl 3 rfl) ?_
        refine r_ki (r_run_V (k := 11) (As := [.int x1, .int v3]) (rest := []) hx hb hml hown hts hK hN hG (c_X1_hateOf l y 11 isC_11 x1 v3 st10 _ hw) (isC.lt isC_11) (isC.e isC_11 y _) rfl rfl qM_X3_51 qI_X1_hateOf qS_X1_hateOf qN_X1 qC_X1_hateOf hd_X1_hateOf ⟨Nat.le_of_ble_eq_true rfl, Nat.le_of_ble_eq_true rfl⟩ hl.1 rfl (Nat.le_of_ble_eq_true rfl) dX3_mostHated_28) hG (fun r28 st28 H locs hw hG => ?_)
        refine lv_aload_n hx hb dX3_mostHated_31 rfl (lv_at hl 0 rfl) ?_
        refine r_get (C := RX3) (T := TX3) (Nf := 2) hx hb hts hown hK hG (by decide) rfl rfl inX3 0 (by decide) qF_X3_15 rfl dX3_mostHated_32 ?_
        refine lv_iload_n hx hb dX3_mostHated_35 rfl (lv_at hl 1 rfl) ?_
        refine lv_iload_n hx hb dX3_mostHated_36 rfl (lv_at hl 2 rfl) ?_
        refine r_ki (r_run_V (k := 11) (As := [.int x1, .int v2]) (rest := [.int r28]) hx hb hml hown hts hK hN hG (c_X1_hateOf l y 11 isC_11 x1 v2 st28 _ hw) (isC.lt isC_11) (isC.e isC_11 y _) rfl rfl qM_X3_51 qI_X1_hateOf qS_X1_hateOf qN_X1 qC_X1_hateOf hd_X1_hateOf ⟨Nat.le_of_ble_eq_true rfl, Nat.le_of_ble_eq_true rfl⟩ hl.1 rfl (Nat.le_of_ble_eq_true rfl) dX3_mostHated_37) hG (fun r37 st37 H locs hw hG => ?_)
        refine lv_icmp_le (tgt := 47) hx hb dX3_mostHated_40 (by decide) (fun hc => ?_) (fun hc => ?_)
        · replace hw := hw.1 hc
          refine lv_iconst (v := 0) hx hb dX3_mostHated_47 (by decide) ?_
          exact z_X3_mostHated_b48 l y x1 C (fun v2 v3 st => w_X3_mostHated_L5 x1  K n v2 v3 st) K hc5 v2 v3 0 st37 hG (lv_sub hl [0, 1, 2, 3] rfl) hw
        · replace hw := hw.2 hc
          exact z_X3_mostHated_b43 l y x1 C (fun v2 v3 st => w_X3_mostHated_L5 x1  K n v2 v3 st) K hc5 v2 v3 st37 hG (lv_sub hl [0, 1, 2, 3] rfl) hw
theorem hd_X3_mostHated : yX3_mostHated.cls ≠ "java/lang/invoke/MethodHandle" ∧ yX3_mostHated.cls ≠ "java/lang/invoke/VarHandle" ∧ (parseMethodDescriptor yX3_mostHated.desc).map (fun d => d.parameters.length) = some 1 := by decide +kernel
set_option maxRecDepth 100000 in
set_option maxHeartbeats 4000000 in
theorem c_X3_mostHated (l : Launch) (y : Sy) (x1 : Int32) (st : St) (K : Int32 → St → Prop) (hw : w_X3_mostHated x1 st K) : Ci 107 enX l yX3_mostHated cX3_mostHated 5 (some .int) 2 43 y [.ref (ad y 8), .int x1] st K := by
  refine ent (by decide) (Nat.le_of_ble_eq_true rfl) ?_
  intro p e s m below meth c C hG ls hl
  have hl : lv_has ls 5 [(0, .ref (ad y 8)), (1, .int x1)] := hl
  generalize ([.ref (ad y 8), .int x1] : List Value).toArray = args at C ⊢
  have C : Sd p s m args meth c cX3_mostHated 5 RX3 (some .int) y := C
  obtain ⟨hx, hb, hml, hown, hts, hr, hlk, hK, hN⟩ := id C
  generalize s.heap = H at hG ⊢
  generalize ([] : List Loc) = locs at hG ⊢
  unfold w_X3_mostHated at hw
  refine lv_bipush (v := (-9)) hx hb dX3_mostHated_0 (by decide) ?_
  refine lv_istore_n (lv' := [(2, .int (-9)), (0, .ref (ad y 8)), (1, .int x1)]) hx hb dX3_mostHated_2 rfl hl (Nat.le_of_ble_eq_true rfl) rfl (fun ls hl => ?_)
  refine lv_iconst (v := 0) hx hb dX3_mostHated_3 (by decide) ?_
  refine lv_istore_n (lv' := [(3, .int 0), (2, .int (-9)), (0, .ref (ad y 8)), (1, .int x1)]) hx hb dX3_mostHated_4 rfl hl (Nat.le_of_ble_eq_true rfl) rfl (fun ls hl => ?_)
  obtain ⟨n5, hw⟩ := hw
  exact z_X3_mostHated_L5 l y x1 C  K  n5 (-9) 0 st H locs _ hG (lv_sub hl [2, 3, 1, 0] rfl) hw
set_option maxRecDepth 100000 in
set_option maxHeartbeats 4000000 in
theorem z_X3_bareTowns_b55 {p : Program} {e : Env} {s : State} {m : MethodId} {args : Array Value} {below : List Frame} {meth : Method} {c : Code} (l : Launch) (y : Sy)  (C : Sd p s m args meth c cX3_bareTowns 3 RX3 (some .int) y) (c4 : Int32 → Int32 → St → Prop) (K : Int32 → St → Prop) (hc4 : ∀ (v1 : Int32) (v2 : Int32) (st : St) (H : Heap) (locs : List Loc) (ls : Array Slot), gH 107 enX y st s H locs → lv_has ls 3 [(0, .ref (ad y 8)), (1, .int v1), (2, .int v2)] → c4 v1 v2 st → W p l e (rmm 4 86) s m args below meth c H locs 0 0 (MQ below (va_Qi K (gB 107 enX y) (gA 107 y)) args s 0 0 (gA 107 y)) (F0 m 4 ls [])) (v1 : Int32) (v2 : Int32) (st : St) {H : Heap} {locs : List Loc} {ls : Array Slot} (hG : gH 107 enX y st s H locs) (hl : lv_has ls 3 [(0, .ref (ad y 8)), (1, .int v1), (2, .int v2)]) (hw : w_X3_bareTowns_b55  c4 K v1 v2 st) : W p l e (rmm 4 86) s m args below meth c H locs 0 0 (MQ below (va_Qi K (gB 107 enX y) (gA 107 y)) args s 0 0 (gA 107 y)) (F0 m 55 ls []) := by
  obtain ⟨hx, hb, hml, hown, hts, hr, hlk, hK, hN⟩ := id C
  unfold w_X3_bareTowns_b55 at hw
  refine lv_iinc (v := (v2 + 1)) (lv' := [(2, .int (v2 + 1)), (0, .ref (ad y 8)), (1, .int v1)]) hx hb dX3_bareTowns_55 hl (k := 2) rfl rfl (Nat.le_of_ble_eq_true rfl) rfl (fun ls hl => ?_)
  refine lv_goto (tgt := 4) hx hb dX3_bareTowns_58 (by decide) ?_
  exact hc4 v1 (v2 + 1) st H locs _ hG (lv_sub hl [1, 2, 0] rfl) hw
set_option maxRecDepth 100000 in
set_option maxHeartbeats 4000000 in
theorem z_X3_bareTowns_L4 {p : Program} {e : Env} {s : State} {m : MethodId} {args : Array Value} {below : List Frame} {meth : Method} {c : Code} (l : Launch) (y : Sy)  (C : Sd p s m args meth c cX3_bareTowns 3 RX3 (some .int) y)  (K : Int32 → St → Prop)  : ∀ (n : Nat) (v1 : Int32) (v2 : Int32) (st : St) (H : Heap) (locs : List Loc) (ls : Array Slot), gH 107 enX y st s H locs → lv_has ls 3 [(0, .ref (ad y 8)), (1, .int v1), (2, .int v2)] → w_X3_bareTowns_L4   K n v1 v2 st → W p l e (rmm 4 86) s m args below meth c H locs 0 0 (MQ below (va_Qi K (gB 107 enX y) (gA 107 y)) args s 0 0 (gA 107 y)) (F0 m 4 ls []) := by
  obtain ⟨hx, hb, hml, hown, hts, hr, hlk, hK, hN⟩ := id C
  intro n
  induction n with
  | zero => intro v1 v2 st H locs ls hG hl hw; exact False.elim hw
  | succ n hc4 =>
    intro v1 v2 st H locs ls hG hl hw
    have hw : w_X3_bareTowns_L4q   K (fun v1 v2 st => w_X3_bareTowns_L4   K n v1 v2 st) v1 v2 st := hw
    unfold w_X3_bareTowns_L4q at hw
    refine lv_iload_n hx hb dX3_bareTowns_4 rfl (lv_at hl 2 rfl) ?_
    refine lv_aload_n hx hb dX3_bareTowns_5 rfl (lv_at hl 0 rfl) ?_
    refine r_get (C := RX3) (T := TX3) (Nf := 2) hx hb hts hown hK hG (by decide) rfl rfl inX3 0 (by decide) qF_X3_15 rfl dX3_bareTowns_6 ?_
    refine r_ki (r_run_V (k := 11) (As := []) (rest := [.int v2]) hx hb hml hown hts hK hN hG (c_X1_letterCount l y 11 isC_11 st _ hw) (isC.lt isC_11) (isC.e isC_11 y _) rfl rfl qM_X3_77 qI_X1_letterCount qS_X1_letterCount qN_X1 qC_X1_letterCount hd_X1_letterCount ⟨Nat.le_of_ble_eq_true rfl, Nat.le_of_ble_eq_true rfl⟩ hl.1 rfl (Nat.le_of_ble_eq_true rfl) dX3_bareTowns_9) hG (fun r9 st9 H locs hw hG => ?_)
    refine lv_icmp_ge (tgt := 61) hx hb dX3_bareTowns_12 (by decide) (fun hc => ?_) (fun hc => ?_)
    · replace hw := hw.1 hc
      refine lv_iload_n hx hb dX3_bareTowns_61 rfl (lv_at hl 1 rfl) ?_
      exact r_iret hx hb hr hlk hK hG rfl hw dX3_bareTowns_62
    · replace hw := hw.2 hc
      refine lv_aload_n hx hb dX3_bareTowns_15 rfl (lv_at hl 0 rfl) ?_
      refine r_get (C := RX3) (T := TX3) (Nf := 2) hx hb hts hown hK hG (by decide) rfl rfl inX3 0 (by decide) qF_X3_15 rfl dX3_bareTowns_16 ?_
      refine lv_iload_n hx hb dX3_bareTowns_19 rfl (lv_at hl 2 rfl) ?_
      refine r_ki (r_run_V (k := 11) (As := [.int v2]) (rest := []) hx hb hml hown hts hK hN hG (c_X1_isOpen l y 11 isC_11 v2 st9 _ hw) (isC.lt isC_11) (isC.e isC_11 y _) rfl rfl qM_X3_83 qI_X1_isOpen qS_X1_isOpen qN_X1 qC_X1_isOpen hd_X1_isOpen ⟨Nat.le_of_ble_eq_true rfl, Nat.le_of_ble_eq_true rfl⟩ hl.1 rfl (Nat.le_of_ble_eq_true rfl) dX3_bareTowns_20) hG (fun r20 st20 H locs hw hG => ?_)
      refine lv_if_ne (tgt := 55) hx hb dX3_bareTowns_23 (by decide) (fun hc => ?_) (fun hc => ?_)
      · replace hw := hw.1 hc
        exact z_X3_bareTowns_b55 l y  C (fun v1 v2 st => w_X3_bareTowns_L4   K n v1 v2 st) K hc4 v1 v2 st20 hG (lv_sub hl [0, 1, 2] rfl) hw
      · replace hw := hw.2 hc
        refine lv_aload_n hx hb dX3_bareTowns_26 rfl (lv_at hl 0 rfl) ?_
        refine lv_aload_n hx hb dX3_bareTowns_27 rfl (lv_at hl 0 rfl) ?_
        refine r_get (C := RX3) (T := TX3) (Nf := 2) hx hb hts hown hK hG (by decide) rfl rfl inX3 0 (by decide) qF_X3_15 rfl dX3_bareTowns_28 ?_
        refine lv_iload_n hx hb dX3_bareTowns_31 rfl (lv_at hl 2 rfl) ?_
        refine r_ki (r_run_V (k := 11) (As := [.int v2]) (rest := [.ref (ad y 8)]) hx hb hml hown hts hK hN hG (c_X1_letterTownOf l y 11 isC_11 v2 st20 _ hw) (isC.lt isC_11) (isC.e isC_11 y _) rfl rfl qM_X3_93 qI_X1_letterTownOf qS_X1_letterTownOf qN_X1 qC_X1_letterTownOf hd_X1_letterTownOf ⟨Nat.le_of_ble_eq_true rfl, Nat.le_of_ble_eq_true rfl⟩ hl.1 rfl (Nat.le_of_ble_eq_true rfl) dX3_bareTowns_32) hG (fun r32 st32 H locs hw hG => ?_)
        refine r_ki (r_run_V (k := 8) (As := [.int r32]) (rest := []) hx hb hml hown hts hK hN hG (c_X3_crowd l y r32 st32 _ hw) (by decide) rfl rfl rfl qM_X3_44 qI_X3_crowd qS_X3_crowd qN_X3 qC_X3_crowd hd_X3_crowd ⟨Nat.le_of_ble_eq_true rfl, Nat.le_of_ble_eq_true rfl⟩ hl.1 rfl (Nat.le_of_ble_eq_true rfl) dX3_bareTowns_35) hG (fun r35 st35 H locs hw hG => ?_)
        refine lv_iconst (v := 2) hx hb dX3_bareTowns_38 (by decide) ?_
        refine lv_icmp_ge (tgt := 55) hx hb dX3_bareTowns_39 (by decide) (fun hc => ?_) (fun hc => ?_)
        · replace hw := hw.1 hc
          exact z_X3_bareTowns_b55 l y  C (fun v1 v2 st => w_X3_bareTowns_L4   K n v1 v2 st) K hc4 v1 v2 st35 hG (lv_sub hl [0, 1, 2] rfl) hw
        · replace hw := hw.2 hc
          refine lv_iload_n hx hb dX3_bareTowns_42 rfl (lv_at hl 1 rfl) ?_
          refine lv_iconst (v := 1) hx hb dX3_bareTowns_43 (by decide) ?_
          refine lv_aload_n hx hb dX3_bareTowns_44 rfl (lv_at hl 0 rfl) ?_
          refine r_get (C := RX3) (T := TX3) (Nf := 2) hx hb hts hown hK hG (by decide) rfl rfl inX3 0 (by decide) qF_X3_15 rfl dX3_bareTowns_45 ?_
          refine lv_iload_n hx hb dX3_bareTowns_48 rfl (lv_at hl 2 rfl) ?_
          refine r_ki (r_run_V (k := 11) (As := [.int v2]) (rest := [.int 1, .int v1]) hx hb hml hown hts hK hN hG (c_X1_letterTownOf l y 11 isC_11 v2 st35 _ hw) (isC.lt isC_11) (isC.e isC_11 y _) rfl rfl qM_X3_93 qI_X1_letterTownOf qS_X1_letterTownOf qN_X1 qC_X1_letterTownOf hd_X1_letterTownOf ⟨Nat.le_of_ble_eq_true rfl, Nat.le_of_ble_eq_true rfl⟩ hl.1 rfl (Nat.le_of_ble_eq_true rfl) dX3_bareTowns_49) hG (fun r49 st49 H locs hw hG => ?_)
          refine lv_ishl hx hb dX3_bareTowns_52 ?_
          refine lv_ior hx hb dX3_bareTowns_53 ?_
          refine lv_istore_n (lv' := [(1, .int (v1 ||| ((1 : Int32) <<< (r49 &&& 31)))), (0, .ref (ad y 8)), (2, .int v2)]) hx hb dX3_bareTowns_54 rfl hl (Nat.le_of_ble_eq_true rfl) rfl (fun ls hl => ?_)
          exact z_X3_bareTowns_b55 l y  C (fun v1 v2 st => w_X3_bareTowns_L4   K n v1 v2 st) K hc4 (v1 ||| ((1 : Int32) <<< (r49 &&& 31))) v2 st49 hG (lv_sub hl [1, 0, 2] rfl) hw
theorem hd_X3_bareTowns : yX3_bareTowns.cls ≠ "java/lang/invoke/MethodHandle" ∧ yX3_bareTowns.cls ≠ "java/lang/invoke/VarHandle" ∧ (parseMethodDescriptor yX3_bareTowns.desc).map (fun d => d.parameters.length) = some 0 := by decide +kernel
set_option maxRecDepth 100000 in
set_option maxHeartbeats 4000000 in
theorem c_X3_bareTowns (l : Launch) (y : Sy)  (st : St) (K : Int32 → St → Prop) (hw : w_X3_bareTowns  st K) : Ci 107 enX l yX3_bareTowns cX3_bareTowns 3 (some .int) 4 86 y [.ref (ad y 8)] st K := by
  refine ent (by decide) (Nat.le_of_ble_eq_true rfl) ?_
  intro p e s m below meth c C hG ls hl
  have hl : lv_has ls 3 [(0, .ref (ad y 8))] := hl
  generalize ([.ref (ad y 8)] : List Value).toArray = args at C ⊢
  have C : Sd p s m args meth c cX3_bareTowns 3 RX3 (some .int) y := C
  obtain ⟨hx, hb, hml, hown, hts, hr, hlk, hK, hN⟩ := id C
  generalize s.heap = H at hG ⊢
  generalize ([] : List Loc) = locs at hG ⊢
  unfold w_X3_bareTowns at hw
  refine lv_iconst (v := 0) hx hb dX3_bareTowns_0 (by decide) ?_
  refine lv_istore_n (lv' := [(1, .int 0), (0, .ref (ad y 8))]) hx hb dX3_bareTowns_1 rfl hl (Nat.le_of_ble_eq_true rfl) rfl (fun ls hl => ?_)
  refine lv_iconst (v := 0) hx hb dX3_bareTowns_2 (by decide) ?_
  refine lv_istore_n (lv' := [(2, .int 0), (1, .int 0), (0, .ref (ad y 8))]) hx hb dX3_bareTowns_3 rfl hl (Nat.le_of_ble_eq_true rfl) rfl (fun ls hl => ?_)
  obtain ⟨n4, hw⟩ := hw
  exact z_X3_bareTowns_L4 l y  C  K  n4 0 0 st H locs _ hG (lv_sub hl [2, 1, 0] rfl) hw
theorem hd_X6_size : yX6_size.cls ≠ "java/lang/invoke/MethodHandle" ∧ yX6_size.cls ≠ "java/lang/invoke/VarHandle" ∧ (parseMethodDescriptor yX6_size.desc).map (fun d => d.parameters.length) = some 0 := by decide +kernel
set_option maxRecDepth 100000 in
set_option maxHeartbeats 4000000 in
theorem c_X6_size (l : Launch) (y : Sy)  (st : St) (K : Int32 → St → Prop) (hw : w_X6_size  st K) : Ci 107 enX l yX6_size cX6_size 1 (some .int) 0 0 y [.ref (ad y 6)] st K := by
  refine ent (by decide) (Nat.le_of_ble_eq_true rfl) ?_
  intro p e s m below meth c C hG ls hl
  have hl : lv_has ls 1 [(0, .ref (ad y 6))] := hl
  generalize ([.ref (ad y 6)] : List Value).toArray = args at C ⊢
  have C : Sd p s m args meth c cX6_size 1 RX6 (some .int) y := C
  obtain ⟨hx, hb, hml, hown, hts, hr, hlk, hK, hN⟩ := id C
  generalize s.heap = H at hG ⊢
  generalize ([] : List Loc) = locs at hG ⊢
  unfold w_X6_size at hw
  refine lv_aload_n hx hb dX6_size_0 rfl (lv_at hl 0 rfl) ?_
  refine r_get (C := RX6) (T := TX6) (Nf := 2) hx hb hts hown hK hG (by decide) rfl rfl inX6 1 (by decide) qF_X6_13 rfl dX6_size_1 ?_
  exact r_iret hx hb hr hlk hK hG rfl hw dX6_size_4
theorem hd_X6_number : yX6_number.cls ≠ "java/lang/invoke/MethodHandle" ∧ yX6_number.cls ≠ "java/lang/invoke/VarHandle" ∧ (parseMethodDescriptor yX6_number.desc).map (fun d => d.parameters.length) = some 1 := by decide +kernel
set_option maxRecDepth 100000 in
set_option maxHeartbeats 4000000 in
theorem c_X6_number (l : Launch) (y : Sy) (x1 : Int32) (st : St) (K : Int32 → St → Prop) (hw : w_X6_number x1 st K) : Ci 107 enX l yX6_number cX6_number 2 (some .int) 1 21 y [.ref (ad y 6), .int x1] st K := by
  refine ent (by decide) (Nat.le_of_ble_eq_true rfl) ?_
  intro p e s m below meth c C hG ls hl
  have hl : lv_has ls 2 [(0, .ref (ad y 6)), (1, .int x1)] := hl
  generalize ([.ref (ad y 6), .int x1] : List Value).toArray = args at C ⊢
  have C : Sd p s m args meth c cX6_number 2 RX6 (some .int) y := C
  obtain ⟨hx, hb, hml, hown, hts, hr, hlk, hK, hN⟩ := id C
  generalize s.heap = H at hG ⊢
  generalize ([] : List Loc) = locs at hG ⊢
  unfold w_X6_number at hw
  refine lv_aload_n hx hb dX6_number_0 rfl (lv_at hl 0 rfl) ?_
  refine r_get (C := RX6) (T := TX6) (Nf := 2) hx hb hts hown hK hG (by decide) rfl rfl inX6 0 (by decide) qF_X6_9 rfl dX6_number_1 ?_
  refine lv_iload_n hx hb dX6_number_4 rfl (lv_at hl 1 rfl) ?_
  refine r_ki (r_run_N (As := [.ref (ad y 7), .int x1]) (rest := []) hx hb hml hown hts hK hN hG (c_X8_at l y 7 12 isA_7 x1 st _ hw) qM_X6_29 qT_X8_at qN_X8 qC_X8_at hd_X8_at ⟨Nat.le_of_ble_eq_true rfl, Nat.le_of_ble_eq_true rfl⟩ hl.1 rfl (Nat.le_of_ble_eq_true rfl) dX6_number_5) hG (fun r5 st5 H locs hw hG => ?_)
  exact r_iret hx hb hr hlk hK hG rfl hw dX6_number_8
set_option maxRecDepth 100000 in
set_option maxHeartbeats 4000000 in
theorem z_X3_firstMisjudged_L9 {p : Program} {e : Env} {s : State} {m : MethodId} {args : Array Value} {below : List Frame} {meth : Method} {c : Code} (l : Launch) (y : Sy) (x1 : Int32) (C : Sd p s m args meth c cX3_firstMisjudged 4 RX3 (some .int) y)  (K : Int32 → St → Prop)  : ∀ (n : Nat) (v3 : Int32) (st : St) (H : Heap) (locs : List Loc) (ls : Array Slot), gH 107 enX y st s H locs → lv_has ls 4 [(0, .ref (ad y 8)), (1, .int x1), (2, .ref (ad y 6)), (3, .int v3)] → w_X3_firstMisjudged_L9 x1  K n v3 st → W p l e (rmm 3 65) s m args below meth c H locs 0 0 (MQ below (va_Qi K (gB 107 enX y) (gA 107 y)) args s 0 0 (gA 107 y)) (F0 m 9 ls []) := by
  obtain ⟨hx, hb, hml, hown, hts, hr, hlk, hK, hN⟩ := id C
  intro n
  induction n with
  | zero => intro v3 st H locs ls hG hl hw; exact False.elim hw
  | succ n hc9 =>
    intro v3 st H locs ls hG hl hw
    have hw : w_X3_firstMisjudged_L9q x1  K (fun v3 st => w_X3_firstMisjudged_L9 x1  K n v3 st) v3 st := hw
    unfold w_X3_firstMisjudged_L9q at hw
    refine lv_iload_n hx hb dX3_firstMisjudged_9 rfl (lv_at hl 3 rfl) ?_
    refine lv_aload_n hx hb dX3_firstMisjudged_10 rfl (lv_at hl 2 rfl) ?_
    refine r_ki (r_run_V (k := 6) (As := []) (rest := [.int v3]) hx hb hml hown hts hK hN hG (c_X6_size l y  st _ hw) (by decide) rfl rfl rfl qM_X3_96 qI_X6_size qS_X6_size qN_X6 qC_X6_size hd_X6_size ⟨Nat.le_of_ble_eq_true rfl, Nat.le_of_ble_eq_true rfl⟩ hl.1 rfl (Nat.le_of_ble_eq_true rfl) dX3_firstMisjudged_11) hG (fun r11 st11 H locs hw hG => ?_)
    refine lv_icmp_ge (tgt := 50) hx hb dX3_firstMisjudged_14 (by decide) (fun hc => ?_) (fun hc => ?_)
    · replace hw := hw.1 hc
      refine lv_bipush (v := (-9)) hx hb dX3_firstMisjudged_50 (by decide) ?_
      exact r_iret hx hb hr hlk hK hG rfl hw dX3_firstMisjudged_52
    · replace hw := hw.2 hc
      refine lv_aload_n hx hb dX3_firstMisjudged_17 rfl (lv_at hl 0 rfl) ?_
      refine r_get (C := RX3) (T := TX3) (Nf := 2) hx hb hts hown hK hG (by decide) rfl rfl inX3 0 (by decide) qF_X3_15 rfl dX3_firstMisjudged_18 ?_
      refine lv_iload_n hx hb dX3_firstMisjudged_21 rfl (lv_at hl 3 rfl) ?_
      refine r_ki (r_run_V (k := 11) (As := [.int v3]) (rest := []) hx hb hml hown hts hK hN hG (c_X1_hasKeeper l y 11 isC_11 v3 st11 _ hw) (isC.lt isC_11) (isC.e isC_11 y _) rfl rfl qM_X3_101 qI_X1_hasKeeper qS_X1_hasKeeper qN_X1 qC_X1_hasKeeper hd_X1_hasKeeper ⟨Nat.le_of_ble_eq_true rfl, Nat.le_of_ble_eq_true rfl⟩ hl.1 rfl (Nat.le_of_ble_eq_true rfl) dX3_firstMisjudged_22) hG (fun r22 st22 H locs hw hG => ?_)
      refine lv_if_eq (tgt := 42) hx hb dX3_firstMisjudged_25 (by decide) (fun hc => ?_) (fun hc => ?_)
      · replace hw := hw.1 hc
        refine lv_iload_n hx hb dX3_firstMisjudged_42 rfl (lv_at hl 3 rfl) ?_
        exact r_iret hx hb hr hlk hK hG rfl hw dX3_firstMisjudged_43
      · replace hw := hw.2 hc
        refine lv_aload_n hx hb dX3_firstMisjudged_28 rfl (lv_at hl 2 rfl) ?_
        refine lv_iload_n hx hb dX3_firstMisjudged_29 rfl (lv_at hl 3 rfl) ?_
        refine r_ki (r_run_V (k := 6) (As := [.int v3]) (rest := []) hx hb hml hown hts hK hN hG (c_X6_number l y v3 st22 _ hw) (by decide) rfl rfl rfl qM_X3_104 qI_X6_number qS_X6_number qN_X6 qC_X6_number hd_X6_number ⟨Nat.le_of_ble_eq_true rfl, Nat.le_of_ble_eq_true rfl⟩ hl.1 rfl (Nat.le_of_ble_eq_true rfl) dX3_firstMisjudged_30) hG (fun r30 st30 H locs hw hG => ?_)
        refine lv_aload_n hx hb dX3_firstMisjudged_33 rfl (lv_at hl 0 rfl) ?_
        refine lv_iload_n hx hb dX3_firstMisjudged_34 rfl (lv_at hl 1 rfl) ?_
        refine lv_iload_n hx hb dX3_firstMisjudged_35 rfl (lv_at hl 3 rfl) ?_
        refine r_ki (r_run_V (k := 8) (As := [.int x1, .int v3]) (rest := [.int r30]) hx hb hml hown hts hK hN hG (c_X3_hateOrSelf l y x1 v3 st30 _ hw) (by decide) rfl rfl rfl qM_X3_90 qI_X3_hateOrSelf qS_X3_hateOrSelf qN_X3 qC_X3_hateOrSelf hd_X3_hateOrSelf ⟨Nat.le_of_ble_eq_true rfl, Nat.le_of_ble_eq_true rfl⟩ hl.1 rfl (Nat.le_of_ble_eq_true rfl) dX3_firstMisjudged_36) hG (fun r36 st36 H locs hw hG => ?_)
        refine lv_icmp_eq (tgt := 44) hx hb dX3_firstMisjudged_39 (by decide) (fun hc => ?_) (fun hc => ?_)
        · replace hw := hw.1 hc
          refine lv_iinc (v := (v3 + 1)) (lv' := [(3, .int (v3 + 1)), (0, .ref (ad y 8)), (1, .int x1), (2, .ref (ad y 6))]) hx hb dX3_firstMisjudged_44 hl (k := 3) rfl rfl (Nat.le_of_ble_eq_true rfl) rfl (fun ls hl => ?_)
          refine lv_goto (tgt := 9) hx hb dX3_firstMisjudged_47 (by decide) ?_
          exact hc9 (v3 + 1) st36 H locs _ hG (lv_sub hl [1, 2, 3, 0] rfl) hw
        · replace hw := hw.2 hc
          refine lv_iload_n hx hb dX3_firstMisjudged_42 rfl (lv_at hl 3 rfl) ?_
          exact r_iret hx hb hr hlk hK hG rfl hw dX3_firstMisjudged_43
theorem hd_X3_firstMisjudged : yX3_firstMisjudged.cls ≠ "java/lang/invoke/MethodHandle" ∧ yX3_firstMisjudged.cls ≠ "java/lang/invoke/VarHandle" ∧ (parseMethodDescriptor yX3_firstMisjudged.desc).map (fun d => d.parameters.length) = some 2 := by decide +kernel
set_option maxRecDepth 100000 in
set_option maxHeartbeats 4000000 in
theorem c_X3_firstMisjudged (l : Launch) (y : Sy) (x1 : Int32) (st : St) (K : Int32 → St → Prop) (hw : w_X3_firstMisjudged x1 st K) : Ci 107 enX l yX3_firstMisjudged cX3_firstMisjudged 4 (some .int) 3 65 y [.ref (ad y 8), .int x1, .ref (ad y 6)] st K := by
  refine ent (by decide) (Nat.le_of_ble_eq_true rfl) ?_
  intro p e s m below meth c C hG ls hl
  have hl : lv_has ls 4 [(0, .ref (ad y 8)), (1, .int x1), (2, .ref (ad y 6))] := hl
  generalize ([.ref (ad y 8), .int x1, .ref (ad y 6)] : List Value).toArray = args at C ⊢
  have C : Sd p s m args meth c cX3_firstMisjudged 4 RX3 (some .int) y := C
  obtain ⟨hx, hb, hml, hown, hts, hr, hlk, hK, hN⟩ := id C
  generalize s.heap = H at hG ⊢
  generalize ([] : List Loc) = locs at hG ⊢
  unfold w_X3_firstMisjudged at hw
  refine lv_aload_n hx hb dX3_firstMisjudged_0 rfl (lv_at hl 2 rfl) ?_
  refine lv_ifnonnull (tgt := 7) hx hb dX3_firstMisjudged_1 (by decide) ?_
  refine lv_iconst (v := 0) hx hb dX3_firstMisjudged_7 (by decide) ?_
  refine lv_istore_n (lv' := [(3, .int 0), (0, .ref (ad y 8)), (1, .int x1), (2, .ref (ad y 6))]) hx hb dX3_firstMisjudged_8 rfl hl (Nat.le_of_ble_eq_true rfl) rfl (fun ls hl => ?_)
  obtain ⟨n9, hw⟩ := hw
  exact z_X3_firstMisjudged_L9 l y x1 C  K  n9 0 st H locs _ hG (lv_sub hl [1, 2, 3, 0] rfl) hw
theorem hd_X4_hateAfter : yX4_hateAfter.cls ≠ "java/lang/invoke/MethodHandle" ∧ yX4_hateAfter.cls ≠ "java/lang/invoke/VarHandle" ∧ (parseMethodDescriptor yX4_hateAfter.desc).map (fun d => d.parameters.length) = some 3 := by decide +kernel
set_option maxRecDepth 100000 in
set_option maxHeartbeats 4000000 in
theorem c_X4_hateAfter (l : Launch) (y : Sy) (x1 : Int32) (x2 : Int32) (x3 : Int32) (st : St) (K : Int32 → St → Prop) (hw : w_X4_hateAfter x1 x2 x3 st K) : Ci 107 enX l yX4_hateAfter cX4_hateAfter 4 (some .int) 5 117 y [.ref (ad y 10), .int x1, .int x2, .int x3] st K := by
  refine ent (by decide) (Nat.le_of_ble_eq_true rfl) ?_
  intro p e s m below meth c C hG ls hl
  have hl : lv_has ls 4 [(0, .ref (ad y 10)), (1, .int x1), (2, .int x2), (3, .int x3)] := hl
  generalize ([.ref (ad y 10), .int x1, .int x2, .int x3] : List Value).toArray = args at C ⊢
  have C : Sd p s m args meth c cX4_hateAfter 4 RX4 (some .int) y := C
  obtain ⟨hx, hb, hml, hown, hts, hr, hlk, hK, hN⟩ := id C
  generalize s.heap = H at hG ⊢
  generalize ([] : List Loc) = locs at hG ⊢
  unfold w_X4_hateAfter at hw
  refine lv_aload_n hx hb dX4_hateAfter_0 rfl (lv_at hl 0 rfl) ?_
  refine r_get (C := RX4) (T := TX4) (Nf := 2) hx hb hts hown hK hG (by decide) rfl rfl inX4 1 (by decide) qF_X4_12 rfl dX4_hateAfter_1 ?_
  refine lv_aload_n hx hb dX4_hateAfter_4 rfl (lv_at hl 0 rfl) ?_
  refine r_get (C := RX4) (T := TX4) (Nf := 2) hx hb hts hown hK hG (by decide) rfl rfl inX4 0 (by decide) qF_X4_18 rfl dX4_hateAfter_5 ?_
  refine r_kv (r_run_V (k := 99) (As := [.ref (ad y 11)]) (rest := []) hx hb hml hown hts hK hN hG (c_X1_become l y 99 isC_99 11 isC_11 st _ hw) (isC.lt isC_99) (isC.e isC_99 y _) rfl rfl qM_X4_21 qI_X1_become qS_X1_become qN_X1 qC_X1_become hd_X1_become ⟨Nat.le_of_ble_eq_true rfl, Nat.le_of_ble_eq_true rfl⟩ hl.1 rfl (Nat.le_of_ble_eq_true rfl) dX4_hateAfter_8) hG (fun st8 H locs hw hG => ?_)
  refine lv_aload_n hx hb dX4_hateAfter_11 rfl (lv_at hl 0 rfl) ?_
  refine r_get (C := RX4) (T := TX4) (Nf := 2) hx hb hts hown hK hG (by decide) rfl rfl inX4 1 (by decide) qF_X4_12 rfl dX4_hateAfter_12 ?_
  refine lv_iload_n hx hb dX4_hateAfter_15 rfl (lv_at hl 3 rfl) ?_
  refine r_ki (r_run_V (k := 99) (As := [.int x3]) (rest := []) hx hb hml hown hts hK hN hG (c_X1_passWeeks l y 99 isC_99 x3 st8 _ hw) (isC.lt isC_99) (isC.e isC_99 y _) rfl rfl qM_X4_25 qI_X1_passWeeks qS_X1_passWeeks qN_X1 qC_X1_passWeeks hd_X1_passWeeks ⟨Nat.le_of_ble_eq_true rfl, Nat.le_of_ble_eq_true rfl⟩ hl.1 rfl (Nat.le_of_ble_eq_true rfl) dX4_hateAfter_16) hG (fun r16 st16 H locs hw hG => ?_)
  refine lv_pop hx hb dX4_hateAfter_19 rfl ?_
  refine lv_aload_n hx hb dX4_hateAfter_20 rfl (lv_at hl 0 rfl) ?_
  refine r_get (C := RX4) (T := TX4) (Nf := 2) hx hb hts hown hK hG (by decide) rfl rfl inX4 1 (by decide) qF_X4_12 rfl dX4_hateAfter_21 ?_
  refine lv_iload_n hx hb dX4_hateAfter_24 rfl (lv_at hl 1 rfl) ?_
  refine lv_iload_n hx hb dX4_hateAfter_25 rfl (lv_at hl 2 rfl) ?_
  refine r_ki (r_run_V (k := 99) (As := [.int x1, .int x2]) (rest := []) hx hb hml hown hts hK hN hG (c_X1_hateOf l y 99 isC_99 x1 x2 st16 _ hw) (isC.lt isC_99) (isC.e isC_99 y _) rfl rfl qM_X4_29 qI_X1_hateOf qS_X1_hateOf qN_X1 qC_X1_hateOf hd_X1_hateOf ⟨Nat.le_of_ble_eq_true rfl, Nat.le_of_ble_eq_true rfl⟩ hl.1 rfl (Nat.le_of_ble_eq_true rfl) dX4_hateAfter_26) hG (fun r26 st26 H locs hw hG => ?_)
  exact r_iret hx hb hr hlk hK hG rfl hw dX4_hateAfter_29
theorem hd_X4_openBitsAfter : yX4_openBitsAfter.cls ≠ "java/lang/invoke/MethodHandle" ∧ yX4_openBitsAfter.cls ≠ "java/lang/invoke/VarHandle" ∧ (parseMethodDescriptor yX4_openBitsAfter.desc).map (fun d => d.parameters.length) = some 1 := by decide +kernel
set_option maxRecDepth 100000 in
set_option maxHeartbeats 4000000 in
theorem c_X4_openBitsAfter (l : Launch) (y : Sy) (x1 : Int32) (st : St) (K : Int32 → St → Prop) (hw : w_X4_openBitsAfter x1 st K) : Ci 107 enX l yX4_openBitsAfter cX4_openBitsAfter 2 (some .int) 5 117 y [.ref (ad y 10), .int x1] st K := by
  refine ent (by decide) (Nat.le_of_ble_eq_true rfl) ?_
  intro p e s m below meth c C hG ls hl
  have hl : lv_has ls 2 [(0, .ref (ad y 10)), (1, .int x1)] := hl
  generalize ([.ref (ad y 10), .int x1] : List Value).toArray = args at C ⊢
  have C : Sd p s m args meth c cX4_openBitsAfter 2 RX4 (some .int) y := C
  obtain ⟨hx, hb, hml, hown, hts, hr, hlk, hK, hN⟩ := id C
  generalize s.heap = H at hG ⊢
  generalize ([] : List Loc) = locs at hG ⊢
  unfold w_X4_openBitsAfter at hw
  refine lv_aload_n hx hb dX4_openBitsAfter_0 rfl (lv_at hl 0 rfl) ?_
  refine r_get (C := RX4) (T := TX4) (Nf := 2) hx hb hts hown hK hG (by decide) rfl rfl inX4 1 (by decide) qF_X4_12 rfl dX4_openBitsAfter_1 ?_
  refine lv_aload_n hx hb dX4_openBitsAfter_4 rfl (lv_at hl 0 rfl) ?_
  refine r_get (C := RX4) (T := TX4) (Nf := 2) hx hb hts hown hK hG (by decide) rfl rfl inX4 0 (by decide) qF_X4_18 rfl dX4_openBitsAfter_5 ?_
  refine r_kv (r_run_V (k := 99) (As := [.ref (ad y 11)]) (rest := []) hx hb hml hown hts hK hN hG (c_X1_become l y 99 isC_99 11 isC_11 st _ hw) (isC.lt isC_99) (isC.e isC_99 y _) rfl rfl qM_X4_21 qI_X1_become qS_X1_become qN_X1 qC_X1_become hd_X1_become ⟨Nat.le_of_ble_eq_true rfl, Nat.le_of_ble_eq_true rfl⟩ hl.1 rfl (Nat.le_of_ble_eq_true rfl) dX4_openBitsAfter_8) hG (fun st8 H locs hw hG => ?_)
  refine lv_aload_n hx hb dX4_openBitsAfter_11 rfl (lv_at hl 0 rfl) ?_
  refine r_get (C := RX4) (T := TX4) (Nf := 2) hx hb hts hown hK hG (by decide) rfl rfl inX4 1 (by decide) qF_X4_12 rfl dX4_openBitsAfter_12 ?_
  refine lv_iload_n hx hb dX4_openBitsAfter_15 rfl (lv_at hl 1 rfl) ?_
  refine r_ki (r_run_V (k := 99) (As := [.int x1]) (rest := []) hx hb hml hown hts hK hN hG (c_X1_passWeeks l y 99 isC_99 x1 st8 _ hw) (isC.lt isC_99) (isC.e isC_99 y _) rfl rfl qM_X4_25 qI_X1_passWeeks qS_X1_passWeeks qN_X1 qC_X1_passWeeks hd_X1_passWeeks ⟨Nat.le_of_ble_eq_true rfl, Nat.le_of_ble_eq_true rfl⟩ hl.1 rfl (Nat.le_of_ble_eq_true rfl) dX4_openBitsAfter_16) hG (fun r16 st16 H locs hw hG => ?_)
  refine lv_pop hx hb dX4_openBitsAfter_19 rfl ?_
  refine lv_aload_n hx hb dX4_openBitsAfter_20 rfl (lv_at hl 0 rfl) ?_
  refine r_get (C := RX4) (T := TX4) (Nf := 2) hx hb hts hown hK hG (by decide) rfl rfl inX4 1 (by decide) qF_X4_12 rfl dX4_openBitsAfter_21 ?_
  refine r_ki (r_run_V (k := 99) (As := []) (rest := []) hx hb hml hown hts hK hN hG (c_X1_openBits l y 99 isC_99 st16 _ hw) (isC.lt isC_99) (isC.e isC_99 y _) rfl rfl qM_X4_33 qI_X1_openBits qS_X1_openBits qN_X1 qC_X1_openBits hd_X1_openBits ⟨Nat.le_of_ble_eq_true rfl, Nat.le_of_ble_eq_true rfl⟩ hl.1 rfl (Nat.le_of_ble_eq_true rfl) dX4_openBitsAfter_24) hG (fun r24 st24 H locs hw hG => ?_)
  exact r_iret hx hb hr hlk hK hG rfl hw dX4_openBitsAfter_27
theorem hd_X4_allHateAfter : yX4_allHateAfter.cls ≠ "java/lang/invoke/MethodHandle" ∧ yX4_allHateAfter.cls ≠ "java/lang/invoke/VarHandle" ∧ (parseMethodDescriptor yX4_allHateAfter.desc).map (fun d => d.parameters.length) = some 1 := by decide +kernel
set_option maxRecDepth 100000 in
set_option maxHeartbeats 4000000 in
theorem c_X4_allHateAfter (l : Launch) (y : Sy) (x1 : Int32) (st : St) (K : Int32 → St → Prop) (hw : w_X4_allHateAfter x1 st K) : Ci 107 enX l yX4_allHateAfter cX4_allHateAfter 2 (some .int) 5 117 y [.ref (ad y 10), .int x1] st K := by
  refine ent (by decide) (Nat.le_of_ble_eq_true rfl) ?_
  intro p e s m below meth c C hG ls hl
  have hl : lv_has ls 2 [(0, .ref (ad y 10)), (1, .int x1)] := hl
  generalize ([.ref (ad y 10), .int x1] : List Value).toArray = args at C ⊢
  have C : Sd p s m args meth c cX4_allHateAfter 2 RX4 (some .int) y := C
  obtain ⟨hx, hb, hml, hown, hts, hr, hlk, hK, hN⟩ := id C
  generalize s.heap = H at hG ⊢
  generalize ([] : List Loc) = locs at hG ⊢
  unfold w_X4_allHateAfter at hw
  refine lv_aload_n hx hb dX4_allHateAfter_0 rfl (lv_at hl 0 rfl) ?_
  refine r_get (C := RX4) (T := TX4) (Nf := 2) hx hb hts hown hK hG (by decide) rfl rfl inX4 1 (by decide) qF_X4_12 rfl dX4_allHateAfter_1 ?_
  refine lv_aload_n hx hb dX4_allHateAfter_4 rfl (lv_at hl 0 rfl) ?_
  refine r_get (C := RX4) (T := TX4) (Nf := 2) hx hb hts hown hK hG (by decide) rfl rfl inX4 0 (by decide) qF_X4_18 rfl dX4_allHateAfter_5 ?_
  refine r_kv (r_run_V (k := 99) (As := [.ref (ad y 11)]) (rest := []) hx hb hml hown hts hK hN hG (c_X1_become l y 99 isC_99 11 isC_11 st _ hw) (isC.lt isC_99) (isC.e isC_99 y _) rfl rfl qM_X4_21 qI_X1_become qS_X1_become qN_X1 qC_X1_become hd_X1_become ⟨Nat.le_of_ble_eq_true rfl, Nat.le_of_ble_eq_true rfl⟩ hl.1 rfl (Nat.le_of_ble_eq_true rfl) dX4_allHateAfter_8) hG (fun st8 H locs hw hG => ?_)
  refine lv_aload_n hx hb dX4_allHateAfter_11 rfl (lv_at hl 0 rfl) ?_
  refine r_get (C := RX4) (T := TX4) (Nf := 2) hx hb hts hown hK hG (by decide) rfl rfl inX4 1 (by decide) qF_X4_12 rfl dX4_allHateAfter_12 ?_
  refine lv_iload_n hx hb dX4_allHateAfter_15 rfl (lv_at hl 1 rfl) ?_
  refine r_ki (r_run_V (k := 99) (As := [.int x1]) (rest := []) hx hb hml hown hts hK hN hG (c_X1_passWeeks l y 99 isC_99 x1 st8 _ hw) (isC.lt isC_99) (isC.e isC_99 y _) rfl rfl qM_X4_25 qI_X1_passWeeks qS_X1_passWeeks qN_X1 qC_X1_passWeeks hd_X1_passWeeks ⟨Nat.le_of_ble_eq_true rfl, Nat.le_of_ble_eq_true rfl⟩ hl.1 rfl (Nat.le_of_ble_eq_true rfl) dX4_allHateAfter_16) hG (fun r16 st16 H locs hw hG => ?_)
  refine lv_pop hx hb dX4_allHateAfter_19 rfl ?_
  refine lv_aload_n hx hb dX4_allHateAfter_20 rfl (lv_at hl 0 rfl) ?_
  refine r_get (C := RX4) (T := TX4) (Nf := 2) hx hb hts hown hK hG (by decide) rfl rfl inX4 1 (by decide) qF_X4_12 rfl dX4_allHateAfter_21 ?_
  refine r_ki (r_run_V (k := 99) (As := []) (rest := []) hx hb hml hown hts hK hN hG (c_X1_allHate l y 99 isC_99 st16 _ hw) (isC.lt isC_99) (isC.e isC_99 y _) rfl rfl qM_X4_37 qI_X1_allHate qS_X1_allHate qN_X1 qC_X1_allHate hd_X1_allHate ⟨Nat.le_of_ble_eq_true rfl, Nat.le_of_ble_eq_true rfl⟩ hl.1 rfl (Nat.le_of_ble_eq_true rfl) dX4_allHateAfter_24) hG (fun r24 st24 H locs hw hG => ?_)
  exact r_iret hx hb hr hlk hK hG rfl hw dX4_allHateAfter_27
set_option maxRecDepth 100000 in
set_option maxHeartbeats 4000000 in
theorem z_X4_weekOpened_L13 {p : Program} {e : Env} {s : State} {m : MethodId} {args : Array Value} {below : List Frame} {meth : Method} {c : Code} (l : Launch) (y : Sy) (x1 : Int32) (C : Sd p s m args meth c cX4_weekOpened 3 RX4 (some .int) y)  (K : Int32 → St → Prop)  : ∀ (n : Nat) (v2 : Int32) (st : St) (H : Heap) (locs : List Loc) (ls : Array Slot), gH 107 enX y st s H locs → lv_has ls 3 [(0, .ref (ad y 10)), (1, .int x1), (2, .int v2)] → w_X4_weekOpened_L13 x1  K n v2 st → W p l e (rmm 4 95) s m args below meth c H locs 0 0 (MQ below (va_Qi K (gB 107 enX y) (gA 107 y)) args s 0 0 (gA 107 y)) (F0 m 13 ls []) := by
  obtain ⟨hx, hb, hml, hown, hts, hr, hlk, hK, hN⟩ := id C
  intro n
  induction n with
  | zero => intro v2 st H locs ls hG hl hw; exact False.elim hw
  | succ n hc13 =>
    intro v2 st H locs ls hG hl hw
    have hw : w_X4_weekOpened_L13q x1  K (fun v2 st => w_X4_weekOpened_L13 x1  K n v2 st) v2 st := hw
    unfold w_X4_weekOpened_L13q at hw
    refine lv_iload_n hx hb dX4_weekOpened_13 rfl (lv_at hl 2 rfl) ?_
    refine lv_bipush (v := 60) hx hb dX4_weekOpened_14 (by decide) ?_
    refine lv_icmp_gt (tgt := 46) hx hb dX4_weekOpened_16 (by decide) (fun hc => ?_) (fun hc => ?_)
    · replace hw := hw.1 hc
      refine lv_bipush (v := (-9)) hx hb dX4_weekOpened_46 (by decide) ?_
      exact r_iret hx hb hr hlk hK hG rfl hw dX4_weekOpened_48
    · replace hw := hw.2 hc
      refine lv_aload_n hx hb dX4_weekOpened_19 rfl (lv_at hl 0 rfl) ?_
      refine r_get (C := RX4) (T := TX4) (Nf := 2) hx hb hts hown hK hG (by decide) rfl rfl inX4 1 (by decide) qF_X4_12 rfl dX4_weekOpened_20 ?_
      refine lv_iload_n hx hb dX4_weekOpened_23 rfl (lv_at hl 1 rfl) ?_
      refine r_ki (r_run_V (k := 99) (As := [.int x1]) (rest := []) hx hb hml hown hts hK hN hG (c_X1_isOpen l y 99 isC_99 x1 st _ hw) (isC.lt isC_99) (isC.e isC_99 y _) rfl rfl qM_X4_40 qI_X1_isOpen qS_X1_isOpen qN_X1 qC_X1_isOpen hd_X1_isOpen ⟨Nat.le_of_ble_eq_true rfl, Nat.le_of_ble_eq_true rfl⟩ hl.1 rfl (Nat.le_of_ble_eq_true rfl) dX4_weekOpened_24) hG (fun r24 st24 H locs hw hG => ?_)
      refine lv_if_eq (tgt := 32) hx hb dX4_weekOpened_27 (by decide) (fun hc => ?_) (fun hc => ?_)
      · replace hw := hw.1 hc
        refine lv_aload_n hx hb dX4_weekOpened_32 rfl (lv_at hl 0 rfl) ?_
        refine r_get (C := RX4) (T := TX4) (Nf := 2) hx hb hts hown hK hG (by decide) rfl rfl inX4 1 (by decide) qF_X4_12 rfl dX4_weekOpened_33 ?_
        refine r_ki (r_run_V (k := 99) (As := []) (rest := []) hx hb hml hown hts hK hN hG (c_X1_passWeek l y 99 isC_99 st24 _ hw) (isC.lt isC_99) (isC.e isC_99 y _) rfl rfl qM_X4_44 qI_X1_passWeek qS_X1_passWeek qN_X1 qC_X1_passWeek hd_X1_passWeek ⟨Nat.le_of_ble_eq_true rfl, Nat.le_of_ble_eq_true rfl⟩ hl.1 rfl (Nat.le_of_ble_eq_true rfl) dX4_weekOpened_36) hG (fun r36 st36 H locs hw hG => ?_)
        refine lv_pop hx hb dX4_weekOpened_39 rfl ?_
        refine lv_iinc (v := (v2 + 1)) (lv' := [(2, .int (v2 + 1)), (0, .ref (ad y 10)), (1, .int x1)]) hx hb dX4_weekOpened_40 hl (k := 2) rfl rfl (Nat.le_of_ble_eq_true rfl) rfl (fun ls hl => ?_)
        refine lv_goto (tgt := 13) hx hb dX4_weekOpened_43 (by decide) ?_
        exact hc13 (v2 + 1) st36 H locs _ hG (lv_sub hl [1, 2, 0] rfl) hw
      · replace hw := hw.2 hc
        refine lv_iload_n hx hb dX4_weekOpened_30 rfl (lv_at hl 2 rfl) ?_
        exact r_iret hx hb hr hlk hK hG rfl hw dX4_weekOpened_31
theorem hd_X4_weekOpened : yX4_weekOpened.cls ≠ "java/lang/invoke/MethodHandle" ∧ yX4_weekOpened.cls ≠ "java/lang/invoke/VarHandle" ∧ (parseMethodDescriptor yX4_weekOpened.desc).map (fun d => d.parameters.length) = some 1 := by decide +kernel
set_option maxRecDepth 100000 in
set_option maxHeartbeats 4000000 in
theorem c_X4_weekOpened (l : Launch) (y : Sy) (x1 : Int32) (st : St) (K : Int32 → St → Prop) (hw : w_X4_weekOpened x1 st K) : Ci 107 enX l yX4_weekOpened cX4_weekOpened 3 (some .int) 4 95 y [.ref (ad y 10), .int x1] st K := by
  refine ent (by decide) (Nat.le_of_ble_eq_true rfl) ?_
  intro p e s m below meth c C hG ls hl
  have hl : lv_has ls 3 [(0, .ref (ad y 10)), (1, .int x1)] := hl
  generalize ([.ref (ad y 10), .int x1] : List Value).toArray = args at C ⊢
  have C : Sd p s m args meth c cX4_weekOpened 3 RX4 (some .int) y := C
  obtain ⟨hx, hb, hml, hown, hts, hr, hlk, hK, hN⟩ := id C
  generalize s.heap = H at hG ⊢
  generalize ([] : List Loc) = locs at hG ⊢
  unfold w_X4_weekOpened at hw
  refine lv_aload_n hx hb dX4_weekOpened_0 rfl (lv_at hl 0 rfl) ?_
  refine r_get (C := RX4) (T := TX4) (Nf := 2) hx hb hts hown hK hG (by decide) rfl rfl inX4 1 (by decide) qF_X4_12 rfl dX4_weekOpened_1 ?_
  refine lv_aload_n hx hb dX4_weekOpened_4 rfl (lv_at hl 0 rfl) ?_
  refine r_get (C := RX4) (T := TX4) (Nf := 2) hx hb hts hown hK hG (by decide) rfl rfl inX4 0 (by decide) qF_X4_18 rfl dX4_weekOpened_5 ?_
  refine r_kv (r_run_V (k := 99) (As := [.ref (ad y 11)]) (rest := []) hx hb hml hown hts hK hN hG (c_X1_become l y 99 isC_99 11 isC_11 st _ hw) (isC.lt isC_99) (isC.e isC_99 y _) rfl rfl qM_X4_21 qI_X1_become qS_X1_become qN_X1 qC_X1_become hd_X1_become ⟨Nat.le_of_ble_eq_true rfl, Nat.le_of_ble_eq_true rfl⟩ hl.1 rfl (Nat.le_of_ble_eq_true rfl) dX4_weekOpened_8) hG (fun st8 H locs hw hG => ?_)
  refine lv_iconst (v := 0) hx hb dX4_weekOpened_11 (by decide) ?_
  refine lv_istore_n (lv' := [(2, .int 0), (0, .ref (ad y 10)), (1, .int x1)]) hx hb dX4_weekOpened_12 rfl hl (Nat.le_of_ble_eq_true rfl) rfl (fun ls hl => ?_)
  obtain ⟨n13, hw⟩ := hw
  exact z_X4_weekOpened_L13 l y x1 C  K  n13 0 st8 H locs _ hG (lv_sub hl [1, 2, 0] rfl) hw
