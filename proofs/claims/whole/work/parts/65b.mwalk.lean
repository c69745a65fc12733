set_option maxRecDepth 100000 in
set_option maxHeartbeats 4000000 in
theorem z_X9_goesOn_L2 {p : Program} {e : Env} {s : State} {m : MethodId} {args : Array Value} {below : List Frame} {meth : Method} {c : Code} (l : Launch) (y : Sy) (x1 : Int32) (C : Sd p s m args meth c cX9_goesOn 3 RX9 none y)  (K : St → Prop)  : ∀ (n : Nat) (v2 : Int32) (st : St) (H : Heap) (locs : List Loc) (ls : Array Slot), gH 17 enM y st s H locs → lv_has ls 3 [(0, .ref (ad y 0)), (1, .int x1), (2, .int v2)] → w_X9_goesOn_L2 x1  K n v2 st → W p l e (rmm 4 93) s m args below meth c H locs 0 0 (MQ below (va_Qv K (gB 17 enM y) (gA 17 y)) args s 0 0 (gA 17 y)) (F0 m 2 ls []) := by
  obtain ⟨hx, hb, hml, hown, hts, hr, hlk, hK, hN⟩ := id C
  intro n
  induction n with
  | zero => intro v2 st H locs ls hG hl hw; exact False.elim hw
  | succ n hc2 =>
    intro v2 st H locs ls hG hl hw
    have hw : w_X9_goesOn_L2q x1  K (fun v2 st => w_X9_goesOn_L2 x1  K n v2 st) v2 st := hw
    unfold w_X9_goesOn_L2q at hw
    refine lv_iload_n hx hb dX9_goesOn_2 rfl (lv_at hl 2 rfl) ?_
    refine lv_iload_n hx hb dX9_goesOn_3 rfl (lv_at hl 1 rfl) ?_
    refine lv_icmp_ge (tgt := 17) hx hb dX9_goesOn_4 (by decide) (fun hc => ?_) (fun hc => ?_)
    · replace hw := hw.1 hc
      exact r_vret hx hb hr hlk hK hG hw dX9_goesOn_17
    · replace hw := hw.2 hc
      refine lv_aload_n hx hb dX9_goesOn_7 rfl (lv_at hl 0 rfl) ?_
      refine r_kv (r_run_V (k := 0) (As := []) (rest := []) hx hb hml hown hts hK hN hG (c_X9_goesWeek l y  st _ hw) (by decide) rfl rfl rfl qM_X9_202 qI_X9_goesWeek qS_X9_goesWeek qN_X9 qC_X9_goesWeek hd_X9_goesWeek ⟨Nat.le_of_ble_eq_true rfl, Nat.le_of_ble_eq_true rfl⟩ hl.1 rfl (Nat.le_of_ble_eq_true rfl) dX9_goesOn_8) hG (fun st8 H locs hw hG => ?_)
      refine lv_iinc (v := (v2 + 1)) (lv' := [(2, .int (v2 + 1)), (0, .ref (ad y 0)), (1, .int x1)]) hx hb dX9_goesOn_11 hl (k := 2) rfl rfl (Nat.le_of_ble_eq_true rfl) rfl (fun ls hl => ?_)
      refine lv_goto (tgt := 2) hx hb dX9_goesOn_14 (by decide) ?_
      exact hc2 (v2 + 1) st8 H locs _ hG (lv_sub hl [1, 2, 0] rfl) hw
theorem hd_X9_goesOn : yX9_goesOn.cls ≠ "java/lang/invoke/MethodHandle" ∧ yX9_goesOn.cls ≠ "java/lang/invoke/VarHandle" ∧ (parseMethodDescriptor yX9_goesOn.desc).map (fun d => d.parameters.length) = some 1 := by decide +kernel
set_option maxRecDepth 100000 in
set_option maxHeartbeats 4000000 in
theorem c_X9_goesOn (l : Launch) (y : Sy) (x1 : Int32) (st : St) (K : St → Prop) (hw : w_X9_goesOn x1 st K) : Cv 17 enM l yX9_goesOn cX9_goesOn 3 none 4 93 y [.ref (ad y 0), .int x1] st K := by
  refine ent (by decide) (Nat.le_of_ble_eq_true rfl) ?_
  intro p e s m below meth c C hG ls hl
  have hl : lv_has ls 3 [(0, .ref (ad y 0)), (1, .int x1)] := hl
  generalize ([.ref (ad y 0), .int x1] : List Value).toArray = args at C ⊢
  have C : Sd p s m args meth c cX9_goesOn 3 RX9 none y := C
  obtain ⟨hx, hb, hml, hown, hts, hr, hlk, hK, hN⟩ := id C
  generalize s.heap = H at hG ⊢
  generalize ([] : List Loc) = locs at hG ⊢
  unfold w_X9_goesOn at hw
  refine lv_iconst (v := 0) hx hb dX9_goesOn_0 (by decide) ?_
  refine lv_istore_n (lv' := [(2, .int 0), (0, .ref (ad y 0)), (1, .int x1)]) hx hb dX9_goesOn_1 rfl hl (Nat.le_of_ble_eq_true rfl) rfl (fun ls hl => ?_)
  obtain ⟨n2, hw⟩ := hw
  exact z_X9_goesOn_L2 l y x1 C  K  n2 0 st H locs _ hG (lv_sub hl [1, 2, 0] rfl) hw
theorem hd_X9_comesWeeks : yX9_comesWeeks.cls ≠ "java/lang/invoke/MethodHandle" ∧ yX9_comesWeeks.cls ≠ "java/lang/invoke/VarHandle" ∧ (parseMethodDescriptor yX9_comesWeeks.desc).map (fun d => d.parameters.length) = some 1 := by decide +kernel
set_option maxRecDepth 100000 in
set_option maxHeartbeats 4000000 in
theorem c_X9_comesWeeks (l : Launch) (y : Sy) (x1 : Int32) (st : St) (K : Int32 → St → Prop) (hw : w_X9_comesWeeks x1 st K) : Ci 17 enM l yX9_comesWeeks cX9_comesWeeks 2 (some .boolean) 5 115 y [.ref (ad y 0), .int x1] st K := by
  refine ent (by decide) (Nat.le_of_ble_eq_true rfl) ?_
  intro p e s m below meth c C hG ls hl
  have hl : lv_has ls 2 [(0, .ref (ad y 0)), (1, .int x1)] := hl
  generalize ([.ref (ad y 0), .int x1] : List Value).toArray = args at C ⊢
  have C : Sd p s m args meth c cX9_comesWeeks 2 RX9 (some .boolean) y := C
  obtain ⟨hx, hb, hml, hown, hts, hr, hlk, hK, hN⟩ := id C
  generalize s.heap = H at hG ⊢
  generalize ([] : List Loc) = locs at hG ⊢
  unfold w_X9_comesWeeks at hw
  refine lv_iload_n hx hb dX9_comesWeeks_0 rfl (lv_at hl 1 rfl) ?_
  refine lv_iconst (v := 1) hx hb dX9_comesWeeks_1 (by decide) ?_
  refine lv_bipush (v := 60) hx hb dX9_comesWeeks_2 (by decide) ?_
  refine r_ki (r_run_S (As := [.int x1, .int 1, .int 60]) (rest := []) hx hb hml hown hts hK hN hG (c_X9_isIn l y x1 1 60 st _ hw) qM_X9_90 qT_X9_isIn qN_X9 qC_X9_isIn hd_X9_isIn ⟨Nat.le_of_ble_eq_true rfl, Nat.le_of_ble_eq_true rfl⟩ hl.1 rfl (Nat.le_of_ble_eq_true rfl) dX9_comesWeeks_4) hG (fun r4 st4 H locs hw hG => ?_)
  refine lv_if_eq (tgt := 22) hx hb dX9_comesWeeks_7 (by decide) (fun hc => ?_) (fun hc => ?_)
  · replace hw := hw.1 hc
    refine lv_iconst (v := 0) hx hb dX9_comesWeeks_22 (by decide) ?_
    exact r_iret hx hb hr hlk hK hG rfl hw dX9_comesWeeks_23
  · replace hw := hw.2 hc
    refine lv_aload_n hx hb dX9_comesWeeks_10 rfl (lv_at hl 0 rfl) ?_
    refine r_get (C := RX9) (T := TX9) (Nf := 31) hx hb hts hown hK hG (by decide) rfl rfl inX9 10 (by decide) qF_X9_115 rfl dX9_comesWeeks_11 ?_
    refine lv_iload_n hx hb dX9_comesWeeks_14 rfl (lv_at hl 1 rfl) ?_
    refine lv_iadd hx hb dX9_comesWeeks_15 ?_
    refine lv_sipush (v := 999) hx hb dX9_comesWeeks_16 (by decide) ?_
    refine lv_icmp_le (tgt := 24) hx hb dX9_comesWeeks_19 (by decide) (fun hc => ?_) (fun hc => ?_)
    · replace hw := hw.1 hc
      refine lv_aload_n hx hb dX9_comesWeeks_24 rfl (lv_at hl 0 rfl) ?_
      refine lv_iload_n hx hb dX9_comesWeeks_25 rfl (lv_at hl 1 rfl) ?_
      refine r_kv (r_run_V (k := 0) (As := [.int x1]) (rest := []) hx hb hml hown hts hK hN hG (c_X9_goesOn l y x1 st4 _ hw) (by decide) rfl rfl rfl qM_X9_118 qI_X9_goesOn qS_X9_goesOn qN_X9 qC_X9_goesOn hd_X9_goesOn ⟨Nat.le_of_ble_eq_true rfl, Nat.le_of_ble_eq_true rfl⟩ hl.1 rfl (Nat.le_of_ble_eq_true rfl) dX9_comesWeeks_26) hG (fun st26 H locs hw hG => ?_)
      refine lv_iconst (v := 1) hx hb dX9_comesWeeks_29 (by decide) ?_
      exact r_iret hx hb hr hlk hK hG rfl hw dX9_comesWeeks_30
    · replace hw := hw.2 hc
      refine lv_iconst (v := 0) hx hb dX9_comesWeeks_22 (by decide) ?_
      exact r_iret hx hb hr hlk hK hG rfl hw dX9_comesWeeks_23
theorem hd_X9_comes : yX9_comes.cls ≠ "java/lang/invoke/MethodHandle" ∧ yX9_comes.cls ≠ "java/lang/invoke/VarHandle" ∧ (parseMethodDescriptor yX9_comes.desc).map (fun d => d.parameters.length) = some 1 := by decide +kernel
set_option maxRecDepth 100000 in
set_option maxHeartbeats 4000000 in
theorem c_X9_comes (l : Launch) (y : Sy) (x1 : Int32) (st : St) (K : Int32 → St → Prop) (hw : w_X9_comes x1 st K) : Ci 17 enM l yX9_comes cX9_comes 3 (some .boolean) 6 136 y [.ref (ad y 0), .int x1] st K := by
  refine ent (by decide) (Nat.le_of_ble_eq_true rfl) ?_
  intro p e s m below meth c C hG ls hl
  have hl : lv_has ls 3 [(0, .ref (ad y 0)), (1, .int x1)] := hl
  generalize ([.ref (ad y 0), .int x1] : List Value).toArray = args at C ⊢
  have C : Sd p s m args meth c cX9_comes 3 RX9 (some .boolean) y := C
  obtain ⟨hx, hb, hml, hown, hts, hr, hlk, hK, hN⟩ := id C
  generalize s.heap = H at hG ⊢
  generalize ([] : List Loc) = locs at hG ⊢
  unfold w_X9_comes at hw
  refine lv_iconst (v := 3) hx hb dX9_comes_0 (by decide) ?_
  refine lv_iload_n hx hb dX9_comes_1 rfl (lv_at hl 1 rfl) ?_
  refine lv_imul hx hb dX9_comes_2 ?_
  refine lv_istore_n (lv' := [(2, .int (3 * x1)), (0, .ref (ad y 0)), (1, .int x1)]) hx hb dX9_comes_3 rfl hl (Nat.le_of_ble_eq_true rfl) rfl (fun ls hl => ?_)
  refine lv_aload_n hx hb dX9_comes_4 rfl (lv_at hl 1 rfl) ?_
  refine r_get (C := RX9) (T := TX9) (Nf := 31) hx hb hts hown hK hG (by decide) rfl rfl inX9 13 (by decide) qF_X9_37 rfl dX9_comes_5 ?_
  refine lv_iload_n hx hb dX9_comes_8 rfl (lv_at hl 2 rfl) ?_
  obtain ⟨hi, hw⟩ := hw
  refine r_iald hx hb hK hG (isB_10).1 ((isB_10).2 y _) hi dX9_comes_9 ?_
  by_cases g103 : (st 10 (x1).toNatClampNeg) = 103
  · replace hw := hw.1 g103
    refine r_tabin (v := 103) (tgt := 173) hx hb dX9_comes_10 g103 (by decide) (by decide) rfl (by decide) ?_
    refine lv_aload_n hx hb dX9_comes_173 rfl (lv_at hl 1 rfl) ?_
    refine lv_aload_n hx hb dX9_comes_174 rfl (lv_at hl 1 rfl) ?_
    refine r_get (C := RX9) (T := TX9) (Nf := 31) hx hb hts hown hK hG (by decide) rfl rfl inX9 15 (by decide) qF_X9_43 rfl dX9_comes_175 ?_
    refine lv_iload_n hx hb dX9_comes_178 rfl (lv_at hl 0 rfl) ?_
    obtain ⟨hi, hw⟩ := hw
    refine r_iald hx hb hK hG (isB_12).1 ((isB_12).2 y _) hi dX9_comes_179 ?_
    refine r_ki (r_run_V (k := 0) (As := [.int (st 12 ((3 * x1)).toNatClampNeg)]) (rest := []) hx hb hml hown hts hK hN hG (c_X9_isKeeper l y (st 12 ((3 * x1)).toNatClampNeg) st _ hw) (by decide) rfl rfl rfl qM_X9_68 qI_X9_isKeeper qS_X9_isKeeper qN_X9 qC_X9_isKeeper hd_X9_isKeeper ⟨Nat.le_of_ble_eq_true rfl, Nat.le_of_ble_eq_true rfl⟩ hl.1 rfl (Nat.le_of_ble_eq_true rfl) dX9_comes_180) hG (fun r180 st180 H locs hw hG => ?_)
    refine lv_if_eq (tgt := 200) hx hb dX9_comes_183 (by decide) (fun hc => ?_) (fun hc => ?_)
    · replace hw := hw.1 hc
      refine lv_iconst (v := 0) hx hb dX9_comes_200 (by decide) ?_
      exact r_iret hx hb hr hlk hK hG rfl hw dX9_comes_201
    · replace hw := hw.2 hc
      refine lv_aload_n hx hb dX9_comes_186 rfl (lv_at hl 1 rfl) ?_
      refine r_get (C := RX9) (T := TX9) (Nf := 31) hx hb hts hown hK hG (by decide) rfl rfl inX9 15 (by decide) qF_X9_43 rfl dX9_comes_187 ?_
      refine lv_iload_n hx hb dX9_comes_190 rfl (lv_at hl 0 rfl) ?_
      refine lv_iconst (v := 1) hx hb dX9_comes_191 (by decide) ?_
      refine lv_iadd hx hb dX9_comes_192 ?_
      obtain ⟨hi, hw⟩ := hw
      refine r_iald hx hb hK hG (isB_12).1 ((isB_12).2 y _) hi dX9_comes_193 ?_
      refine r_ki (r_run_S (As := [.int (st180 12 (((3 * x1) + 1)).toNatClampNeg)]) (rest := []) hx hb hml hown hts hK hN hG (c_X9_isTown l y (st180 12 (((3 * x1) + 1)).toNatClampNeg) st180 _ hw) qM_X9_104 qT_X9_isTown qN_X9 qC_X9_isTown hd_X9_isTown ⟨Nat.le_of_ble_eq_true rfl, Nat.le_of_ble_eq_true rfl⟩ hl.1 rfl (Nat.le_of_ble_eq_true rfl) dX9_comes_194) hG (fun r194 st194 H locs hw hG => ?_)
      refine lv_if_ne (tgt := 202) hx hb dX9_comes_197 (by decide) (fun hc => ?_) (fun hc => ?_)
      · replace hw := hw.1 hc
        refine lv_aload_n hx hb dX9_comes_202 rfl (lv_at hl 1 rfl) ?_
        refine r_get (C := RX9) (T := TX9) (Nf := 31) hx hb hts hown hK hG (by decide) rfl rfl inX9 3 (by decide) qF_X9_19 rfl dX9_comes_203 ?_
        refine lv_aload_n hx hb dX9_comes_206 rfl (lv_at hl 1 rfl) ?_
        refine r_get (C := RX9) (T := TX9) (Nf := 31) hx hb hts hown hK hG (by decide) rfl rfl inX9 15 (by decide) qF_X9_43 rfl dX9_comes_207 ?_
        refine lv_iload_n hx hb dX9_comes_210 rfl (lv_at hl 0 rfl) ?_
        obtain ⟨hi, hw⟩ := hw
        refine r_iald hx hb hK hG (isB_12).1 ((isB_12).2 y _) hi dX9_comes_211 ?_
        refine lv_aload_n hx hb dX9_comes_212 rfl (lv_at hl 1 rfl) ?_
        refine r_get (C := RX9) (T := TX9) (Nf := 31) hx hb hts hown hK hG (by decide) rfl rfl inX9 15 (by decide) qF_X9_43 rfl dX9_comes_213 ?_
        refine lv_iload_n hx hb dX9_comes_216 rfl (lv_at hl 0 rfl) ?_
        refine lv_iconst (v := 1) hx hb dX9_comes_217 (by decide) ?_
        refine lv_iadd hx hb dX9_comes_218 ?_
        obtain ⟨hi, hw⟩ := hw
        refine r_iald hx hb hK hG (isB_12).1 ((isB_12).2 y _) hi dX9_comes_219 ?_
        obtain ⟨hi, hw⟩ := hw
        refine r_iast hx hb hK hG (isB_4).1 (fun f => (isB_4).2 y f) hi dX9_comes_220 (fun H locs hG => ?_)
        refine lv_iconst (v := 1) hx hb dX9_comes_221 (by decide) ?_
        exact r_iret hx hb hr hlk hK hG rfl hw dX9_comes_222
      · replace hw := hw.2 hc
        refine lv_iconst (v := 0) hx hb dX9_comes_200 (by decide) ?_
        exact r_iret hx hb hr hlk hK hG rfl hw dX9_comes_201
  replace hw := hw.2 g103
  by_cases g104 : (st 10 (x1).toNatClampNeg) = 104
  · replace hw := hw.1 g104
    refine r_tabin (v := 104) (tgt := 103) hx hb dX9_comes_10 g104 (by decide) (by decide) rfl (by decide) ?_
    refine lv_aload_n hx hb dX9_comes_103 rfl (lv_at hl 1 rfl) ?_
    refine lv_aload_n hx hb dX9_comes_104 rfl (lv_at hl 1 rfl) ?_
    refine r_get (C := RX9) (T := TX9) (Nf := 31) hx hb hts hown hK hG (by decide) rfl rfl inX9 15 (by decide) qF_X9_43 rfl dX9_comes_105 ?_
    refine lv_iload_n hx hb dX9_comes_108 rfl (lv_at hl 0 rfl) ?_
    obtain ⟨hi, hw⟩ := hw
    refine r_iald hx hb hK hG (isB_12).1 ((isB_12).2 y _) hi dX9_comes_109 ?_
    refine lv_aload_n hx hb dX9_comes_110 rfl (lv_at hl 1 rfl) ?_
    refine r_get (C := RX9) (T := TX9) (Nf := 31) hx hb hts hown hK hG (by decide) rfl rfl inX9 15 (by decide) qF_X9_43 rfl dX9_comes_111 ?_
    refine lv_iload_n hx hb dX9_comes_114 rfl (lv_at hl 0 rfl) ?_
    refine lv_iconst (v := 1) hx hb dX9_comes_115 (by decide) ?_
    refine lv_iadd hx hb dX9_comes_116 ?_
    obtain ⟨hi, hw⟩ := hw
    refine r_iald hx hb hK hG (isB_12).1 ((isB_12).2 y _) hi dX9_comes_117 ?_
    refine r_ki (r_run_V (k := 0) (As := [.int (st 12 ((3 * x1)).toNatClampNeg), .int (st 12 (((3 * x1) + 1)).toNatClampNeg)]) (rest := []) hx hb hml hown hts hK hN hG (c_X9_areTwo l y (st 12 ((3 * x1)).toNatClampNeg) (st 12 (((3 * x1) + 1)).toNatClampNeg) st _ hw) (by decide) rfl rfl rfl qM_X9_125 qI_X9_areTwo qS_X9_areTwo qN_X9 qC_X9_areTwo hd_X9_areTwo ⟨Nat.le_of_ble_eq_true rfl, Nat.le_of_ble_eq_true rfl⟩ hl.1 rfl (Nat.le_of_ble_eq_true rfl) dX9_comes_118) hG (fun r118 st118 H locs hw hG => ?_)
    refine lv_if_ne (tgt := 126) hx hb dX9_comes_121 (by decide) (fun hc => ?_) (fun hc => ?_)
    · replace hw := hw.1 hc
      refine lv_aload_n hx hb dX9_comes_126 rfl (lv_at hl 1 rfl) ?_
      refine lv_aload_n hx hb dX9_comes_127 rfl (lv_at hl 1 rfl) ?_
      refine r_get (C := RX9) (T := TX9) (Nf := 31) hx hb hts hown hK hG (by decide) rfl rfl inX9 15 (by decide) qF_X9_43 rfl dX9_comes_128 ?_
      refine lv_iload_n hx hb dX9_comes_131 rfl (lv_at hl 0 rfl) ?_
      obtain ⟨hi, hw⟩ := hw
      refine r_iald hx hb hK hG (isB_12).1 ((isB_12).2 y _) hi dX9_comes_132 ?_
      refine lv_aload_n hx hb dX9_comes_133 rfl (lv_at hl 1 rfl) ?_
      refine r_get (C := RX9) (T := TX9) (Nf := 31) hx hb hts hown hK hG (by decide) rfl rfl inX9 15 (by decide) qF_X9_43 rfl dX9_comes_134 ?_
      refine lv_iload_n hx hb dX9_comes_137 rfl (lv_at hl 0 rfl) ?_
      refine lv_iconst (v := 1) hx hb dX9_comes_138 (by decide) ?_
      refine lv_iadd hx hb dX9_comes_139 ?_
      obtain ⟨hi, hw⟩ := hw
      refine r_iald hx hb hK hG (isB_12).1 ((isB_12).2 y _) hi dX9_comes_140 ?_
      refine lv_aload_n hx hb dX9_comes_141 rfl (lv_at hl 1 rfl) ?_
      refine r_get (C := RX9) (T := TX9) (Nf := 31) hx hb hts hown hK hG (by decide) rfl rfl inX9 15 (by decide) qF_X9_43 rfl dX9_comes_142 ?_
      refine lv_iload_n hx hb dX9_comes_145 rfl (lv_at hl 0 rfl) ?_
      refine lv_iconst (v := 2) hx hb dX9_comes_146 (by decide) ?_
      refine lv_iadd hx hb dX9_comes_147 ?_
      obtain ⟨hi, hw⟩ := hw
      refine r_iald hx hb hK hG (isB_12).1 ((isB_12).2 y _) hi dX9_comes_148 ?_
      refine r_kv (r_run_V (k := 0) (As := [.int (st118 12 ((3 * x1)).toNatClampNeg), .int (st118 12 (((3 * x1) + 1)).toNatClampNeg), .int (st118 12 (((3 * x1) + 2)).toNatClampNeg)]) (rest := []) hx hb hml hown hts hK hN hG (c_X9_sets l y (st118 12 ((3 * x1)).toNatClampNeg) (st118 12 (((3 * x1) + 1)).toNatClampNeg) (st118 12 (((3 * x1) + 2)).toNatClampNeg) st118 _ hw) (by decide) rfl rfl rfl qM_X9_128 qI_X9_sets qS_X9_sets qN_X9 qC_X9_sets hd_X9_sets ⟨Nat.le_of_ble_eq_true rfl, Nat.le_of_ble_eq_true rfl⟩ hl.1 rfl (Nat.le_of_ble_eq_true rfl) dX9_comes_149) hG (fun st149 H locs hw hG => ?_)
      refine lv_iconst (v := 1) hx hb dX9_comes_152 (by decide) ?_
      exact r_iret hx hb hr hlk hK hG rfl hw dX9_comes_153
    · replace hw := hw.2 hc
      refine lv_iconst (v := 0) hx hb dX9_comes_124 (by decide) ?_
      exact r_iret hx hb hr hlk hK hG rfl hw dX9_comes_125
  replace hw := hw.2 g104
  by_cases g107 : (st 10 (x1).toNatClampNeg) = 107
  · replace hw := hw.1 g107
    refine r_tabin (v := 107) (tgt := 76) hx hb dX9_comes_10 g107 (by decide) (by decide) rfl (by decide) ?_
    refine lv_aload_n hx hb dX9_comes_76 rfl (lv_at hl 1 rfl) ?_
    refine lv_aload_n hx hb dX9_comes_77 rfl (lv_at hl 1 rfl) ?_
    refine r_get (C := RX9) (T := TX9) (Nf := 31) hx hb hts hown hK hG (by decide) rfl rfl inX9 15 (by decide) qF_X9_43 rfl dX9_comes_78 ?_
    refine lv_iload_n hx hb dX9_comes_81 rfl (lv_at hl 0 rfl) ?_
    obtain ⟨hi, hw⟩ := hw
    refine r_iald hx hb hK hG (isB_12).1 ((isB_12).2 y _) hi dX9_comes_82 ?_
    refine lv_aload_n hx hb dX9_comes_83 rfl (lv_at hl 1 rfl) ?_
    refine r_get (C := RX9) (T := TX9) (Nf := 31) hx hb hts hown hK hG (by decide) rfl rfl inX9 15 (by decide) qF_X9_43 rfl dX9_comes_84 ?_
    refine lv_iload_n hx hb dX9_comes_87 rfl (lv_at hl 0 rfl) ?_
    refine lv_iconst (v := 1) hx hb dX9_comes_88 (by decide) ?_
    refine lv_iadd hx hb dX9_comes_89 ?_
    obtain ⟨hi, hw⟩ := hw
    refine r_iald hx hb hK hG (isB_12).1 ((isB_12).2 y _) hi dX9_comes_90 ?_
    refine lv_aload_n hx hb dX9_comes_91 rfl (lv_at hl 1 rfl) ?_
    refine r_get (C := RX9) (T := TX9) (Nf := 31) hx hb hts hown hK hG (by decide) rfl rfl inX9 15 (by decide) qF_X9_43 rfl dX9_comes_92 ?_
    refine lv_iload_n hx hb dX9_comes_95 rfl (lv_at hl 0 rfl) ?_
    refine lv_iconst (v := 2) hx hb dX9_comes_96 (by decide) ?_
    refine lv_iadd hx hb dX9_comes_97 ?_
    obtain ⟨hi, hw⟩ := hw
    refine r_iald hx hb hK hG (isB_12).1 ((isB_12).2 y _) hi dX9_comes_98 ?_
    refine r_ki (r_run_V (k := 0) (As := [.int (st 12 ((3 * x1)).toNatClampNeg), .int (st 12 (((3 * x1) + 1)).toNatClampNeg), .int (st 12 (((3 * x1) + 2)).toNatClampNeg)]) (rest := []) hx hb hml hown hts hK hN hG (c_X9_comesKeeper l y (st 12 ((3 * x1)).toNatClampNeg) (st 12 (((3 * x1) + 1)).toNatClampNeg) (st 12 (((3 * x1) + 2)).toNatClampNeg) st _ hw) (by decide) rfl rfl rfl qM_X9_122 qI_X9_comesKeeper qS_X9_comesKeeper qN_X9 qC_X9_comesKeeper hd_X9_comesKeeper ⟨Nat.le_of_ble_eq_true rfl, Nat.le_of_ble_eq_true rfl⟩ hl.1 rfl (Nat.le_of_ble_eq_true rfl) dX9_comes_99) hG (fun r99 st99 H locs hw hG => ?_)
    exact r_iret hx hb hr hlk hK hG (r_nb hw.1) hw.2 dX9_comes_102
  replace hw := hw.2 g107
  by_cases g108 : (st 10 (x1).toNatClampNeg) = 108
  · replace hw := hw.1 g108
    refine r_tabin (v := 108) (tgt := 154) hx hb dX9_comes_10 g108 (by decide) (by decide) rfl (by decide) ?_
    refine lv_aload_n hx hb dX9_comes_154 rfl (lv_at hl 1 rfl) ?_
    refine lv_aload_n hx hb dX9_comes_155 rfl (lv_at hl 1 rfl) ?_
    refine r_get (C := RX9) (T := TX9) (Nf := 31) hx hb hts hown hK hG (by decide) rfl rfl inX9 15 (by decide) qF_X9_43 rfl dX9_comes_156 ?_
    refine lv_iload_n hx hb dX9_comes_159 rfl (lv_at hl 0 rfl) ?_
    obtain ⟨hi, hw⟩ := hw
    refine r_iald hx hb hK hG (isB_12).1 ((isB_12).2 y _) hi dX9_comes_160 ?_
    refine lv_aload_n hx hb dX9_comes_161 rfl (lv_at hl 1 rfl) ?_
    refine r_get (C := RX9) (T := TX9) (Nf := 31) hx hb hts hown hK hG (by decide) rfl rfl inX9 15 (by decide) qF_X9_43 rfl dX9_comes_162 ?_
    refine lv_iload_n hx hb dX9_comes_165 rfl (lv_at hl 0 rfl) ?_
    refine lv_iconst (v := 1) hx hb dX9_comes_166 (by decide) ?_
    refine lv_iadd hx hb dX9_comes_167 ?_
    obtain ⟨hi, hw⟩ := hw
    refine r_iald hx hb hK hG (isB_12).1 ((isB_12).2 y _) hi dX9_comes_168 ?_
    refine r_ki (r_run_V (k := 0) (As := [.int (st 12 ((3 * x1)).toNatClampNeg), .int (st 12 (((3 * x1) + 1)).toNatClampNeg)]) (rest := []) hx hb hml hown hts hK hN hG (c_X9_comesLetter l y (st 12 ((3 * x1)).toNatClampNeg) (st 12 (((3 * x1) + 1)).toNatClampNeg) st _ hw) (by decide) rfl rfl rfl qM_X9_131 qI_X9_comesLetter qS_X9_comesLetter qN_X9 qC_X9_comesLetter hd_X9_comesLetter ⟨Nat.le_of_ble_eq_true rfl, Nat.le_of_ble_eq_true rfl⟩ hl.1 rfl (Nat.le_of_ble_eq_true rfl) dX9_comes_169) hG (fun r169 st169 H locs hw hG => ?_)
    exact r_iret hx hb hr hlk hK hG (r_nb hw.1) hw.2 dX9_comes_172
  replace hw := hw.2 g108
  by_cases g115 : (st 10 (x1).toNatClampNeg) = 115
  · replace hw := hw.1 g115
    refine r_tabin (v := 115) (tgt := 223) hx hb dX9_comes_10 g115 (by decide) (by decide) rfl (by decide) ?_
    refine lv_aload_n hx hb dX9_comes_223 rfl (lv_at hl 1 rfl) ?_
    refine lv_aload_n hx hb dX9_comes_224 rfl (lv_at hl 1 rfl) ?_
    refine r_get (C := RX9) (T := TX9) (Nf := 31) hx hb hts hown hK hG (by decide) rfl rfl inX9 15 (by decide) qF_X9_43 rfl dX9_comes_225 ?_
    refine lv_iload_n hx hb dX9_comes_228 rfl (lv_at hl 0 rfl) ?_
    obtain ⟨hi, hw⟩ := hw
    refine r_iald hx hb hK hG (isB_12).1 ((isB_12).2 y _) hi dX9_comes_229 ?_
    refine r_ki (r_run_V (k := 0) (As := [.int (st 12 ((3 * x1)).toNatClampNeg)]) (rest := []) hx hb hml hown hts hK hN hG (c_X9_isLetter l y (st 12 ((3 * x1)).toNatClampNeg) st _ hw) (by decide) rfl rfl rfl qM_X9_134 qI_X9_isLetter qS_X9_isLetter qN_X9 qC_X9_isLetter hd_X9_isLetter ⟨Nat.le_of_ble_eq_true rfl, Nat.le_of_ble_eq_true rfl⟩ hl.1 rfl (Nat.le_of_ble_eq_true rfl) dX9_comes_230) hG (fun r230 st230 H locs hw hG => ?_)
    refine lv_if_ne (tgt := 238) hx hb dX9_comes_233 (by decide) (fun hc => ?_) (fun hc => ?_)
    · replace hw := hw.1 hc
      refine lv_aload_n hx hb dX9_comes_238 rfl (lv_at hl 1 rfl) ?_
      refine r_get (C := RX9) (T := TX9) (Nf := 31) hx hb hts hown hK hG (by decide) rfl rfl inX9 7 (by decide) qF_X9_31 rfl dX9_comes_239 ?_
      refine lv_aload_n hx hb dX9_comes_242 rfl (lv_at hl 1 rfl) ?_
      refine r_get (C := RX9) (T := TX9) (Nf := 31) hx hb hts hown hK hG (by decide) rfl rfl inX9 15 (by decide) qF_X9_43 rfl dX9_comes_243 ?_
      refine lv_iload_n hx hb dX9_comes_246 rfl (lv_at hl 0 rfl) ?_
      obtain ⟨hi, hw⟩ := hw
      refine r_iald hx hb hK hG (isB_12).1 ((isB_12).2 y _) hi dX9_comes_247 ?_
      refine lv_iconst (v := 1) hx hb dX9_comes_248 (by decide) ?_
      refine lv_aload_n hx hb dX9_comes_249 rfl (lv_at hl 1 rfl) ?_
      refine r_get (C := RX9) (T := TX9) (Nf := 31) hx hb hts hown hK hG (by decide) rfl rfl inX9 7 (by decide) qF_X9_31 rfl dX9_comes_250 ?_
      refine lv_aload_n hx hb dX9_comes_253 rfl (lv_at hl 1 rfl) ?_
      refine r_get (C := RX9) (T := TX9) (Nf := 31) hx hb hts hown hK hG (by decide) rfl rfl inX9 15 (by decide) qF_X9_43 rfl dX9_comes_254 ?_
      refine lv_iload_n hx hb dX9_comes_257 rfl (lv_at hl 0 rfl) ?_
      obtain ⟨hi, hw⟩ := hw
      refine r_iald hx hb hK hG (isB_12).1 ((isB_12).2 y _) hi dX9_comes_258 ?_
      obtain ⟨hi, hw⟩ := hw
      refine r_iald hx hb hK hG (isB_8).1 ((isB_8).2 y _) hi dX9_comes_259 ?_
      refine lv_isub hx hb dX9_comes_260 ?_
      obtain ⟨hi, hw⟩ := hw
      refine r_iast hx hb hK hG (isB_8).1 (fun f => (isB_8).2 y f) hi dX9_comes_261 (fun H locs hG => ?_)
      refine lv_iconst (v := 1) hx hb dX9_comes_262 (by decide) ?_
      exact r_iret hx hb hr hlk hK hG rfl hw dX9_comes_263
    · replace hw := hw.2 hc
      refine lv_iconst (v := 0) hx hb dX9_comes_236 (by decide) ?_
      exact r_iret hx hb hr hlk hK hG rfl hw dX9_comes_237
  replace hw := hw.2 g115
  refine r_tabdef (tgt := 264) hx hb dX9_comes_10 (by decide) (fun v q1 q2 q3 => ?_) ?_
  · rcases (show v = 103 ∨ v = 104 ∨ v = 105 ∨ v = 106 ∨ v = 107 ∨ v = 108 ∨ v = 109 ∨ v = 110 ∨ v = 111 ∨ v = 112 ∨ v = 113 ∨ v = 114 ∨ v = 115 by omega) with rfl | rfl | rfl | rfl | rfl | rfl | rfl | rfl | rfl | rfl | rfl | rfl | rfl
    · exact absurd (r_toI (v := 103) q3) g103
    · exact absurd (r_toI (v := 104) q3) g104
    · rfl
    · rfl
    · exact absurd (r_toI (v := 107) q3) g107
    · exact absurd (r_toI (v := 108) q3) g108
    · rfl
    · rfl
    · rfl
    · rfl
    · rfl
    · rfl
    · exact absurd (r_toI (v := 115) q3) g115
  refine lv_aload_n hx hb dX9_comes_264 rfl (lv_at hl 1 rfl) ?_
  refine lv_aload_n hx hb dX9_comes_265 rfl (lv_at hl 1 rfl) ?_
  refine r_get (C := RX9) (T := TX9) (Nf := 31) hx hb hts hown hK hG (by decide) rfl rfl inX9 15 (by decide) qF_X9_43 rfl dX9_comes_266 ?_
  refine lv_iload_n hx hb dX9_comes_269 rfl (lv_at hl 0 rfl) ?_
  obtain ⟨hi, hw⟩ := hw
  refine r_iald hx hb hK hG (isB_12).1 ((isB_12).2 y _) hi dX9_comes_270 ?_
  refine r_ki (r_run_V (k := 0) (As := [.int (st 12 ((3 * x1)).toNatClampNeg)]) (rest := []) hx hb hml hown hts hK hN hG (c_X9_comesWeeks l y (st 12 ((3 * x1)).toNatClampNeg) st _ hw) (by decide) rfl rfl rfl qM_X9_137 qI_X9_comesWeeks qS_X9_comesWeeks qN_X9 qC_X9_comesWeeks hd_X9_comesWeeks ⟨Nat.le_of_ble_eq_true rfl, Nat.le_of_ble_eq_true rfl⟩ hl.1 rfl (Nat.le_of_ble_eq_true rfl) dX9_comes_271) hG (fun r271 st271 H locs hw hG => ?_)
  exact r_iret hx hb hr hlk hK hG (r_nb hw.1) hw.2 dX9_comes_274
set_option maxRecDepth 100000 in
set_option maxHeartbeats 4000000 in
theorem z_X9_passes_b42 {p : Program} {e : Env} {s : State} {m : MethodId} {args : Array Value} {below : List Frame} {meth : Method} {c : Code} (l : Launch) (y : Sy) (k1 : Nat) (n1 : Nat) (h1 : isB k1 n1) (C : Sd p s m args meth c cX9_passes 3 RX9 none y) (c2 : Int32 → St → Prop) (K : St → Prop) (hc2 : ∀ (v2 : Int32) (st : St) (H : Heap) (locs : List Loc) (ls : Array Slot), gH 17 enM y st s H locs → lv_has ls 3 [(0, .ref (ad y 0)), (1, .ref (ad y k1)), (2, .int v2)] → c2 v2 st → W p l e (rmm 0 0) s m args below meth c H locs 0 0 (MQ below (va_Qv K (gB 17 enM y) (gA 17 y)) args s 0 0 (gA 17 y)) (F0 m 2 ls [])) (v2 : Int32) (st : St) {H : Heap} {locs : List Loc} {ls : Array Slot} (hG : gH 17 enM y st s H locs) (hl : lv_has ls 3 [(0, .ref (ad y 0)), (1, .ref (ad y k1)), (2, .int v2)]) (hw : w_X9_passes_b42 k1 n1 c2 K v2 st) : W p l e (rmm 0 0) s m args below meth c H locs 0 0 (MQ below (va_Qv K (gB 17 enM y) (gA 17 y)) args s 0 0 (gA 17 y)) (F0 m 42 ls []) := by
  obtain ⟨hx, hb, hml, hown, hts, hr, hlk, hK, hN⟩ := id C
  unfold w_X9_passes_b42 at hw
  refine lv_aload_n hx hb dX9_passes_42 rfl (lv_at hl 0 rfl) ?_
  refine lv_dup hx hb dX9_passes_43 rfl ?_
  refine r_get (C := RX9) (T := TX9) (Nf := 31) hx hb hts hown hK hG (by decide) rfl rfl inX9 22 (by decide) qF_X9_158 rfl dX9_passes_44 ?_
  refine lv_iconst (v := 1) hx hb dX9_passes_47 (by decide) ?_
  refine lv_iadd hx hb dX9_passes_48 ?_
  refine r_put (C := RX9) (T := TX9) (Nf := 31) hx hb hts hown hK hG (by decide) rfl rfl inX9 tyX9_ok nmX9 22 (by decide) qF_X9_158 rfl ((st 0 22) + 1) rfl rfl rfl (Nat.le_of_ble_eq_true rfl) dX9_passes_49 (fun H locs hG => ?_)
  refine lv_iinc (v := (v2 + 1)) (lv' := [(2, .int (v2 + 1)), (0, .ref (ad y 0)), (1, .ref (ad y k1))]) hx hb dX9_passes_52 hl (k := 2) rfl rfl (Nat.le_of_ble_eq_true rfl) rfl (fun ls hl => ?_)
  refine lv_goto (tgt := 2) hx hb dX9_passes_55 (by decide) ?_
  exact hc2 (v2 + 1) (u2 st 0 22 ((st 0 22) + 1)) H locs _ hG (lv_sub hl [1, 2, 0] rfl) hw
set_option maxRecDepth 100000 in
set_option maxHeartbeats 4000000 in
theorem z_X9_passes_L2 {p : Program} {e : Env} {s : State} {m : MethodId} {args : Array Value} {below : List Frame} {meth : Method} {c : Code} (l : Launch) (y : Sy) (k1 : Nat) (n1 : Nat) (h1 : isB k1 n1) (C : Sd p s m args meth c cX9_passes 3 RX9 none y)  (K : St → Prop)  : ∀ (n : Nat) (v2 : Int32) (st : St) (H : Heap) (locs : List Loc) (ls : Array Slot), gH 17 enM y st s H locs → lv_has ls 3 [(0, .ref (ad y 0)), (1, .ref (ad y k1)), (2, .int v2)] → w_X9_passes_L2 k1 n1  K n v2 st → W p l e (rmm 0 0) s m args below meth c H locs 0 0 (MQ below (va_Qv K (gB 17 enM y) (gA 17 y)) args s 0 0 (gA 17 y)) (F0 m 2 ls []) := by
  obtain ⟨hx, hb, hml, hown, hts, hr, hlk, hK, hN⟩ := id C
  intro n
  induction n with
  | zero => intro v2 st H locs ls hG hl hw; exact False.elim hw
  | succ n hc2 =>
    intro v2 st H locs ls hG hl hw
    have hw : w_X9_passes_L2q k1 n1  K (fun v2 st => w_X9_passes_L2 k1 n1  K n v2 st) v2 st := hw
    unfold w_X9_passes_L2q at hw
    refine lv_iload_n hx hb dX9_passes_2 rfl (lv_at hl 2 rfl) ?_
    refine lv_aload_n hx hb dX9_passes_3 rfl (lv_at hl 1 rfl) ?_
    refine r_alen (v := (nI n1)) hx hb hK hG (h1).1 ((h1).2 y _) rfl dX9_passes_4 ?_
    refine lv_icmp_ge (tgt := 58) hx hb dX9_passes_5 (by decide) (fun hc => ?_) (fun hc => ?_)
    · replace hw := hw.1 hc
      exact r_vret hx hb hr hlk hK hG hw dX9_passes_58
    · replace hw := hw.2 hc
      refine lv_aload_n hx hb dX9_passes_8 rfl (lv_at hl 0 rfl) ?_
      refine r_get (C := RX9) (T := TX9) (Nf := 31) hx hb hts hown hK hG (by decide) rfl rfl inX9 21 (by decide) qF_X9_154 rfl dX9_passes_9 ?_
      refine lv_if_eq (tgt := 30) hx hb dX9_passes_12 (by decide) (fun hc => ?_) (fun hc => ?_)
      · replace hw := hw.1 hc
        refine lv_aload_n hx hb dX9_passes_30 rfl (lv_at hl 1 rfl) ?_
        refine lv_iload_n hx hb dX9_passes_31 rfl (lv_at hl 2 rfl) ?_
        refine lv_aload_n hx hb dX9_passes_32 rfl (lv_at hl 0 rfl) ?_
        refine r_get (C := RX9) (T := TX9) (Nf := 31) hx hb hts hown hK hG (by decide) rfl rfl inX9 19 (by decide) qF_X9_46 rfl dX9_passes_33 ?_
        refine lv_aload_n hx hb dX9_passes_36 rfl (lv_at hl 0 rfl) ?_
        refine r_get (C := RX9) (T := TX9) (Nf := 31) hx hb hts hown hK hG (by decide) rfl rfl inX9 22 (by decide) qF_X9_158 rfl dX9_passes_37 ?_
        obtain ⟨hi, hw⟩ := hw
        refine r_iald hx hb hK hG (isB_13).1 ((isB_13).2 y _) hi dX9_passes_40 ?_
        obtain ⟨hi, hw⟩ := hw
        refine r_iast hx hb hK hG (h1).1 (fun f => (h1).2 y f) hi dX9_passes_41 (fun H locs hG => ?_)
        exact z_X9_passes_b42 l y k1 n1 h1 C (fun v2 st => w_X9_passes_L2 k1 n1  K n v2 st) K hc2 v2 (u2 st k1 (v2).toNatClampNeg (st 13 ((st 0 22)).toNatClampNeg)) hG (lv_sub hl [0, 1, 2] rfl) hw
      · replace hw := hw.2 hc
        refine lv_aload_n hx hb dX9_passes_15 rfl (lv_at hl 0 rfl) ?_
        refine r_get (C := RX9) (T := TX9) (Nf := 31) hx hb hts hown hK hG (by decide) rfl rfl inX9 19 (by decide) qF_X9_46 rfl dX9_passes_16 ?_
        refine lv_aload_n hx hb dX9_passes_19 rfl (lv_at hl 0 rfl) ?_
        refine r_get (C := RX9) (T := TX9) (Nf := 31) hx hb hts hown hK hG (by decide) rfl rfl inX9 22 (by decide) qF_X9_158 rfl dX9_passes_20 ?_
        refine lv_aload_n hx hb dX9_passes_23 rfl (lv_at hl 1 rfl) ?_
        refine lv_iload_n hx hb dX9_passes_24 rfl (lv_at hl 2 rfl) ?_
        obtain ⟨hi, hw⟩ := hw
        refine r_iald hx hb hK hG (h1).1 ((h1).2 y _) hi dX9_passes_25 ?_
        obtain ⟨hi, hw⟩ := hw
        refine r_iast hx hb hK hG (isB_13).1 (fun f => (isB_13).2 y f) hi dX9_passes_26 (fun H locs hG => ?_)
        refine lv_goto (tgt := 42) hx hb dX9_passes_27 (by decide) ?_
        exact z_X9_passes_b42 l y k1 n1 h1 C (fun v2 st => w_X9_passes_L2 k1 n1  K n v2 st) K hc2 v2 (u2 st 13 ((st 0 22)).toNatClampNeg (st k1 (v2).toNatClampNeg)) hG (lv_sub hl [0, 1, 2] rfl) hw
theorem hd_X9_passes : yX9_passes.cls ≠ "java/lang/invoke/MethodHandle" ∧ yX9_passes.cls ≠ "java/lang/invoke/VarHandle" ∧ (parseMethodDescriptor yX9_passes.desc).map (fun d => d.parameters.length) = some 1 := by decide +kernel
set_option maxRecDepth 100000 in
set_option maxHeartbeats 4000000 in
theorem c_X9_passes (l : Launch) (y : Sy) (k1 : Nat) (n1 : Nat) (h1 : isB k1 n1) (st : St) (K : St → Prop) (hw : w_X9_passes k1 n1 st K) : Cv 17 enM l yX9_passes cX9_passes 3 none 0 0 y [.ref (ad y 0), .ref (ad y k1)] st K := by
  refine ent (by decide) (Nat.le_of_ble_eq_true rfl) ?_
  intro p e s m below meth c C hG ls hl
  have hl : lv_has ls 3 [(0, .ref (ad y 0)), (1, .ref (ad y k1))] := hl
  generalize ([.ref (ad y 0), .ref (ad y k1)] : List Value).toArray = args at C ⊢
  have C : Sd p s m args meth c cX9_passes 3 RX9 none y := C
  obtain ⟨hx, hb, hml, hown, hts, hr, hlk, hK, hN⟩ := id C
  generalize s.heap = H at hG ⊢
  generalize ([] : List Loc) = locs at hG ⊢
  unfold w_X9_passes at hw
  refine lv_iconst (v := 0) hx hb dX9_passes_0 (by decide) ?_
  refine lv_istore_n (lv' := [(2, .int 0), (0, .ref (ad y 0)), (1, .ref (ad y k1))]) hx hb dX9_passes_1 rfl hl (Nat.le_of_ble_eq_true rfl) rfl (fun ls hl => ?_)
  obtain ⟨n2, hw⟩ := hw
  exact z_X9_passes_L2 l y k1 n1 h1 C  K  n2 0 st H locs _ hG (lv_sub hl [1, 2, 0] rfl) hw
set_option maxRecDepth 100000 in
set_option maxHeartbeats 4000000 in
theorem z_X9_passOne_b38 {p : Program} {e : Env} {s : State} {m : MethodId} {args : Array Value} {below : List Frame} {meth : Method} {c : Code} (l : Launch) (y : Sy) (x1 : Int32) (C : Sd p s m args meth c cX9_passOne 3 RX9 (some .int) y)  (K : Int32 → St → Prop)  (v2 : Int32) (st : St) {H : Heap} {locs : List Loc} {ls : Array Slot} (hG : gH 17 enM y st s H locs) (hl : lv_has ls 3 [(0, .ref (ad y 0)), (2, .int v2)]) (hw : w_X9_passOne_b38 x1  K v2 st) : W p l e (rmm 0 0) s m args below meth c H locs 0 0 (MQ below (va_Qi K (gB 17 enM y) (gA 17 y)) args s 0 0 (gA 17 y)) (F0 m 38 ls []) := by
  obtain ⟨hx, hb, hml, hown, hts, hr, hlk, hK, hN⟩ := id C
  unfold w_X9_passOne_b38 at hw
  refine lv_aload_n hx hb dX9_passOne_38 rfl (lv_at hl 0 rfl) ?_
  refine lv_dup hx hb dX9_passOne_39 rfl ?_
  refine r_get (C := RX9) (T := TX9) (Nf := 31) hx hb hts hown hK hG (by decide) rfl rfl inX9 22 (by decide) qF_X9_158 rfl dX9_passOne_40 ?_
  refine lv_iconst (v := 1) hx hb dX9_passOne_43 (by decide) ?_
  refine lv_iadd hx hb dX9_passOne_44 ?_
  refine r_put (C := RX9) (T := TX9) (Nf := 31) hx hb hts hown hK hG (by decide) rfl rfl inX9 tyX9_ok nmX9 22 (by decide) qF_X9_158 rfl ((st 0 22) + 1) rfl rfl rfl (Nat.le_of_ble_eq_true rfl) dX9_passOne_45 (fun H locs hG => ?_)
  refine lv_iload_n hx hb dX9_passOne_48 rfl (lv_at hl 1 rfl) ?_
  exact r_iret hx hb hr hlk hK hG rfl hw dX9_passOne_49
set_option maxRecDepth 100000 in
set_option maxHeartbeats 4000000 in
theorem z_X9_passOne_b20 {p : Program} {e : Env} {s : State} {m : MethodId} {args : Array Value} {below : List Frame} {meth : Method} {c : Code} (l : Launch) (y : Sy) (x1 : Int32) (C : Sd p s m args meth c cX9_passOne 3 RX9 (some .int) y)  (K : Int32 → St → Prop)  (s0 : Int32) (st : St) {H : Heap} {locs : List Loc} {ls : Array Slot} (hG : gH 17 enM y st s H locs) (hl : lv_has ls 3 [(0, .ref (ad y 0)), (1, .int x1)]) (hw : w_X9_passOne_b20 x1  K s0 st) : W p l e (rmm 0 0) s m args below meth c H locs 0 0 (MQ below (va_Qi K (gB 17 enM y) (gA 17 y)) args s 0 0 (gA 17 y)) (F0 m 20 ls [.int s0]) := by
  obtain ⟨hx, hb, hml, hown, hts, hr, hlk, hK, hN⟩ := id C
  unfold w_X9_passOne_b20 at hw
  refine lv_istore_n (lv' := [(2, .int s0), (0, .ref (ad y 0)), (1, .int x1)]) hx hb dX9_passOne_20 rfl hl (Nat.le_of_ble_eq_true rfl) rfl (fun ls hl => ?_)
  refine lv_aload_n hx hb dX9_passOne_21 rfl (lv_at hl 1 rfl) ?_
  refine r_get (C := RX9) (T := TX9) (Nf := 31) hx hb hts hown hK hG (by decide) rfl rfl inX9 21 (by decide) qF_X9_154 rfl dX9_passOne_22 ?_
  refine lv_if_eq (tgt := 38) hx hb dX9_passOne_25 (by decide) (fun hc => ?_) (fun hc => ?_)
  · replace hw := hw.1 hc
    exact z_X9_passOne_b38 l y x1 C  K  s0 st hG (lv_sub hl [1, 0] rfl) hw
  · replace hw := hw.2 hc
    refine lv_aload_n hx hb dX9_passOne_28 rfl (lv_at hl 1 rfl) ?_
    refine r_get (C := RX9) (T := TX9) (Nf := 31) hx hb hts hown hK hG (by decide) rfl rfl inX9 19 (by decide) qF_X9_46 rfl dX9_passOne_29 ?_
    refine lv_aload_n hx hb dX9_passOne_32 rfl (lv_at hl 1 rfl) ?_
    refine r_get (C := RX9) (T := TX9) (Nf := 31) hx hb hts hown hK hG (by decide) rfl rfl inX9 22 (by decide) qF_X9_158 rfl dX9_passOne_33 ?_
    refine lv_iload_n hx hb dX9_passOne_36 rfl (lv_at hl 2 rfl) ?_
    obtain ⟨hi, hw⟩ := hw
    refine r_iast hx hb hK hG (isB_13).1 (fun f => (isB_13).2 y f) hi dX9_passOne_37 (fun H locs hG => ?_)
    exact z_X9_passOne_b38 l y x1 C  K  s0 (u2 st 13 ((st 0 22)).toNatClampNeg x1) hG (lv_sub hl [1, 0] rfl) hw
theorem hd_X9_passOne : yX9_passOne.cls ≠ "java/lang/invoke/MethodHandle" ∧ yX9_passOne.cls ≠ "java/lang/invoke/VarHandle" ∧ (parseMethodDescriptor yX9_passOne.desc).map (fun d => d.parameters.length) = some 1 := by decide +kernel
set_option maxRecDepth 100000 in
set_option maxHeartbeats 4000000 in
theorem c_X9_passOne (l : Launch) (y : Sy) (x1 : Int32) (st : St) (K : Int32 → St → Prop) (hw : w_X9_passOne x1 st K) : Ci 17 enM l yX9_passOne cX9_passOne 3 (some .int) 0 0 y [.ref (ad y 0), .int x1] st K := by
  refine ent (by decide) (Nat.le_of_ble_eq_true rfl) ?_
  intro p e s m below meth c C hG ls hl
  have hl : lv_has ls 3 [(0, .ref (ad y 0)), (1, .int x1)] := hl
  generalize ([.ref (ad y 0), .int x1] : List Value).toArray = args at C ⊢
  have C : Sd p s m args meth c cX9_passOne 3 RX9 (some .int) y := C
  obtain ⟨hx, hb, hml, hown, hts, hr, hlk, hK, hN⟩ := id C
  generalize s.heap = H at hG ⊢
  generalize ([] : List Loc) = locs at hG ⊢
  unfold w_X9_passOne at hw
  refine lv_aload_n hx hb dX9_passOne_0 rfl (lv_at hl 0 rfl) ?_
  refine r_get (C := RX9) (T := TX9) (Nf := 31) hx hb hts hown hK hG (by decide) rfl rfl inX9 21 (by decide) qF_X9_154 rfl dX9_passOne_1 ?_
  refine lv_if_eq (tgt := 11) hx hb dX9_passOne_4 (by decide) (fun hc => ?_) (fun hc => ?_)
  · replace hw := hw.1 hc
    refine lv_aload_n hx hb dX9_passOne_11 rfl (lv_at hl 0 rfl) ?_
    refine r_get (C := RX9) (T := TX9) (Nf := 31) hx hb hts hown hK hG (by decide) rfl rfl inX9 19 (by decide) qF_X9_46 rfl dX9_passOne_12 ?_
    refine lv_aload_n hx hb dX9_passOne_15 rfl (lv_at hl 0 rfl) ?_
    refine r_get (C := RX9) (T := TX9) (Nf := 31) hx hb hts hown hK hG (by decide) rfl rfl inX9 22 (by decide) qF_X9_158 rfl dX9_passOne_16 ?_
    obtain ⟨hi, hw⟩ := hw
    refine r_iald hx hb hK hG (isB_13).1 ((isB_13).2 y _) hi dX9_passOne_19 ?_
    exact z_X9_passOne_b20 l y x1 C  K  (st 13 ((st 0 22)).toNatClampNeg) st hG (lv_sub hl [0, 1] rfl) hw
  · replace hw := hw.2 hc
    refine lv_iload_n hx hb dX9_passOne_7 rfl (lv_at hl 1 rfl) ?_
    refine lv_goto (tgt := 20) hx hb dX9_passOne_8 (by decide) ?_
    exact z_X9_passOne_b20 l y x1 C  K  x1 st hG (lv_sub hl [0, 1] rfl) hw
theorem hd_X9_passesAll : yX9_passesAll.cls ≠ "java/lang/invoke/MethodHandle" ∧ yX9_passesAll.cls ≠ "java/lang/invoke/VarHandle" ∧ (parseMethodDescriptor yX9_passesAll.desc).map (fun d => d.parameters.length) = some 2 := by decide +kernel
set_option maxRecDepth 100000 in
set_option maxHeartbeats 4000000 in
theorem c_X9_passesAll (l : Launch) (y : Sy) (x1 : Int32) (x2 : Int32) (st : St) (K : St → Prop) (hw : w_X9_passesAll x1 x2 st K) : Cv 17 enM l yX9_passesAll cX9_passesAll 3 none 1 22 y [.ref (ad y 0), .int x1, .int x2] st K := by
  refine ent (by decide) (Nat.le_of_ble_eq_true rfl) ?_
  intro p e s m below meth c C hG ls hl
  have hl : lv_has ls 3 [(0, .ref (ad y 0)), (1, .int x1), (2, .int x2)] := hl
  generalize ([.ref (ad y 0), .int x1, .int x2] : List Value).toArray = args at C ⊢
  have C : Sd p s m args meth c cX9_passesAll 3 RX9 none y := C
  obtain ⟨hx, hb, hml, hown, hts, hr, hlk, hK, hN⟩ := id C
  generalize s.heap = H at hG ⊢
  generalize ([] : List Loc) = locs at hG ⊢
  unfold w_X9_passesAll at hw
  refine lv_aload_n hx hb dX9_passesAll_0 rfl (lv_at hl 0 rfl) ?_
  refine lv_bipush (v := 75) hx hb dX9_passesAll_1 (by decide) ?_
  refine lv_iload_n hx hb dX9_passesAll_3 rfl (lv_at hl 1 rfl) ?_
  refine lv_imul hx hb dX9_passesAll_4 ?_
  refine r_put (C := RX9) (T := TX9) (Nf := 31) hx hb hts hown hK hG (by decide) rfl rfl inX9 tyX9_ok nmX9 22 (by decide) qF_X9_158 rfl (75 * x1) rfl rfl rfl (Nat.le_of_ble_eq_true rfl) dX9_passesAll_5 (fun H locs hG => ?_)
  refine lv_aload_n hx hb dX9_passesAll_8 rfl (lv_at hl 0 rfl) ?_
  refine lv_iload_n hx hb dX9_passesAll_9 rfl (lv_at hl 2 rfl) ?_
  obtain ⟨h10, hw⟩ := hw
  refine r_put (C := RX9) (T := TX9) (Nf := 31) hx hb hts hown hK hG (by decide) rfl rfl inX9 tyX9_ok nmX9 21 (by decide) qF_X9_154 rfl x2 rfl (r_nb h10) (r_fb h10) (Nat.le_of_ble_eq_true rfl) dX9_passesAll_10 (fun H locs hG => ?_)
  refine lv_aload_n hx hb dX9_passesAll_13 rfl (lv_at hl 0 rfl) ?_
  refine lv_aload_n hx hb dX9_passesAll_14 rfl (lv_at hl 0 rfl) ?_
  refine r_get (C := RX9) (T := TX9) (Nf := 31) hx hb hts hown hK hG (by decide) rfl rfl inX9 1 (by decide) qF_X9_13 rfl dX9_passesAll_15 ?_
  refine r_kv (r_run_V (k := 0) (As := [.ref (ad y 2)]) (rest := []) hx hb hml hown hts hK hN hG (c_X9_passes l y 2 6 isB_2 (u2 (u2 st 0 22 (75 * x1)) 0 21 x2) _ hw) (by decide) rfl rfl rfl qM_X9_161 qI_X9_passes qS_X9_passes qN_X9 qC_X9_passes hd_X9_passes ⟨Nat.le_of_ble_eq_true rfl, Nat.le_of_ble_eq_true rfl⟩ hl.1 rfl (Nat.le_of_ble_eq_true rfl) dX9_passesAll_18) hG (fun st18 H locs hw hG => ?_)
  refine lv_aload_n hx hb dX9_passesAll_21 rfl (lv_at hl 0 rfl) ?_
  refine lv_aload_n hx hb dX9_passesAll_22 rfl (lv_at hl 0 rfl) ?_
  refine r_get (C := RX9) (T := TX9) (Nf := 31) hx hb hts hown hK hG (by decide) rfl rfl inX9 2 (by decide) qF_X9_16 rfl dX9_passesAll_23 ?_
  refine r_kv (r_run_V (k := 0) (As := [.ref (ad y 3)]) (rest := []) hx hb hml hown hts hK hN hG (c_X9_passes l y 3 6 isB_3 st18 _ hw) (by decide) rfl rfl rfl qM_X9_161 qI_X9_passes qS_X9_passes qN_X9 qC_X9_passes hd_X9_passes ⟨Nat.le_of_ble_eq_true rfl, Nat.le_of_ble_eq_true rfl⟩ hl.1 rfl (Nat.le_of_ble_eq_true rfl) dX9_passesAll_26) hG (fun st26 H locs hw hG => ?_)
  refine lv_aload_n hx hb dX9_passesAll_29 rfl (lv_at hl 0 rfl) ?_
  refine lv_aload_n hx hb dX9_passesAll_30 rfl (lv_at hl 0 rfl) ?_
  refine r_get (C := RX9) (T := TX9) (Nf := 31) hx hb hts hown hK hG (by decide) rfl rfl inX9 3 (by decide) qF_X9_19 rfl dX9_passesAll_31 ?_
  refine r_kv (r_run_V (k := 0) (As := [.ref (ad y 4)]) (rest := []) hx hb hml hown hts hK hN hG (c_X9_passes l y 4 6 isB_4 st26 _ hw) (by decide) rfl rfl rfl qM_X9_161 qI_X9_passes qS_X9_passes qN_X9 qC_X9_passes hd_X9_passes ⟨Nat.le_of_ble_eq_true rfl, Nat.le_of_ble_eq_true rfl⟩ hl.1 rfl (Nat.le_of_ble_eq_true rfl) dX9_passesAll_34) hG (fun st34 H locs hw hG => ?_)
  refine lv_aload_n hx hb dX9_passesAll_37 rfl (lv_at hl 0 rfl) ?_
  refine lv_aload_n hx hb dX9_passesAll_38 rfl (lv_at hl 0 rfl) ?_
  refine r_get (C := RX9) (T := TX9) (Nf := 31) hx hb hts hown hK hG (by decide) rfl rfl inX9 4 (by decide) qF_X9_22 rfl dX9_passesAll_39 ?_
  refine r_kv (r_run_V (k := 0) (As := [.ref (ad y 5)]) (rest := []) hx hb hml hown hts hK hN hG (c_X9_passes l y 5 36 isB_5 st34 _ hw) (by decide) rfl rfl rfl qM_X9_161 qI_X9_passes qS_X9_passes qN_X9 qC_X9_passes hd_X9_passes ⟨Nat.le_of_ble_eq_true rfl, Nat.le_of_ble_eq_true rfl⟩ hl.1 rfl (Nat.le_of_ble_eq_true rfl) dX9_passesAll_42) hG (fun st42 H locs hw hG => ?_)
  refine lv_aload_n hx hb dX9_passesAll_45 rfl (lv_at hl 0 rfl) ?_
  refine lv_aload_n hx hb dX9_passesAll_46 rfl (lv_at hl 0 rfl) ?_
  refine r_get (C := RX9) (T := TX9) (Nf := 31) hx hb hts hown hK hG (by decide) rfl rfl inX9 5 (by decide) qF_X9_25 rfl dX9_passesAll_47 ?_
  refine r_kv (r_run_V (k := 0) (As := [.ref (ad y 6)]) (rest := []) hx hb hml hown hts hK hN hG (c_X9_passes l y 6 6 isB_6 st42 _ hw) (by decide) rfl rfl rfl qM_X9_161 qI_X9_passes qS_X9_passes qN_X9 qC_X9_passes hd_X9_passes ⟨Nat.le_of_ble_eq_true rfl, Nat.le_of_ble_eq_true rfl⟩ hl.1 rfl (Nat.le_of_ble_eq_true rfl) dX9_passesAll_50) hG (fun st50 H locs hw hG => ?_)
  refine lv_aload_n hx hb dX9_passesAll_53 rfl (lv_at hl 0 rfl) ?_
  refine lv_aload_n hx hb dX9_passesAll_54 rfl (lv_at hl 0 rfl) ?_
  refine r_get (C := RX9) (T := TX9) (Nf := 31) hx hb hts hown hK hG (by decide) rfl rfl inX9 6 (by decide) qF_X9_28 rfl dX9_passesAll_55 ?_
  refine r_kv (r_run_V (k := 0) (As := [.ref (ad y 7)]) (rest := []) hx hb hml hown hts hK hN hG (c_X9_passes l y 7 6 isB_7 st50 _ hw) (by decide) rfl rfl rfl qM_X9_161 qI_X9_passes qS_X9_passes qN_X9 qC_X9_passes hd_X9_passes ⟨Nat.le_of_ble_eq_true rfl, Nat.le_of_ble_eq_true rfl⟩ hl.1 rfl (Nat.le_of_ble_eq_true rfl) dX9_passesAll_58) hG (fun st58 H locs hw hG => ?_)
  refine lv_aload_n hx hb dX9_passesAll_61 rfl (lv_at hl 0 rfl) ?_
  refine lv_aload_n hx hb dX9_passesAll_62 rfl (lv_at hl 0 rfl) ?_
  refine r_get (C := RX9) (T := TX9) (Nf := 31) hx hb hts hown hK hG (by decide) rfl rfl inX9 7 (by decide) qF_X9_31 rfl dX9_passesAll_63 ?_
  refine r_kv (r_run_V (k := 0) (As := [.ref (ad y 8)]) (rest := []) hx hb hml hown hts hK hN hG (c_X9_passes l y 8 6 isB_8 st58 _ hw) (by decide) rfl rfl rfl qM_X9_161 qI_X9_passes qS_X9_passes qN_X9 qC_X9_passes hd_X9_passes ⟨Nat.le_of_ble_eq_true rfl, Nat.le_of_ble_eq_true rfl⟩ hl.1 rfl (Nat.le_of_ble_eq_true rfl) dX9_passesAll_66) hG (fun st66 H locs hw hG => ?_)
  refine lv_aload_n hx hb dX9_passesAll_69 rfl (lv_at hl 0 rfl) ?_
  refine lv_aload_n hx hb dX9_passesAll_70 rfl (lv_at hl 0 rfl) ?_
  refine lv_aload_n hx hb dX9_passesAll_71 rfl (lv_at hl 0 rfl) ?_
  refine r_get (C := RX9) (T := TX9) (Nf := 31) hx hb hts hown hK hG (by decide) rfl rfl inX9 8 (by decide) qF_X9_65 rfl dX9_passesAll_72 ?_
  refine r_ki (r_run_V (k := 0) (As := [.int (st66 0 8)]) (rest := [.ref (ad y 0)]) hx hb hml hown hts hK hN hG (c_X9_passOne l y (st66 0 8) st66 _ hw) (by decide) rfl rfl rfl qM_X9_165 qI_X9_passOne qS_X9_passOne qN_X9 qC_X9_passOne hd_X9_passOne ⟨Nat.le_of_ble_eq_true rfl, Nat.le_of_ble_eq_true rfl⟩ hl.1 rfl (Nat.le_of_ble_eq_true rfl) dX9_passesAll_75) hG (fun r75 st75 H locs hw hG => ?_)
  refine r_put (C := RX9) (T := TX9) (Nf := 31) hx hb hts hown hK hG (by decide) rfl rfl inX9 tyX9_ok nmX9 8 (by decide) qF_X9_65 rfl r75 rfl rfl rfl (Nat.le_of_ble_eq_true rfl) dX9_passesAll_78 (fun H locs hG => ?_)
  refine lv_aload_n hx hb dX9_passesAll_81 rfl (lv_at hl 0 rfl) ?_
  refine lv_aload_n hx hb dX9_passesAll_82 rfl (lv_at hl 0 rfl) ?_
  refine lv_aload_n hx hb dX9_passesAll_83 rfl (lv_at hl 0 rfl) ?_
  refine r_get (C := RX9) (T := TX9) (Nf := 31) hx hb hts hown hK hG (by decide) rfl rfl inX9 9 (by decide) qF_X9_58 rfl dX9_passesAll_84 ?_
  refine r_ki (r_run_V (k := 0) (As := [.int ((u2 st75 0 8 r75) 0 9)]) (rest := [.ref (ad y 0)]) hx hb hml hown hts hK hN hG (c_X9_passOne l y ((u2 st75 0 8 r75) 0 9) (u2 st75 0 8 r75) _ hw) (by decide) rfl rfl rfl qM_X9_165 qI_X9_passOne qS_X9_passOne qN_X9 qC_X9_passOne hd_X9_passOne ⟨Nat.le_of_ble_eq_true rfl, Nat.le_of_ble_eq_true rfl⟩ hl.1 rfl (Nat.le_of_ble_eq_true rfl) dX9_passesAll_87) hG (fun r87 st87 H locs hw hG => ?_)
  refine r_put (C := RX9) (T := TX9) (Nf := 31) hx hb hts hown hK hG (by decide) rfl rfl inX9 tyX9_ok nmX9 9 (by decide) qF_X9_58 rfl r87 rfl rfl rfl (Nat.le_of_ble_eq_true rfl) dX9_passesAll_90 (fun H locs hG => ?_)
  refine lv_aload_n hx hb dX9_passesAll_93 rfl (lv_at hl 0 rfl) ?_
  refine lv_aload_n hx hb dX9_passesAll_94 rfl (lv_at hl 0 rfl) ?_
  refine lv_aload_n hx hb dX9_passesAll_95 rfl (lv_at hl 0 rfl) ?_
  refine r_get (C := RX9) (T := TX9) (Nf := 31) hx hb hts hown hK hG (by decide) rfl rfl inX9 10 (by decide) qF_X9_115 rfl dX9_passesAll_96 ?_
  refine r_ki (r_run_V (k := 0) (As := [.int ((u2 st87 0 9 r87) 0 10)]) (rest := [.ref (ad y 0)]) hx hb hml hown hts hK hN hG (c_X9_passOne l y ((u2 st87 0 9 r87) 0 10) (u2 st87 0 9 r87) _ hw) (by decide) rfl rfl rfl qM_X9_165 qI_X9_passOne qS_X9_passOne qN_X9 qC_X9_passOne hd_X9_passOne ⟨Nat.le_of_ble_eq_true rfl, Nat.le_of_ble_eq_true rfl⟩ hl.1 rfl (Nat.le_of_ble_eq_true rfl) dX9_passesAll_99) hG (fun r99 st99 H locs hw hG => ?_)
  refine r_put (C := RX9) (T := TX9) (Nf := 31) hx hb hts hown hK hG (by decide) rfl rfl inX9 tyX9_ok nmX9 10 (by decide) qF_X9_115 rfl r99 rfl rfl rfl (Nat.le_of_ble_eq_true rfl) dX9_passesAll_102 (fun H locs hG => ?_)
  exact r_vret hx hb hr hlk hK hG hw dX9_passesAll_105
set_option maxRecDepth 100000 in
set_option maxHeartbeats 4000000 in
theorem z_X9_land_b53 {p : Program} {e : Env} {s : State} {m : MethodId} {args : Array Value} {below : List Frame} {meth : Method} {c : Code} (l : Launch) (y : Sy)  (C : Sd p s m args meth c cX9_land 3 RX9 (some .int) y) (c12 : Int32 → St → Prop) (K : Int32 → St → Prop) (hc12 : ∀ (v1 : Int32) (st : St) (H : Heap) (locs : List Loc) (ls : Array Slot), gH 17 enM y st s H locs → lv_has ls 3 [(0, .ref (ad y 0)), (1, .int v1)] → c12 v1 st → W p l e (rmm 7 158) s m args below meth c H locs 0 0 (MQ below (va_Qi K (gB 17 enM y) (gA 17 y)) args s 0 0 (gA 17 y)) (F0 m 12 ls [])) (v1 : Int32) (s0 : Int32) (s1 : Int32) (st : St) {H : Heap} {locs : List Loc} {ls : Array Slot} (hG : gH 17 enM y st s H locs) (hl : lv_has ls 3 [(0, .ref (ad y 0)), (1, .int v1)]) (hw : w_X9_land_b53  c12 K v1 s0 s1 st) : W p l e (rmm 7 158) s m args below meth c H locs 0 0 (MQ below (va_Qi K (gB 17 enM y) (gA 17 y)) args s 0 0 (gA 17 y)) (F0 m 53 ls [.int s0, .int s1, .ref (ad y 0)]) := by
  obtain ⟨hx, hb, hml, hown, hts, hr, hlk, hK, hN⟩ := id C
  unfold w_X9_land_b53 at hw
  refine lv_iadd hx hb dX9_land_53 ?_
  refine r_put (C := RX9) (T := TX9) (Nf := 31) hx hb hts hown hK hG (by decide) rfl rfl inX9 tyX9_ok nmX9 18 (by decide) qF_X9_98 rfl (s1 + s0) rfl rfl rfl (Nat.le_of_ble_eq_true rfl) dX9_land_54 (fun H locs hG => ?_)
  refine lv_goto (tgt := 12) hx hb dX9_land_57 (by decide) ?_
  exact hc12 v1 (u2 st 0 18 (s1 + s0)) H locs _ hG (lv_sub hl [0, 1] rfl) hw
set_option maxRecDepth 100000 in
set_option maxHeartbeats 4000000 in
theorem z_X9_land_b34 {p : Program} {e : Env} {s : State} {m : MethodId} {args : Array Value} {below : List Frame} {meth : Method} {c : Code} (l : Launch) (y : Sy)  (C : Sd p s m args meth c cX9_land 3 RX9 (some .int) y) (c12 : Int32 → St → Prop) (K : Int32 → St → Prop) (hc12 : ∀ (v1 : Int32) (st : St) (H : Heap) (locs : List Loc) (ls : Array Slot), gH 17 enM y st s H locs → lv_has ls 3 [(0, .ref (ad y 0)), (1, .int v1)] → c12 v1 st → W p l e (rmm 7 158) s m args below meth c H locs 0 0 (MQ below (va_Qi K (gB 17 enM y) (gA 17 y)) args s 0 0 (gA 17 y)) (F0 m 12 ls []))  (st : St) {H : Heap} {locs : List Loc} {ls : Array Slot} (hG : gH 17 enM y st s H locs) (hl : lv_has ls 3 [(0, .ref (ad y 0))]) (hw : w_X9_land_b34  c12 K  st) : W p l e (rmm 7 158) s m args below meth c H locs 0 0 (MQ below (va_Qi K (gB 17 enM y) (gA 17 y)) args s 0 0 (gA 17 y)) (F0 m 34 ls []) := by
  obtain ⟨hx, hb, hml, hown, hts, hr, hlk, hK, hN⟩ := id C
  unfold w_X9_land_b34 at hw
  refine lv_aload_n hx hb dX9_land_34 rfl (lv_at hl 0 rfl) ?_
  refine r_ki (r_run_V (k := 0) (As := []) (rest := []) hx hb hml hown hts hK hN hG (c_X9_statement l y  st _ hw) (by decide) rfl rfl rfl qM_X9_140 qI_X9_statement qS_X9_statement qN_X9 qC_X9_statement hd_X9_statement ⟨Nat.le_of_ble_eq_true rfl, Nat.le_of_ble_eq_true rfl⟩ hl.1 rfl (Nat.le_of_ble_eq_true rfl) dX9_land_35) hG (fun r35 st35 H locs hw hG => ?_)
  refine lv_istore_n (lv' := [(1, .int r35), (0, .ref (ad y 0))]) hx hb dX9_land_38 rfl hl (Nat.le_of_ble_eq_true rfl) rfl (fun ls hl => ?_)
  refine lv_aload_n hx hb dX9_land_39 rfl (lv_at hl 1 rfl) ?_
  refine lv_dup hx hb dX9_land_40 rfl ?_
  refine r_get (C := RX9) (T := TX9) (Nf := 31) hx hb hts hown hK hG (by decide) rfl rfl inX9 18 (by decide) qF_X9_98 rfl dX9_land_41 ?_
  refine lv_iload_n hx hb dX9_land_44 rfl (lv_at hl 0 rfl) ?_
  refine lv_if_eq (tgt := 52) hx hb dX9_land_45 (by decide) (fun hc => ?_) (fun hc => ?_)
  · replace hw := hw.1 hc
    refine lv_iconst (v := 0) hx hb dX9_land_52 (by decide) ?_
    exact z_X9_land_b53 l y  C c12 K hc12 r35 0 (st35 0 18) st35 hG (lv_sub hl [1, 0] rfl) hw
  · replace hw := hw.2 hc
    refine lv_iconst (v := 1) hx hb dX9_land_48 (by decide) ?_
    refine lv_goto (tgt := 53) hx hb dX9_land_49 (by decide) ?_
    exact z_X9_land_b53 l y  C c12 K hc12 r35 1 (st35 0 18) st35 hG (lv_sub hl [1, 0] rfl) hw
set_option maxRecDepth 100000 in
set_option maxHeartbeats 4000000 in
theorem z_X9_land_b105 {p : Program} {e : Env} {s : State} {m : MethodId} {args : Array Value} {below : List Frame} {meth : Method} {c : Code} (l : Launch) (y : Sy)  (C : Sd p s m args meth c cX9_land 3 RX9 (some .int) y)  (K : Int32 → St → Prop)  (v2 : Int32) (st : St) {H : Heap} {locs : List Loc} {ls : Array Slot} (hG : gH 17 enM y st s H locs) (hl : lv_has ls 3 [(0, .ref (ad y 0)), (2, .int v2)]) (hw : w_X9_land_b105   K v2 st) : W p l e (rmm 7 158) s m args below meth c H locs 0 0 (MQ below (va_Qi K (gB 17 enM y) (gA 17 y)) args s 0 0 (gA 17 y)) (F0 m 105 ls []) := by
  obtain ⟨hx, hb, hml, hown, hts, hr, hlk, hK, hN⟩ := id C
  unfold w_X9_land_b105 at hw
  refine lv_aload_n hx hb dX9_land_105 rfl (lv_at hl 0 rfl) ?_
  refine lv_iconst (v := 1) hx hb dX9_land_106 (by decide) ?_
  refine lv_iconst (v := 0) hx hb dX9_land_107 (by decide) ?_
  refine r_kv (r_run_V (k := 0) (As := [.int 1, .int 0]) (rest := []) hx hb hml hown hts hK hN hG (c_X9_passesAll l y 1 0 st _ hw) (by decide) rfl rfl rfl qM_X9_144 qI_X9_passesAll qS_X9_passesAll qN_X9 qC_X9_passesAll hd_X9_passesAll ⟨Nat.le_of_ble_eq_true rfl, Nat.le_of_ble_eq_true rfl⟩ hl.1 rfl (Nat.le_of_ble_eq_true rfl) dX9_land_108) hG (fun st108 H locs hw hG => ?_)
  refine lv_sipush (v := (-2000)) hx hb dX9_land_111 (by decide) ?_
  refine lv_aload_n hx hb dX9_land_114 rfl (lv_at hl 0 rfl) ?_
  refine r_get (C := RX9) (T := TX9) (Nf := 31) hx hb hts hown hK hG (by decide) rfl rfl inX9 14 (by decide) qF_X9_40 rfl dX9_land_115 ?_
  refine lv_iload_n hx hb dX9_land_118 rfl (lv_at hl 1 rfl) ?_
  obtain ⟨hi, hw⟩ := hw
  refine r_iald hx hb hK hG (isB_11).1 ((isB_11).2 y _) hi dX9_land_119 ?_
  refine lv_isub hx hb dX9_land_120 ?_
  exact r_iret hx hb hr hlk hK hG rfl hw dX9_land_121
set_option maxRecDepth 100000 in
set_option maxHeartbeats 4000000 in
theorem z_X9_land_b128 {p : Program} {e : Env} {s : State} {m : MethodId} {args : Array Value} {below : List Frame} {meth : Method} {c : Code} (l : Launch) (y : Sy)  (C : Sd p s m args meth c cX9_land 3 RX9 (some .int) y)  (K : Int32 → St → Prop)   (st : St) {H : Heap} {locs : List Loc} {ls : Array Slot} (hG : gH 17 enM y st s H locs) (hl : lv_has ls 3 [(0, .ref (ad y 0))]) (hw : w_X9_land_b128   K  st) : W p l e (rmm 7 158) s m args below meth c H locs 0 0 (MQ below (va_Qi K (gB 17 enM y) (gA 17 y)) args s 0 0 (gA 17 y)) (F0 m 128 ls []) := by
  obtain ⟨hx, hb, hml, hown, hts, hr, hlk, hK, hN⟩ := id C
  unfold w_X9_land_b128 at hw
  refine lv_aload_n hx hb dX9_land_128 rfl (lv_at hl 0 rfl) ?_
  refine lv_iconst (v := 0) hx hb dX9_land_129 (by decide) ?_
  refine r_put (C := RX9) (T := TX9) (Nf := 31) hx hb hts hown hK hG (by decide) rfl rfl inX9 tyX9_ok nmX9 23 (by decide) qF_X9_151 rfl 0 rfl rfl rfl (Nat.le_of_ble_eq_true rfl) dX9_land_130 (fun H locs hG => ?_)
  refine lv_aload_n hx hb dX9_land_133 rfl (lv_at hl 0 rfl) ?_
  refine r_get (C := RX9) (T := TX9) (Nf := 31) hx hb hts hown hK hG (by decide) rfl rfl inX9 18 (by decide) qF_X9_98 rfl dX9_land_134 ?_
  exact r_iret hx hb hr hlk hK hG rfl hw dX9_land_137
set_option maxRecDepth 100000 in
set_option maxHeartbeats 4000000 in
theorem z_X9_land_L86 {p : Program} {e : Env} {s : State} {m : MethodId} {args : Array Value} {below : List Frame} {meth : Method} {c : Code} (l : Launch) (y : Sy)  (C : Sd p s m args meth c cX9_land 3 RX9 (some .int) y)  (K : Int32 → St → Prop)  : ∀ (n : Nat) (v2 : Int32) (st : St) (H : Heap) (locs : List Loc) (ls : Array Slot), gH 17 enM y st s H locs → lv_has ls 3 [(0, .ref (ad y 0)), (2, .int v2)] → w_X9_land_L86   K n v2 st → W p l e (rmm 7 158) s m args below meth c H locs 0 0 (MQ below (va_Qi K (gB 17 enM y) (gA 17 y)) args s 0 0 (gA 17 y)) (F0 m 86 ls []) := by
  obtain ⟨hx, hb, hml, hown, hts, hr, hlk, hK, hN⟩ := id C
  intro n
  induction n with
  | zero => intro v2 st H locs ls hG hl hw; exact False.elim hw
  | succ n hc86 =>
    intro v2 st H locs ls hG hl hw
    have hw : w_X9_land_L86q   K (fun v2 st => w_X9_land_L86   K n v2 st) v2 st := hw
    unfold w_X9_land_L86q at hw
    refine lv_iload_n hx hb dX9_land_86 rfl (lv_at hl 1 rfl) ?_
    refine lv_aload_n hx hb dX9_land_87 rfl (lv_at hl 0 rfl) ?_
    refine r_get (C := RX9) (T := TX9) (Nf := 31) hx hb hts hown hK hG (by decide) rfl rfl inX9 18 (by decide) qF_X9_98 rfl dX9_land_88 ?_
    refine lv_icmp_ge (tgt := 128) hx hb dX9_land_91 (by decide) (fun hc => ?_) (fun hc => ?_)
    · replace hw := hw.1 hc
      exact z_X9_land_b128 l y  C  K  st hG (lv_sub hl [0] rfl) hw
    · replace hw := hw.2 hc
      refine lv_aload_n hx hb dX9_land_94 rfl (lv_at hl 0 rfl) ?_
      refine lv_iload_n hx hb dX9_land_95 rfl (lv_at hl 1 rfl) ?_
      refine r_ki (r_run_V (k := 0) (As := [.int v2]) (rest := []) hx hb hml hown hts hK hN hG (c_X9_comes l y v2 st _ hw) (by decide) rfl rfl rfl qM_X9_148 qI_X9_comes qS_X9_comes qN_X9 qC_X9_comes hd_X9_comes ⟨Nat.le_of_ble_eq_true rfl, Nat.le_of_ble_eq_true rfl⟩ hl.1 rfl (Nat.le_of_ble_eq_true rfl) dX9_land_96) hG (fun r96 st96 H locs hw hG => ?_)
      refine lv_if_eq (tgt := 105) hx hb dX9_land_99 (by decide) (fun hc => ?_) (fun hc => ?_)
      · replace hw := hw.1 hc
        exact z_X9_land_b105 l y  C  K  v2 st96 hG (lv_sub hl [0, 1] rfl) hw
      · replace hw := hw.2 hc
        refine lv_goto (tgt := 122) hx hb dX9_land_102 (by decide) ?_
        refine lv_iinc (v := (v2 + 1)) (lv' := [(2, .int (v2 + 1)), (0, .ref (ad y 0))]) hx hb dX9_land_122 hl (k := 1) rfl rfl (Nat.le_of_ble_eq_true rfl) rfl (fun ls hl => ?_)
        refine lv_goto (tgt := 86) hx hb dX9_land_125 (by decide) ?_
        exact hc86 (v2 + 1) st96 H locs _ hG (lv_sub hl [1, 0] rfl) hw
set_option maxRecDepth 100000 in
set_option maxHeartbeats 4000000 in
theorem z_X9_land_b60 {p : Program} {e : Env} {s : State} {m : MethodId} {args : Array Value} {below : List Frame} {meth : Method} {c : Code} (l : Launch) (y : Sy)  (C : Sd p s m args meth c cX9_land 3 RX9 (some .int) y)  (K : Int32 → St → Prop)  (v1 : Int32) (st : St) {H : Heap} {locs : List Loc} {ls : Array Slot} (hG : gH 17 enM y st s H locs) (hl : lv_has ls 3 [(0, .ref (ad y 0)), (1, .int v1)]) (hw : w_X9_land_b60   K v1 st) : W p l e (rmm 7 158) s m args below meth c H locs 0 0 (MQ below (va_Qi K (gB 17 enM y) (gA 17 y)) args s 0 0 (gA 17 y)) (F0 m 60 ls []) := by
  obtain ⟨hx, hb, hml, hown, hts, hr, hlk, hK, hN⟩ := id C
  unfold w_X9_land_b60 at hw
  refine lv_aload_n hx hb dX9_land_60 rfl (lv_at hl 0 rfl) ?_
  refine lv_iconst (v := 0) hx hb dX9_land_61 (by decide) ?_
  refine r_put (C := RX9) (T := TX9) (Nf := 31) hx hb hts hown hK hG (by decide) rfl rfl inX9 tyX9_ok nmX9 16 (by decide) qF_X9_76 rfl 0 rfl rfl rfl (Nat.le_of_ble_eq_true rfl) dX9_land_62 (fun H locs hG => ?_)
  refine lv_iload_n hx hb dX9_land_65 rfl (lv_at hl 1 rfl) ?_
  refine lv_if_ne (tgt := 78) hx hb dX9_land_66 (by decide) (fun hc => ?_) (fun hc => ?_)
  · replace hw := hw.1 hc
    refine lv_aload_n hx hb dX9_land_78 rfl (lv_at hl 0 rfl) ?_
    refine lv_iconst (v := 1) hx hb dX9_land_79 (by decide) ?_
    refine lv_iconst (v := 1) hx hb dX9_land_80 (by decide) ?_
    refine r_kv (r_run_V (k := 0) (As := [.int 1, .int 1]) (rest := []) hx hb hml hown hts hK hN hG (c_X9_passesAll l y 1 1 (u2 st 0 16 0) _ hw) (by decide) rfl rfl rfl qM_X9_144 qI_X9_passesAll qS_X9_passesAll qN_X9 qC_X9_passesAll hd_X9_passesAll ⟨Nat.le_of_ble_eq_true rfl, Nat.le_of_ble_eq_true rfl⟩ hl.1 rfl (Nat.le_of_ble_eq_true rfl) dX9_land_81) hG (fun st81 H locs hw hG => ?_)
    refine lv_iconst (v := 0) hx hb dX9_land_84 (by decide) ?_
    refine lv_istore_n (lv' := [(2, .int 0), (0, .ref (ad y 0)), (1, .int v1)]) hx hb dX9_land_85 rfl hl (Nat.le_of_ble_eq_true rfl) rfl (fun ls hl => ?_)
    obtain ⟨n86, hw⟩ := hw
    exact z_X9_land_L86 l y  C  K  n86 0 st81 H locs _ hG (lv_sub hl [1, 0] rfl) hw
  · replace hw := hw.2 hc
    refine lv_sipush (v := (-1000)) hx hb dX9_land_69 (by decide) ?_
    refine lv_aload_n hx hb dX9_land_72 rfl (lv_at hl 0 rfl) ?_
    refine r_get (C := RX9) (T := TX9) (Nf := 31) hx hb hts hown hK hG (by decide) rfl rfl inX9 17 (by decide) qF_X9_83 rfl dX9_land_73 ?_
    refine lv_isub hx hb dX9_land_76 ?_
    exact r_iret hx hb hr hlk hK hG rfl hw dX9_land_77
set_option maxRecDepth 100000 in
set_option maxHeartbeats 4000000 in
theorem z_X9_land_L12 {p : Program} {e : Env} {s : State} {m : MethodId} {args : Array Value} {below : List Frame} {meth : Method} {c : Code} (l : Launch) (y : Sy)  (C : Sd p s m args meth c cX9_land 3 RX9 (some .int) y)  (K : Int32 → St → Prop)  : ∀ (n : Nat) (v1 : Int32) (st : St) (H : Heap) (locs : List Loc) (ls : Array Slot), gH 17 enM y st s H locs → lv_has ls 3 [(0, .ref (ad y 0)), (1, .int v1)] → w_X9_land_L12   K n v1 st → W p l e (rmm 7 158) s m args below meth c H locs 0 0 (MQ below (va_Qi K (gB 17 enM y) (gA 17 y)) args s 0 0 (gA 17 y)) (F0 m 12 ls []) := by
  obtain ⟨hx, hb, hml, hown, hts, hr, hlk, hK, hN⟩ := id C
  intro n
  induction n with
  | zero => intro v1 st H locs ls hG hl hw; exact False.elim hw
  | succ n hc12 =>
    intro v1 st H locs ls hG hl hw
    have hw : w_X9_land_L12q   K (fun v1 st => w_X9_land_L12   K n v1 st) v1 st := hw
    unfold w_X9_land_L12q at hw
    refine lv_iload_n hx hb dX9_land_12 rfl (lv_at hl 1 rfl) ?_
    refine lv_if_eq (tgt := 60) hx hb dX9_land_13 (by decide) (fun hc => ?_) (fun hc => ?_)
    · replace hw := hw.1 hc
      exact z_X9_land_b60 l y  C  K  v1 st hG (lv_sub hl [0, 1] rfl) hw
    · replace hw := hw.2 hc
      refine lv_aload_n hx hb dX9_land_16 rfl (lv_at hl 0 rfl) ?_
      refine r_get (C := RX9) (T := TX9) (Nf := 31) hx hb hts hown hK hG (by decide) rfl rfl inX9 17 (by decide) qF_X9_83 rfl dX9_land_17 ?_
      refine lv_aload_n hx hb dX9_land_20 rfl (lv_at hl 0 rfl) ?_
      refine r_get (C := RX9) (T := TX9) (Nf := 31) hx hb hts hown hK hG (by decide) rfl rfl inX9 16 (by decide) qF_X9_76 rfl dX9_land_21 ?_
      refine lv_icmp_lt (tgt := 34) hx hb dX9_land_24 (by decide) (fun hc => ?_) (fun hc => ?_)
      · replace hw := hw.1 hc
        exact z_X9_land_b34 l y  C (fun v1 st => w_X9_land_L12   K n v1 st) K hc12 st hG (lv_sub hl [0] rfl) hw
      · replace hw := hw.2 hc
        refine lv_aload_n hx hb dX9_land_27 rfl (lv_at hl 0 rfl) ?_
        refine r_get (C := RX9) (T := TX9) (Nf := 31) hx hb hts hown hK hG (by decide) rfl rfl inX9 18 (by decide) qF_X9_98 rfl dX9_land_28 ?_
        refine lv_if_ne (tgt := 60) hx hb dX9_land_31 (by decide) (fun hc => ?_) (fun hc => ?_)
        · replace hw := hw.1 hc
          exact z_X9_land_b60 l y  C  K  v1 st hG (lv_sub hl [0, 1] rfl) hw
        · replace hw := hw.2 hc
          exact z_X9_land_b34 l y  C (fun v1 st => w_X9_land_L12   K n v1 st) K hc12 st hG (lv_sub hl [0] rfl) hw
theorem hd_X9_land : yX9_land.cls ≠ "java/lang/invoke/MethodHandle" ∧ yX9_land.cls ≠ "java/lang/invoke/VarHandle" ∧ (parseMethodDescriptor yX9_land.desc).map (fun d => d.parameters.length) = some 0 := by decide +kernel
set_option maxRecDepth 100000 in
set_option maxHeartbeats 4000000 in
theorem c_X9_land (l : Launch) (y : Sy)  (st : St) (K : Int32 → St → Prop) (hw : w_X9_land  st K) : Ci 17 enM l yX9_land cX9_land 3 (some .int) 7 158 y [.ref (ad y 0)] st K := by
  refine ent (by decide) (Nat.le_of_ble_eq_true rfl) ?_
  intro p e s m below meth c C hG ls hl
  have hl : lv_has ls 3 [(0, .ref (ad y 0))] := hl
  generalize ([.ref (ad y 0)] : List Value).toArray = args at C ⊢
  have C : Sd p s m args meth c cX9_land 3 RX9 (some .int) y := C
  obtain ⟨hx, hb, hml, hown, hts, hr, hlk, hK, hN⟩ := id C
  generalize s.heap = H at hG ⊢
  generalize ([] : List Loc) = locs at hG ⊢
  unfold w_X9_land at hw
  refine lv_aload_n hx hb dX9_land_0 rfl (lv_at hl 0 rfl) ?_
  refine lv_iconst (v := 0) hx hb dX9_land_1 (by decide) ?_
  refine r_put (C := RX9) (T := TX9) (Nf := 31) hx hb hts hown hK hG (by decide) rfl rfl inX9 tyX9_ok nmX9 17 (by decide) qF_X9_83 rfl 0 rfl rfl rfl (Nat.le_of_ble_eq_true rfl) dX9_land_2 (fun H locs hG => ?_)
  refine lv_aload_n hx hb dX9_land_5 rfl (lv_at hl 0 rfl) ?_
  refine lv_iconst (v := 0) hx hb dX9_land_6 (by decide) ?_
  refine r_put (C := RX9) (T := TX9) (Nf := 31) hx hb hts hown hK hG (by decide) rfl rfl inX9 tyX9_ok nmX9 18 (by decide) qF_X9_98 rfl 0 rfl rfl rfl (Nat.le_of_ble_eq_true rfl) dX9_land_7 (fun H locs hG => ?_)
  refine lv_iconst (v := 1) hx hb dX9_land_10 (by decide) ?_
  refine lv_istore_n (lv' := [(1, .int 1), (0, .ref (ad y 0))]) hx hb dX9_land_11 rfl hl (Nat.le_of_ble_eq_true rfl) rfl (fun ls hl => ?_)
  obtain ⟨n12, hw⟩ := hw
  exact z_X9_land_L12 l y  C  K  n12 1 (u2 (u2 st 0 17 0) 0 18 0) H locs _ hG (lv_sub hl [1, 0] rfl) hw
theorem hd_X9_thinks : yX9_thinks.cls ≠ "java/lang/invoke/MethodHandle" ∧ yX9_thinks.cls ≠ "java/lang/invoke/VarHandle" ∧ (parseMethodDescriptor yX9_thinks.desc).map (fun d => d.parameters.length) = some 0 := by decide +kernel
set_option maxRecDepth 100000 in
set_option maxHeartbeats 4000000 in
theorem c_X9_thinks (l : Launch) (y : Sy)  (st : St) (K : St → Prop) (hw : w_X9_thinks  st K) : Cv 17 enM l yX9_thinks cX9_thinks 1 none 2 44 y [.ref (ad y 0)] st K := by
  refine ent (by decide) (Nat.le_of_ble_eq_true rfl) ?_
  intro p e s m below meth c C hG ls hl
  have hl : lv_has ls 1 [(0, .ref (ad y 0))] := hl
  generalize ([.ref (ad y 0)] : List Value).toArray = args at C ⊢
  have C : Sd p s m args meth c cX9_thinks 1 RX9 none y := C
  obtain ⟨hx, hb, hml, hown, hts, hr, hlk, hK, hN⟩ := id C
  generalize s.heap = H at hG ⊢
  generalize ([] : List Loc) = locs at hG ⊢
  unfold w_X9_thinks at hw
  refine lv_aload_n hx hb dX9_thinks_0 rfl (lv_at hl 0 rfl) ?_
  refine lv_iconst (v := 2) hx hb dX9_thinks_1 (by decide) ?_
  refine lv_iconst (v := 1) hx hb dX9_thinks_2 (by decide) ?_
  refine r_kv (r_run_V (k := 0) (As := [.int 2, .int 1]) (rest := []) hx hb hml hown hts hK hN hG (c_X9_passesAll l y 2 1 st _ hw) (by decide) rfl rfl rfl qM_X9_144 qI_X9_passesAll qS_X9_passesAll qN_X9 qC_X9_passesAll hd_X9_passesAll ⟨Nat.le_of_ble_eq_true rfl, Nat.le_of_ble_eq_true rfl⟩ hl.1 rfl (Nat.le_of_ble_eq_true rfl) dX9_thinks_3) hG (fun st3 H locs hw hG => ?_)
  exact r_vret hx hb hr hlk hK hG hw dX9_thinks_6
theorem hd_X9_forgets : yX9_forgets.cls ≠ "java/lang/invoke/MethodHandle" ∧ yX9_forgets.cls ≠ "java/lang/invoke/VarHandle" ∧ (parseMethodDescriptor yX9_forgets.desc).map (fun d => d.parameters.length) = some 0 := by decide +kernel
set_option maxRecDepth 100000 in
set_option maxHeartbeats 4000000 in
theorem c_X9_forgets (l : Launch) (y : Sy)  (st : St) (K : St → Prop) (hw : w_X9_forgets  st K) : Cv 17 enM l yX9_forgets cX9_forgets 1 none 2 44 y [.ref (ad y 0)] st K := by
  refine ent (by decide) (Nat.le_of_ble_eq_true rfl) ?_
  intro p e s m below meth c C hG ls hl
  have hl : lv_has ls 1 [(0, .ref (ad y 0))] := hl
  generalize ([.ref (ad y 0)] : List Value).toArray = args at C ⊢
  have C : Sd p s m args meth c cX9_forgets 1 RX9 none y := C
  obtain ⟨hx, hb, hml, hown, hts, hr, hlk, hK, hN⟩ := id C
  generalize s.heap = H at hG ⊢
  generalize ([] : List Loc) = locs at hG ⊢
  unfold w_X9_forgets at hw
  refine lv_aload_n hx hb dX9_forgets_0 rfl (lv_at hl 0 rfl) ?_
  refine lv_iconst (v := 2) hx hb dX9_forgets_1 (by decide) ?_
  refine lv_iconst (v := 0) hx hb dX9_forgets_2 (by decide) ?_
  refine r_kv (r_run_V (k := 0) (As := [.int 2, .int 0]) (rest := []) hx hb hml hown hts hK hN hG (c_X9_passesAll l y 2 0 st _ hw) (by decide) rfl rfl rfl qM_X9_144 qI_X9_passesAll qS_X9_passesAll qN_X9 qC_X9_passesAll hd_X9_passesAll ⟨Nat.le_of_ble_eq_true rfl, Nat.le_of_ble_eq_true rfl⟩ hl.1 rfl (Nat.le_of_ble_eq_true rfl) dX9_forgets_3) hG (fun st3 H locs hw hG => ?_)
  exact r_vret hx hb hr hlk hK hG hw dX9_forgets_6
theorem hd_X9_changes : yX9_changes.cls ≠ "java/lang/invoke/MethodHandle" ∧ yX9_changes.cls ≠ "java/lang/invoke/VarHandle" ∧ (parseMethodDescriptor yX9_changes.desc).map (fun d => d.parameters.length) = some 0 := by decide +kernel
set_option maxRecDepth 100000 in
set_option maxHeartbeats 4000000 in
theorem c_X9_changes (l : Launch) (y : Sy)  (st : St) (K : St → Prop) (hw : w_X9_changes  st K) : Cv 17 enM l yX9_changes cX9_changes 1 none 2 44 y [.ref (ad y 0)] st K := by
  refine ent (by decide) (Nat.le_of_ble_eq_true rfl) ?_
  intro p e s m below meth c C hG ls hl
  have hl : lv_has ls 1 [(0, .ref (ad y 0))] := hl
  generalize ([.ref (ad y 0)] : List Value).toArray = args at C ⊢
  have C : Sd p s m args meth c cX9_changes 1 RX9 none y := C
  obtain ⟨hx, hb, hml, hown, hts, hr, hlk, hK, hN⟩ := id C
  generalize s.heap = H at hG ⊢
  generalize ([] : List Loc) = locs at hG ⊢
  unfold w_X9_changes at hw
  refine lv_aload_n hx hb dX9_changes_0 rfl (lv_at hl 0 rfl) ?_
  refine lv_iconst (v := 1) hx hb dX9_changes_1 (by decide) ?_
  refine lv_iconst (v := 1) hx hb dX9_changes_2 (by decide) ?_
  refine r_kv (r_run_V (k := 0) (As := [.int 1, .int 1]) (rest := []) hx hb hml hown hts hK hN hG (c_X9_passesAll l y 1 1 st _ hw) (by decide) rfl rfl rfl qM_X9_144 qI_X9_passesAll qS_X9_passesAll qN_X9 qC_X9_passesAll hd_X9_passesAll ⟨Nat.le_of_ble_eq_true rfl, Nat.le_of_ble_eq_true rfl⟩ hl.1 rfl (Nat.le_of_ble_eq_true rfl) dX9_changes_3) hG (fun st3 H locs hw hG => ?_)
  exact r_vret hx hb hr hlk hK hG hw dX9_changes_6
theorem hd_X9_changesBack : yX9_changesBack.cls ≠ "java/lang/invoke/MethodHandle" ∧ yX9_changesBack.cls ≠ "java/lang/invoke/VarHandle" ∧ (parseMethodDescriptor yX9_changesBack.desc).map (fun d => d.parameters.length) = some 0 := by decide +kernel
set_option maxRecDepth 100000 in
set_option maxHeartbeats 4000000 in
theorem c_X9_changesBack (l : Launch) (y : Sy)  (st : St) (K : St → Prop) (hw : w_X9_changesBack  st K) : Cv 17 enM l yX9_changesBack cX9_changesBack 1 none 2 44 y [.ref (ad y 0)] st K := by
  refine ent (by decide) (Nat.le_of_ble_eq_true rfl) ?_
  intro p e s m below meth c C hG ls hl
  have hl : lv_has ls 1 [(0, .ref (ad y 0))] := hl
  generalize ([.ref (ad y 0)] : List Value).toArray = args at C ⊢
  have C : Sd p s m args meth c cX9_changesBack 1 RX9 none y := C
  obtain ⟨hx, hb, hml, hown, hts, hr, hlk, hK, hN⟩ := id C
  generalize s.heap = H at hG ⊢
  generalize ([] : List Loc) = locs at hG ⊢
  unfold w_X9_changesBack at hw
  refine lv_aload_n hx hb dX9_changesBack_0 rfl (lv_at hl 0 rfl) ?_
  refine lv_iconst (v := 1) hx hb dX9_changesBack_1 (by decide) ?_
  refine lv_iconst (v := 0) hx hb dX9_changesBack_2 (by decide) ?_
  refine r_kv (r_run_V (k := 0) (As := [.int 1, .int 0]) (rest := []) hx hb hml hown hts hK hN hG (c_X9_passesAll l y 1 0 st _ hw) (by decide) rfl rfl rfl qM_X9_144 qI_X9_passesAll qS_X9_passesAll qN_X9 qC_X9_passesAll hd_X9_passesAll ⟨Nat.le_of_ble_eq_true rfl, Nat.le_of_ble_eq_true rfl⟩ hl.1 rfl (Nat.le_of_ble_eq_true rfl) dX9_changesBack_3) hG (fun st3 H locs hw hG => ?_)
  exact r_vret hx hb hr hlk hK hG hw dX9_changesBack_6
set_option maxRecDepth 100000 in
set_option maxHeartbeats 4000000 in
theorem z_X9_keepsBack_b51 {p : Program} {e : Env} {s : State} {m : MethodId} {args : Array Value} {below : List Frame} {meth : Method} {c : Code} (l : Launch) (y : Sy)  (C : Sd p s m args meth c cX9_keepsBack 2 RX9 none y)  (K : St → Prop)   (st : St) {H : Heap} {locs : List Loc} {ls : Array Slot} (hG : gH 17 enM y st s H locs) (hl : lv_has ls 2 [(0, .ref (ad y 0))]) (hw : w_X9_keepsBack_b51   K  st) : W p l e (rmm 2 44) s m args below meth c H locs 0 0 (MQ below (va_Qv K (gB 17 enM y) (gA 17 y)) args s 0 0 (gA 17 y)) (F0 m 51 ls []) := by
  obtain ⟨hx, hb, hml, hown, hts, hr, hlk, hK, hN⟩ := id C
  unfold w_X9_keepsBack_b51 at hw
  refine lv_aload_n hx hb dX9_keepsBack_51 rfl (lv_at hl 0 rfl) ?_
  refine lv_iconst (v := 3) hx hb dX9_keepsBack_52 (by decide) ?_
  refine lv_aload_n hx hb dX9_keepsBack_53 rfl (lv_at hl 0 rfl) ?_
  refine r_get (C := RX9) (T := TX9) (Nf := 31) hx hb hts hown hK hG (by decide) rfl rfl inX9 23 (by decide) qF_X9_151 rfl dX9_keepsBack_54 ?_
  refine lv_iadd hx hb dX9_keepsBack_57 ?_
  refine lv_iconst (v := 1) hx hb dX9_keepsBack_58 (by decide) ?_
  refine r_kv (r_run_V (k := 0) (As := [.int (3 + (st 0 23)), .int 1]) (rest := []) hx hb hml hown hts hK hN hG (c_X9_passesAll l y (3 + (st 0 23)) 1 st _ hw) (by decide) rfl rfl rfl qM_X9_144 qI_X9_passesAll qS_X9_passesAll qN_X9 qC_X9_passesAll hd_X9_passesAll ⟨Nat.le_of_ble_eq_true rfl, Nat.le_of_ble_eq_true rfl⟩ hl.1 rfl (Nat.le_of_ble_eq_true rfl) dX9_keepsBack_59) hG (fun st59 H locs hw hG => ?_)
  refine lv_aload_n hx hb dX9_keepsBack_62 rfl (lv_at hl 0 rfl) ?_
  refine lv_dup hx hb dX9_keepsBack_63 rfl ?_
  refine r_get (C := RX9) (T := TX9) (Nf := 31) hx hb hts hown hK hG (by decide) rfl rfl inX9 23 (by decide) qF_X9_151 rfl dX9_keepsBack_64 ?_
  refine lv_iconst (v := 1) hx hb dX9_keepsBack_67 (by decide) ?_
  refine lv_iadd hx hb dX9_keepsBack_68 ?_
  refine r_put (C := RX9) (T := TX9) (Nf := 31) hx hb hts hown hK hG (by decide) rfl rfl inX9 tyX9_ok nmX9 23 (by decide) qF_X9_151 rfl ((st59 0 23) + 1) rfl rfl rfl (Nat.le_of_ble_eq_true rfl) dX9_keepsBack_69 (fun H locs hG => ?_)
  exact r_vret hx hb hr hlk hK hG hw dX9_keepsBack_72
set_option maxRecDepth 100000 in
set_option maxHeartbeats 4000000 in
theorem z_X9_keepsBack_b41 {p : Program} {e : Env} {s : State} {m : MethodId} {args : Array Value} {below : List Frame} {meth : Method} {c : Code} (l : Launch) (y : Sy)  (C : Sd p s m args meth c cX9_keepsBack 2 RX9 none y)  (K : St → Prop)   (st : St) {H : Heap} {locs : List Loc} {ls : Array Slot} (hG : gH 17 enM y st s H locs) (hl : lv_has ls 2 [(0, .ref (ad y 0))]) (hw : w_X9_keepsBack_b41   K  st) : W p l e (rmm 2 44) s m args below meth c H locs 0 0 (MQ below (va_Qv K (gB 17 enM y) (gA 17 y)) args s 0 0 (gA 17 y)) (F0 m 41 ls []) := by
  obtain ⟨hx, hb, hml, hown, hts, hr, hlk, hK, hN⟩ := id C
  unfold w_X9_keepsBack_b41 at hw
  refine lv_aload_n hx hb dX9_keepsBack_41 rfl (lv_at hl 0 rfl) ?_
  refine lv_dup hx hb dX9_keepsBack_42 rfl ?_
  refine r_get (C := RX9) (T := TX9) (Nf := 31) hx hb hts hown hK hG (by decide) rfl rfl inX9 23 (by decide) qF_X9_151 rfl dX9_keepsBack_43 ?_
  refine lv_iconst (v := 1) hx hb dX9_keepsBack_46 (by decide) ?_
  refine lv_isub hx hb dX9_keepsBack_47 ?_
  refine r_put (C := RX9) (T := TX9) (Nf := 31) hx hb hts hown hK hG (by decide) rfl rfl inX9 tyX9_ok nmX9 23 (by decide) qF_X9_151 rfl ((st 0 23) - 1) rfl rfl rfl (Nat.le_of_ble_eq_true rfl) dX9_keepsBack_48 (fun H locs hG => ?_)
  exact z_X9_keepsBack_b51 l y  C  K  (u2 st 0 23 ((st 0 23) - 1)) hG (lv_sub hl [0] rfl) hw
set_option maxRecDepth 100000 in
set_option maxHeartbeats 4000000 in
theorem z_X9_keepsBack_L13 {p : Program} {e : Env} {s : State} {m : MethodId} {args : Array Value} {below : List Frame} {meth : Method} {c : Code} (l : Launch) (y : Sy)  (C : Sd p s m args meth c cX9_keepsBack 2 RX9 none y)  (K : St → Prop)  : ∀ (n : Nat) (v1 : Int32) (st : St) (H : Heap) (locs : List Loc) (ls : Array Slot), gH 17 enM y st s H locs → lv_has ls 2 [(0, .ref (ad y 0)), (1, .int v1)] → w_X9_keepsBack_L13   K n v1 st → W p l e (rmm 2 44) s m args below meth c H locs 0 0 (MQ below (va_Qv K (gB 17 enM y) (gA 17 y)) args s 0 0 (gA 17 y)) (F0 m 13 ls []) := by
  obtain ⟨hx, hb, hml, hown, hts, hr, hlk, hK, hN⟩ := id C
  intro n
  induction n with
  | zero => intro v1 st H locs ls hG hl hw; exact False.elim hw
  | succ n hc13 =>
    intro v1 st H locs ls hG hl hw
    have hw : w_X9_keepsBack_L13q   K (fun v1 st => w_X9_keepsBack_L13   K n v1 st) v1 st := hw
    unfold w_X9_keepsBack_L13q at hw
    refine lv_iload_n hx hb dX9_keepsBack_13 rfl (lv_at hl 1 rfl) ?_
    refine lv_sipush (v := 750) hx hb dX9_keepsBack_14 (by decide) ?_
    refine lv_icmp_ge (tgt := 41) hx hb dX9_keepsBack_17 (by decide) (fun hc => ?_) (fun hc => ?_)
    · replace hw := hw.1 hc
      exact z_X9_keepsBack_b41 l y  C  K  st hG (lv_sub hl [0] rfl) hw
    · replace hw := hw.2 hc
      refine lv_aload_n hx hb dX9_keepsBack_20 rfl (lv_at hl 0 rfl) ?_
      refine r_get (C := RX9) (T := TX9) (Nf := 31) hx hb hts hown hK hG (by decide) rfl rfl inX9 19 (by decide) qF_X9_46 rfl dX9_keepsBack_21 ?_
      refine lv_iload_n hx hb dX9_keepsBack_24 rfl (lv_at hl 1 rfl) ?_
      refine lv_aload_n hx hb dX9_keepsBack_25 rfl (lv_at hl 0 rfl) ?_
      refine r_get (C := RX9) (T := TX9) (Nf := 31) hx hb hts hown hK hG (by decide) rfl rfl inX9 19 (by decide) qF_X9_46 rfl dX9_keepsBack_26 ?_
      refine lv_iload_n hx hb dX9_keepsBack_29 rfl (lv_at hl 1 rfl) ?_
      refine lv_bipush (v := 75) hx hb dX9_keepsBack_30 (by decide) ?_
      refine lv_iadd hx hb dX9_keepsBack_32 ?_
      obtain ⟨hi, hw⟩ := hw
      refine r_iald hx hb hK hG (isB_13).1 ((isB_13).2 y _) hi dX9_keepsBack_33 ?_
      obtain ⟨hi, hw⟩ := hw
      refine r_iast hx hb hK hG (isB_13).1 (fun f => (isB_13).2 y f) hi dX9_keepsBack_34 (fun H locs hG => ?_)
      refine lv_iinc (v := (v1 + 1)) (lv' := [(1, .int (v1 + 1)), (0, .ref (ad y 0))]) hx hb dX9_keepsBack_35 hl (k := 1) rfl rfl (Nat.le_of_ble_eq_true rfl) rfl (fun ls hl => ?_)
      refine lv_goto (tgt := 13) hx hb dX9_keepsBack_38 (by decide) ?_
      exact hc13 (v1 + 1) (u2 st 13 (v1).toNatClampNeg (st 13 ((v1 + 75)).toNatClampNeg)) H locs _ hG (lv_sub hl [1, 0] rfl) hw
theorem hd_X9_keepsBack : yX9_keepsBack.cls ≠ "java/lang/invoke/MethodHandle" ∧ yX9_keepsBack.cls ≠ "java/lang/invoke/VarHandle" ∧ (parseMethodDescriptor yX9_keepsBack.desc).map (fun d => d.parameters.length) = some 0 := by decide +kernel
set_option maxRecDepth 100000 in
set_option maxHeartbeats 4000000 in
theorem c_X9_keepsBack (l : Launch) (y : Sy)  (st : St) (K : St → Prop) (hw : w_X9_keepsBack  st K) : Cv 17 enM l yX9_keepsBack cX9_keepsBack 2 none 2 44 y [.ref (ad y 0)] st K := by
  refine ent (by decide) (Nat.le_of_ble_eq_true rfl) ?_
  intro p e s m below meth c C hG ls hl
  have hl : lv_has ls 2 [(0, .ref (ad y 0))] := hl
  generalize ([.ref (ad y 0)] : List Value).toArray = args at C ⊢
  have C : Sd p s m args meth c cX9_keepsBack 2 RX9 none y := C
  obtain ⟨hx, hb, hml, hown, hts, hr, hlk, hK, hN⟩ := id C
  generalize s.heap = H at hG ⊢
  generalize ([] : List Loc) = locs at hG ⊢
  unfold w_X9_keepsBack at hw
  refine lv_aload_n hx hb dX9_keepsBack_0 rfl (lv_at hl 0 rfl) ?_
  refine r_get (C := RX9) (T := TX9) (Nf := 31) hx hb hts hown hK hG (by decide) rfl rfl inX9 23 (by decide) qF_X9_151 rfl dX9_keepsBack_1 ?_
  refine lv_bipush (v := 8) hx hb dX9_keepsBack_4 (by decide) ?_
  refine lv_icmp_ne (tgt := 51) hx hb dX9_keepsBack_6 (by decide) (fun hc => ?_) (fun hc => ?_)
  · replace hw := hw.1 hc
    exact z_X9_keepsBack_b51 l y  C  K  st hG (lv_sub hl [0] rfl) hw
  · replace hw := hw.2 hc
    refine lv_sipush (v := 225) hx hb dX9_keepsBack_9 (by decide) ?_
    refine lv_istore_n (lv' := [(1, .int 225), (0, .ref (ad y 0))]) hx hb dX9_keepsBack_12 rfl hl (Nat.le_of_ble_eq_true rfl) rfl (fun ls hl => ?_)
    obtain ⟨n13, hw⟩ := hw
    exact z_X9_keepsBack_L13 l y  C  K  n13 225 st H locs _ hG (lv_sub hl [1, 0] rfl) hw
theorem hd_X9_back : yX9_back.cls ≠ "java/lang/invoke/MethodHandle" ∧ yX9_back.cls ≠ "java/lang/invoke/VarHandle" ∧ (parseMethodDescriptor yX9_back.desc).map (fun d => d.parameters.length) = some 0 := by decide +kernel
set_option maxRecDepth 100000 in
set_option maxHeartbeats 4000000 in
theorem c_X9_back (l : Launch) (y : Sy)  (st : St) (K : Int32 → St → Prop) (hw : w_X9_back  st K) : Ci 17 enM l yX9_back cX9_back 1 (some .int) 2 44 y [.ref (ad y 0)] st K := by
  refine ent (by decide) (Nat.le_of_ble_eq_true rfl) ?_
  intro p e s m below meth c C hG ls hl
  have hl : lv_has ls 1 [(0, .ref (ad y 0))] := hl
  generalize ([.ref (ad y 0)] : List Value).toArray = args at C ⊢
  have C : Sd p s m args meth c cX9_back 1 RX9 (some .int) y := C
  obtain ⟨hx, hb, hml, hown, hts, hr, hlk, hK, hN⟩ := id C
  generalize s.heap = H at hG ⊢
  generalize ([] : List Loc) = locs at hG ⊢
  unfold w_X9_back at hw
  refine lv_aload_n hx hb dX9_back_0 rfl (lv_at hl 0 rfl) ?_
  refine r_get (C := RX9) (T := TX9) (Nf := 31) hx hb hts hown hK hG (by decide) rfl rfl inX9 23 (by decide) qF_X9_151 rfl dX9_back_1 ?_
  refine lv_if_ne (tgt := 14) hx hb dX9_back_4 (by decide) (fun hc => ?_) (fun hc => ?_)
  · replace hw := hw.1 hc
    refine lv_aload_n hx hb dX9_back_14 rfl (lv_at hl 0 rfl) ?_
    refine lv_dup hx hb dX9_back_15 rfl ?_
    refine r_get (C := RX9) (T := TX9) (Nf := 31) hx hb hts hown hK hG (by decide) rfl rfl inX9 23 (by decide) qF_X9_151 rfl dX9_back_16 ?_
    refine lv_iconst (v := 1) hx hb dX9_back_19 (by decide) ?_
    refine lv_isub hx hb dX9_back_20 ?_
    refine r_put (C := RX9) (T := TX9) (Nf := 31) hx hb hts hown hK hG (by decide) rfl rfl inX9 tyX9_ok nmX9 23 (by decide) qF_X9_151 rfl ((st 0 23) - 1) rfl rfl rfl (Nat.le_of_ble_eq_true rfl) dX9_back_21 (fun H locs hG => ?_)
    refine lv_aload_n hx hb dX9_back_24 rfl (lv_at hl 0 rfl) ?_
    refine lv_iconst (v := 3) hx hb dX9_back_25 (by decide) ?_
    refine lv_aload_n hx hb dX9_back_26 rfl (lv_at hl 0 rfl) ?_
    refine r_get (C := RX9) (T := TX9) (Nf := 31) hx hb hts hown hK hG (by decide) rfl rfl inX9 23 (by decide) qF_X9_151 rfl dX9_back_27 ?_
    refine lv_iadd hx hb dX9_back_30 ?_
    refine lv_iconst (v := 0) hx hb dX9_back_31 (by decide) ?_
    refine r_kv (r_run_V (k := 0) (As := [.int (3 + ((u2 st 0 23 ((st 0 23) - 1)) 0 23)), .int 0]) (rest := []) hx hb hml hown hts hK hN hG (c_X9_passesAll l y (3 + ((u2 st 0 23 ((st 0 23) - 1)) 0 23)) 0 (u2 st 0 23 ((st 0 23) - 1)) _ hw) (by decide) rfl rfl rfl qM_X9_144 qI_X9_passesAll qS_X9_passesAll qN_X9 qC_X9_passesAll hd_X9_passesAll ⟨Nat.le_of_ble_eq_true rfl, Nat.le_of_ble_eq_true rfl⟩ hl.1 rfl (Nat.le_of_ble_eq_true rfl) dX9_back_32) hG (fun st32 H locs hw hG => ?_)
    refine lv_aload_n hx hb dX9_back_35 rfl (lv_at hl 0 rfl) ?_
    refine r_get (C := RX9) (T := TX9) (Nf := 31) hx hb hts hown hK hG (by decide) rfl rfl inX9 23 (by decide) qF_X9_151 rfl dX9_back_36 ?_
    exact r_iret hx hb hr hlk hK hG rfl hw dX9_back_39
  · replace hw := hw.2 hc
    refine lv_aload_n hx hb dX9_back_7 rfl (lv_at hl 0 rfl) ?_
    refine lv_bipush (v := (-3)) hx hb dX9_back_8 (by decide) ?_
    refine r_ki (r_run_V (k := 0) (As := [.int (-3)]) (rest := []) hx hb hml hown hts hK hN hG (c_X9_no l y (-3) st _ hw) (by decide) rfl rfl rfl qM_X9_79 qI_X9_no qS_X9_no qN_X9 qC_X9_no hd_X9_no ⟨Nat.le_of_ble_eq_true rfl, Nat.le_of_ble_eq_true rfl⟩ hl.1 rfl (Nat.le_of_ble_eq_true rfl) dX9_back_10) hG (fun r10 st10 H locs hw hG => ?_)
    exact r_iret hx hb hr hlk hK hG rfl hw dX9_back_13
theorem hd_X9_image : yX9_image.cls ≠ "java/lang/invoke/MethodHandle" ∧ yX9_image.cls ≠ "java/lang/invoke/VarHandle" ∧ (parseMethodDescriptor yX9_image.desc).map (fun d => d.parameters.length) = some 0 := by decide +kernel
set_option maxRecDepth 100000 in
set_option maxHeartbeats 4000000 in
theorem c_X9_image (l : Launch) (y : Sy)  (st : St) (K : Int32 → St → Prop) (hw : w_X9_image  st K) : Ci 17 enM l yX9_image cX9_image 1 (some .int) 2 44 y [.ref (ad y 0)] st K := by
  refine ent (by decide) (Nat.le_of_ble_eq_true rfl) ?_
  intro p e s m below meth c C hG ls hl
  have hl : lv_has ls 1 [(0, .ref (ad y 0))] := hl
  generalize ([.ref (ad y 0)] : List Value).toArray = args at C ⊢
  have C : Sd p s m args meth c cX9_image 1 RX9 (some .int) y := C
  obtain ⟨hx, hb, hml, hown, hts, hr, hlk, hK, hN⟩ := id C
  generalize s.heap = H at hG ⊢
  generalize ([] : List Loc) = locs at hG ⊢
  unfold w_X9_image at hw
  refine lv_aload_n hx hb dX9_image_0 rfl (lv_at hl 0 rfl) ?_
  refine lv_iconst (v := 1) hx hb dX9_image_1 (by decide) ?_
  refine r_put (C := RX9) (T := TX9) (Nf := 31) hx hb hts hown hK hG (by decide) rfl rfl inX9 tyX9_ok nmX9 20 (by decide) qF_X9_168 rfl 1 rfl rfl rfl (Nat.le_of_ble_eq_true rfl) dX9_image_2 (fun H locs hG => ?_)
  refine lv_aload_n hx hb dX9_image_5 rfl (lv_at hl 0 rfl) ?_
  refine lv_iconst (v := 0) hx hb dX9_image_6 (by decide) ?_
  refine lv_iconst (v := 1) hx hb dX9_image_7 (by decide) ?_
  refine r_kv (r_run_V (k := 0) (As := [.int 0, .int 1]) (rest := []) hx hb hml hown hts hK hN hG (c_X9_passesAll l y 0 1 (u2 st 0 20 1) _ hw) (by decide) rfl rfl rfl qM_X9_144 qI_X9_passesAll qS_X9_passesAll qN_X9 qC_X9_passesAll hd_X9_passesAll ⟨Nat.le_of_ble_eq_true rfl, Nat.le_of_ble_eq_true rfl⟩ hl.1 rfl (Nat.le_of_ble_eq_true rfl) dX9_image_8) hG (fun st8 H locs hw hG => ?_)
  refine lv_aload_n hx hb dX9_image_11 rfl (lv_at hl 0 rfl) ?_
  refine r_get (C := RX9) (T := TX9) (Nf := 31) hx hb hts hown hK hG (by decide) rfl rfl inX9 10 (by decide) qF_X9_115 rfl dX9_image_12 ?_
  exact r_iret hx hb hr hlk hK hG rfl hw dX9_image_15
theorem hd_X9_restore : yX9_restore.cls ≠ "java/lang/invoke/MethodHandle" ∧ yX9_restore.cls ≠ "java/lang/invoke/VarHandle" ∧ (parseMethodDescriptor yX9_restore.desc).map (fun d => d.parameters.length) = some 0 := by decide +kernel
set_option maxRecDepth 100000 in
set_option maxHeartbeats 4000000 in
theorem c_X9_restore (l : Launch) (y : Sy)  (st : St) (K : Int32 → St → Prop) (hw : w_X9_restore  st K) : Ci 17 enM l yX9_restore cX9_restore 1 (some .int) 2 44 y [.ref (ad y 0)] st K := by
  refine ent (by decide) (Nat.le_of_ble_eq_true rfl) ?_
  intro p e s m below meth c C hG ls hl
  have hl : lv_has ls 1 [(0, .ref (ad y 0))] := hl
  generalize ([.ref (ad y 0)] : List Value).toArray = args at C ⊢
  have C : Sd p s m args meth c cX9_restore 1 RX9 (some .int) y := C
  obtain ⟨hx, hb, hml, hown, hts, hr, hlk, hK, hN⟩ := id C
  generalize s.heap = H at hG ⊢
  generalize ([] : List Loc) = locs at hG ⊢
  unfold w_X9_restore at hw
  refine lv_aload_n hx hb dX9_restore_0 rfl (lv_at hl 0 rfl) ?_
  refine r_get (C := RX9) (T := TX9) (Nf := 31) hx hb hts hown hK hG (by decide) rfl rfl inX9 20 (by decide) qF_X9_168 rfl dX9_restore_1 ?_
  refine lv_if_ne (tgt := 14) hx hb dX9_restore_4 (by decide) (fun hc => ?_) (fun hc => ?_)
  · replace hw := hw.1 hc
    refine lv_aload_n hx hb dX9_restore_14 rfl (lv_at hl 0 rfl) ?_
    refine lv_iconst (v := 0) hx hb dX9_restore_15 (by decide) ?_
    refine lv_iconst (v := 0) hx hb dX9_restore_16 (by decide) ?_
    refine r_kv (r_run_V (k := 0) (As := [.int 0, .int 0]) (rest := []) hx hb hml hown hts hK hN hG (c_X9_passesAll l y 0 0 st _ hw) (by decide) rfl rfl rfl qM_X9_144 qI_X9_passesAll qS_X9_passesAll qN_X9 qC_X9_passesAll hd_X9_passesAll ⟨Nat.le_of_ble_eq_true rfl, Nat.le_of_ble_eq_true rfl⟩ hl.1 rfl (Nat.le_of_ble_eq_true rfl) dX9_restore_17) hG (fun st17 H locs hw hG => ?_)
    refine lv_aload_n hx hb dX9_restore_20 rfl (lv_at hl 0 rfl) ?_
    refine lv_iconst (v := 0) hx hb dX9_restore_21 (by decide) ?_
    refine r_put (C := RX9) (T := TX9) (Nf := 31) hx hb hts hown hK hG (by decide) rfl rfl inX9 tyX9_ok nmX9 23 (by decide) qF_X9_151 rfl 0 rfl rfl rfl (Nat.le_of_ble_eq_true rfl) dX9_restore_22 (fun H locs hG => ?_)
    refine lv_aload_n hx hb dX9_restore_25 rfl (lv_at hl 0 rfl) ?_
    refine r_get (C := RX9) (T := TX9) (Nf := 31) hx hb hts hown hK hG (by decide) rfl rfl inX9 10 (by decide) qF_X9_115 rfl dX9_restore_26 ?_
    exact r_iret hx hb hr hlk hK hG rfl hw dX9_restore_29
  · replace hw := hw.2 hc
    refine lv_aload_n hx hb dX9_restore_7 rfl (lv_at hl 0 rfl) ?_
    refine lv_bipush (v := (-3)) hx hb dX9_restore_8 (by decide) ?_
    refine r_ki (r_run_V (k := 0) (As := [.int (-3)]) (rest := []) hx hb hml hown hts hK hN hG (c_X9_no l y (-3) st _ hw) (by decide) rfl rfl rfl qM_X9_79 qI_X9_no qS_X9_no qN_X9 qC_X9_no hd_X9_no ⟨Nat.le_of_ble_eq_true rfl, Nat.le_of_ble_eq_true rfl⟩ hl.1 rfl (Nat.le_of_ble_eq_true rfl) dX9_restore_10) hG (fun r10 st10 H locs hw hG => ?_)
    exact r_iret hx hb hr hlk hK hG rfl hw dX9_restore_13
theorem hd_X9_payOf : yX9_payOf.cls ≠ "java/lang/invoke/MethodHandle" ∧ yX9_payOf.cls ≠ "java/lang/invoke/VarHandle" ∧ (parseMethodDescriptor yX9_payOf.desc).map (fun d => d.parameters.length) = some 1 := by decide +kernel
set_option maxRecDepth 100000 in
set_option maxHeartbeats 4000000 in
theorem c_X9_payOf (l : Launch) (y : Sy) (x1 : Int32) (st : St) (K : Int32 → St → Prop) (hw : w_X9_payOf x1 st K) : Ci 17 enM l yX9_payOf cX9_payOf 2 (some .int) 0 0 y [.ref (ad y 0), .int x1] st K := by
  refine ent (by decide) (Nat.le_of_ble_eq_true rfl) ?_
  intro p e s m below meth c C hG ls hl
  have hl : lv_has ls 2 [(0, .ref (ad y 0)), (1, .int x1)] := hl
  generalize ([.ref (ad y 0), .int x1] : List Value).toArray = args at C ⊢
  have C : Sd p s m args meth c cX9_payOf 2 RX9 (some .int) y := C
  obtain ⟨hx, hb, hml, hown, hts, hr, hlk, hK, hN⟩ := id C
  generalize s.heap = H at hG ⊢
  generalize ([] : List Loc) = locs at hG ⊢
  unfold w_X9_payOf at hw
  refine lv_aload_n hx hb dX9_payOf_0 rfl (lv_at hl 0 rfl) ?_
  refine r_get (C := RX9) (T := TX9) (Nf := 31) hx hb hts hown hK hG (by decide) rfl rfl inX9 1 (by decide) qF_X9_13 rfl dX9_payOf_1 ?_
  refine lv_iload_n hx hb dX9_payOf_4 rfl (lv_at hl 1 rfl) ?_
  obtain ⟨hi, hw⟩ := hw
  refine r_iald hx hb hK hG (isB_2).1 ((isB_2).2 y _) hi dX9_payOf_5 ?_
  by_cases g1 : (st 2 (x1).toNatClampNeg) = 1
  · replace hw := hw.1 g1
    refine r_tabin (v := 1) (tgt := 40) hx hb dX9_payOf_6 g1 (by decide) (by decide) rfl (by decide) ?_
    refine lv_iconst (v := 2) hx hb dX9_payOf_40 (by decide) ?_
    refine lv_aload_n hx hb dX9_payOf_41 rfl (lv_at hl 0 rfl) ?_
    refine r_get (C := RX9) (T := TX9) (Nf := 31) hx hb hts hown hK hG (by decide) rfl rfl inX9 2 (by decide) qF_X9_16 rfl dX9_payOf_42 ?_
    refine lv_iload_n hx hb dX9_payOf_45 rfl (lv_at hl 1 rfl) ?_
    obtain ⟨hi, hw⟩ := hw
    refine r_iald hx hb hK hG (isB_3).1 ((isB_3).2 y _) hi dX9_payOf_46 ?_
    refine lv_imul hx hb dX9_payOf_47 ?_
    refine lv_iconst (v := 2) hx hb dX9_payOf_48 (by decide) ?_
    refine lv_iadd hx hb dX9_payOf_49 ?_
    exact r_iret hx hb hr hlk hK hG rfl hw dX9_payOf_50
  replace hw := hw.2 g1
  by_cases g2 : (st 2 (x1).toNatClampNeg) = 2
  · replace hw := hw.1 g2
    refine r_tabin (v := 2) (tgt := 51) hx hb dX9_payOf_6 g2 (by decide) (by decide) rfl (by decide) ?_
    refine lv_iconst (v := 5) hx hb dX9_payOf_51 (by decide) ?_
    exact r_iret hx hb hr hlk hK hG rfl hw dX9_payOf_52
  replace hw := hw.2 g2
  by_cases g3 : (st 2 (x1).toNatClampNeg) = 3
  · replace hw := hw.1 g3
    refine r_tabin (v := 3) (tgt := 53) hx hb dX9_payOf_6 g3 (by decide) (by decide) rfl (by decide) ?_
    refine lv_iconst (v := 0) hx hb dX9_payOf_53 (by decide) ?_
    exact r_iret hx hb hr hlk hK hG rfl hw dX9_payOf_54
  replace hw := hw.2 g3
  by_cases g4 : (st 2 (x1).toNatClampNeg) = 4
  · replace hw := hw.1 g4
    refine r_tabin (v := 4) (tgt := 55) hx hb dX9_payOf_6 g4 (by decide) (by decide) rfl (by decide) ?_
    refine lv_iconst (v := 2) hx hb dX9_payOf_55 (by decide) ?_
    refine lv_aload_n hx hb dX9_payOf_56 rfl (lv_at hl 0 rfl) ?_
    refine r_get (C := RX9) (T := TX9) (Nf := 31) hx hb hts hown hK hG (by decide) rfl rfl inX9 2 (by decide) qF_X9_16 rfl dX9_payOf_57 ?_
    refine lv_iload_n hx hb dX9_payOf_60 rfl (lv_at hl 1 rfl) ?_
    obtain ⟨hi, hw⟩ := hw
    refine r_iald hx hb hK hG (isB_3).1 ((isB_3).2 y _) hi dX9_payOf_61 ?_
    refine lv_imul hx hb dX9_payOf_62 ?_
    refine lv_iconst (v := 1) hx hb dX9_payOf_63 (by decide) ?_
    refine lv_iadd hx hb dX9_payOf_64 ?_
    exact r_iret hx hb hr hlk hK hG rfl hw dX9_payOf_65
  replace hw := hw.2 g4
  by_cases g5 : (st 2 (x1).toNatClampNeg) = 5
  · replace hw := hw.1 g5
    refine r_tabin (v := 5) (tgt := 66) hx hb dX9_payOf_6 g5 (by decide) (by decide) rfl (by decide) ?_
    refine lv_iconst (v := 2) hx hb dX9_payOf_66 (by decide) ?_
    exact r_iret hx hb hr hlk hK hG rfl hw dX9_payOf_67
  replace hw := hw.2 g5
  refine r_tabdef (tgt := 68) hx hb dX9_payOf_6 (by decide) (fun v q1 q2 q3 => ?_) ?_
  · rcases (show v = 1 ∨ v = 2 ∨ v = 3 ∨ v = 4 ∨ v = 5 by omega) with rfl | rfl | rfl | rfl | rfl
    · exact absurd (r_toI (v := 1) q3) g1
    · exact absurd (r_toI (v := 2) q3) g2
    · exact absurd (r_toI (v := 3) q3) g3
    · exact absurd (r_toI (v := 4) q3) g4
    · exact absurd (r_toI (v := 5) q3) g5
  refine lv_aload_n hx hb dX9_payOf_68 rfl (lv_at hl 0 rfl) ?_
  refine r_get (C := RX9) (T := TX9) (Nf := 31) hx hb hts hown hK hG (by decide) rfl rfl inX9 2 (by decide) qF_X9_16 rfl dX9_payOf_69 ?_
  refine lv_iload_n hx hb dX9_payOf_72 rfl (lv_at hl 1 rfl) ?_
  obtain ⟨hi, hw⟩ := hw
  refine r_iald hx hb hK hG (isB_3).1 ((isB_3).2 y _) hi dX9_payOf_73 ?_
  refine lv_iconst (v := 1) hx hb dX9_payOf_74 (by decide) ?_
  refine lv_iadd hx hb dX9_payOf_75 ?_
  exact r_iret hx hb hr hlk hK hG rfl hw dX9_payOf_76
set_option maxRecDepth 100000 in
set_option maxHeartbeats 4000000 in
theorem z_X9_openOnes_L4 {p : Program} {e : Env} {s : State} {m : MethodId} {args : Array Value} {below : List Frame} {meth : Method} {c : Code} (l : Launch) (y : Sy)  (C : Sd p s m args meth c cX9_openOnes 3 RX9 (some .int) y)  (K : Int32 → St → Prop)  : ∀ (n : Nat) (v1 : Int32) (v2 : Int32) (st : St) (H : Heap) (locs : List Loc) (ls : Array Slot), gH 17 enM y st s H locs → lv_has ls 3 [(0, .ref (ad y 0)), (1, .int v1), (2, .int v2)] → w_X9_openOnes_L4   K n v1 v2 st → W p l e (rmm 0 0) s m args below meth c H locs 0 0 (MQ below (va_Qi K (gB 17 enM y) (gA 17 y)) args s 0 0 (gA 17 y)) (F0 m 4 ls []) := by
  obtain ⟨hx, hb, hml, hown, hts, hr, hlk, hK, hN⟩ := id C
  intro n
  induction n with
  | zero => intro v1 v2 st H locs ls hG hl hw; exact False.elim hw
  | succ n hc4 =>
    intro v1 v2 st H locs ls hG hl hw
    have hw : w_X9_openOnes_L4q   K (fun v1 v2 st => w_X9_openOnes_L4   K n v1 v2 st) v1 v2 st := hw
    unfold w_X9_openOnes_L4q at hw
    refine lv_iload_n hx hb dX9_openOnes_4 rfl (lv_at hl 2 rfl) ?_
    refine lv_aload_n hx hb dX9_openOnes_5 rfl (lv_at hl 0 rfl) ?_
    refine r_get (C := RX9) (T := TX9) (Nf := 31) hx hb hts hown hK hG (by decide) rfl rfl inX9 9 (by decide) qF_X9_58 rfl dX9_openOnes_6 ?_
    refine lv_icmp_ge (tgt := 29) hx hb dX9_openOnes_9 (by decide) (fun hc => ?_) (fun hc => ?_)
    · replace hw := hw.1 hc
      refine lv_iload_n hx hb dX9_openOnes_29 rfl (lv_at hl 1 rfl) ?_
      exact r_iret hx hb hr hlk hK hG rfl hw dX9_openOnes_30
    · replace hw := hw.2 hc
      refine lv_iload_n hx hb dX9_openOnes_12 rfl (lv_at hl 1 rfl) ?_
      refine lv_aload_n hx hb dX9_openOnes_13 rfl (lv_at hl 0 rfl) ?_
      refine r_get (C := RX9) (T := TX9) (Nf := 31) hx hb hts hown hK hG (by decide) rfl rfl inX9 7 (by decide) qF_X9_31 rfl dX9_openOnes_14 ?_
      refine lv_iload_n hx hb dX9_openOnes_17 rfl (lv_at hl 2 rfl) ?_
      obtain ⟨hi, hw⟩ := hw
      refine r_iald hx hb hK hG (isB_8).1 ((isB_8).2 y _) hi dX9_openOnes_18 ?_
      refine lv_iload_n hx hb dX9_openOnes_19 rfl (lv_at hl 2 rfl) ?_
      refine lv_ishl hx hb dX9_openOnes_20 ?_
      refine lv_ior hx hb dX9_openOnes_21 ?_
      refine lv_istore_n (lv' := [(1, .int (v1 ||| ((st 8 (v2).toNatClampNeg) <<< (v2 &&& 31)))), (0, .ref (ad y 0)), (2, .int v2)]) hx hb dX9_openOnes_22 rfl hl (Nat.le_of_ble_eq_true rfl) rfl (fun ls hl => ?_)
      refine lv_iinc (v := (v2 + 1)) (lv' := [(2, .int (v2 + 1)), (1, .int (v1 ||| ((st 8 (v2).toNatClampNeg) <<< (v2 &&& 31)))), (0, .ref (ad y 0))]) hx hb dX9_openOnes_23 hl (k := 2) rfl rfl (Nat.le_of_ble_eq_true rfl) rfl (fun ls hl => ?_)
      refine lv_goto (tgt := 4) hx hb dX9_openOnes_26 (by decide) ?_
      exact hc4 (v1 ||| ((st 8 (v2).toNatClampNeg) <<< (v2 &&& 31))) (v2 + 1) st H locs _ hG (lv_sub hl [2, 1, 0] rfl) hw
theorem hd_X9_openOnes : yX9_openOnes.cls ≠ "java/lang/invoke/MethodHandle" ∧ yX9_openOnes.cls ≠ "java/lang/invoke/VarHandle" ∧ (parseMethodDescriptor yX9_openOnes.desc).map (fun d => d.parameters.length) = some 0 := by decide +kernel
set_option maxRecDepth 100000 in
set_option maxHeartbeats 4000000 in
theorem c_X9_openOnes (l : Launch) (y : Sy)  (st : St) (K : Int32 → St → Prop) (hw : w_X9_openOnes  st K) : Ci 17 enM l yX9_openOnes cX9_openOnes 3 (some .int) 0 0 y [.ref (ad y 0)] st K := by
  refine ent (by decide) (Nat.le_of_ble_eq_true rfl) ?_
  intro p e s m below meth c C hG ls hl
  have hl : lv_has ls 3 [(0, .ref (ad y 0))] := hl
  generalize ([.ref (ad y 0)] : List Value).toArray = args at C ⊢
  have C : Sd p s m args meth c cX9_openOnes 3 RX9 (some .int) y := C
  obtain ⟨hx, hb, hml, hown, hts, hr, hlk, hK, hN⟩ := id C
  generalize s.heap = H at hG ⊢
  generalize ([] : List Loc) = locs at hG ⊢
  unfold w_X9_openOnes at hw
  refine lv_iconst (v := 0) hx hb dX9_openOnes_0 (by decide) ?_
  refine lv_istore_n (lv' := [(1, .int 0), (0, .ref (ad y 0))]) hx hb dX9_openOnes_1 rfl hl (Nat.le_of_ble_eq_true rfl) rfl (fun ls hl => ?_)
  refine lv_iconst (v := 0) hx hb dX9_openOnes_2 (by decide) ?_
  refine lv_istore_n (lv' := [(2, .int 0), (1, .int 0), (0, .ref (ad y 0))]) hx hb dX9_openOnes_3 rfl hl (Nat.le_of_ble_eq_true rfl) rfl (fun ls hl => ?_)
  obtain ⟨n4, hw⟩ := hw
  exact z_X9_openOnes_L4 l y  C  K  n4 0 0 st H locs _ hG (lv_sub hl [2, 1, 0] rfl) hw
set_option maxRecDepth 100000 in
set_option maxHeartbeats 4000000 in
theorem z_X9_allHate_b39 {p : Program} {e : Env} {s : State} {m : MethodId} {args : Array Value} {below : List Frame} {meth : Method} {c : Code} (l : Launch) (y : Sy)  (C : Sd p s m args meth c cX9_allHate 4 RX9 (some .int) y) (c4 : Int32 → Int32 → St → Prop) (K : Int32 → St → Prop) (hc4 : ∀ (v1 : Int32) (v2 : Int32) (st : St) (H : Heap) (locs : List Loc) (ls : Array Slot), gH 17 enM y st s H locs → lv_has ls 4 [(0, .ref (ad y 0)), (1, .int v1), (2, .int v2)] → c4 v1 v2 st → W p l e (rmm 1 22) s m args below meth c H locs 0 0 (MQ below (va_Qi K (gB 17 enM y) (gA 17 y)) args s 0 0 (gA 17 y)) (F0 m 4 ls [])) (v1 : Int32) (v2 : Int32) (st : St) {H : Heap} {locs : List Loc} {ls : Array Slot} (hG : gH 17 enM y st s H locs) (hl : lv_has ls 4 [(0, .ref (ad y 0)), (1, .int v1), (2, .int v2)]) (hw : w_X9_allHate_b39  c4 K v1 v2 st) : W p l e (rmm 1 22) s m args below meth c H locs 0 0 (MQ below (va_Qi K (gB 17 enM y) (gA 17 y)) args s 0 0 (gA 17 y)) (F0 m 39 ls []) := by
  obtain ⟨hx, hb, hml, hown, hts, hr, hlk, hK, hN⟩ := id C
  unfold w_X9_allHate_b39 at hw
  refine lv_iinc (v := (v2 + 1)) (lv' := [(2, .int (v2 + 1)), (0, .ref (ad y 0)), (1, .int v1)]) hx hb dX9_allHate_39 hl (k := 2) rfl rfl (Nat.le_of_ble_eq_true rfl) rfl (fun ls hl => ?_)
  refine lv_goto (tgt := 4) hx hb dX9_allHate_42 (by decide) ?_
  exact hc4 v1 (v2 + 1) st H locs _ hG (lv_sub hl [1, 2, 0] rfl) hw
set_option maxRecDepth 100000 in
set_option maxHeartbeats 4000000 in
theorem z_X9_allHate_L16 {p : Program} {e : Env} {s : State} {m : MethodId} {args : Array Value} {below : List Frame} {meth : Method} {c : Code} (l : Launch) (y : Sy)  (C : Sd p s m args meth c cX9_allHate 4 RX9 (some .int) y) (c4 : Int32 → Int32 → St → Prop) (K : Int32 → St → Prop) (hc4 : ∀ (v1 : Int32) (v2 : Int32) (st : St) (H : Heap) (locs : List Loc) (ls : Array Slot), gH 17 enM y st s H locs → lv_has ls 4 [(0, .ref (ad y 0)), (1, .int v1), (2, .int v2)] → c4 v1 v2 st → W p l e (rmm 1 22) s m args below meth c H locs 0 0 (MQ below (va_Qi K (gB 17 enM y) (gA 17 y)) args s 0 0 (gA 17 y)) (F0 m 4 ls [])) : ∀ (n : Nat) (v1 : Int32) (v2 : Int32) (v3 : Int32) (st : St) (H : Heap) (locs : List Loc) (ls : Array Slot), gH 17 enM y st s H locs → lv_has ls 4 [(0, .ref (ad y 0)), (1, .int v1), (2, .int v2), (3, .int v3)] → w_X9_allHate_L16  c4 K n v1 v2 v3 st → W p l e (rmm 1 22) s m args below meth c H locs 0 0 (MQ below (va_Qi K (gB 17 enM y) (gA 17 y)) args s 0 0 (gA 17 y)) (F0 m 16 ls []) := by
  obtain ⟨hx, hb, hml, hown, hts, hr, hlk, hK, hN⟩ := id C
  intro n
  induction n with
  | zero => intro v1 v2 v3 st H locs ls hG hl hw; exact False.elim hw
  | succ n hc16 =>
    intro v1 v2 v3 st H locs ls hG hl hw
    have hw : w_X9_allHate_L16q  c4 K (fun v1 v2 v3 st => w_X9_allHate_L16  c4 K n v1 v2 v3 st) v1 v2 v3 st := hw
    unfold w_X9_allHate_L16q at hw
    refine lv_iload_n hx hb dX9_allHate_16 rfl (lv_at hl 3 rfl) ?_
    refine lv_aload_n hx hb dX9_allHate_17 rfl (lv_at hl 0 rfl) ?_
    refine r_get (C := RX9) (T := TX9) (Nf := 31) hx hb hts hown hK hG (by decide) rfl rfl inX9 8 (by decide) qF_X9_65 rfl dX9_allHate_18 ?_
    refine lv_icmp_ge (tgt := 39) hx hb dX9_allHate_21 (by decide) (fun hc => ?_) (fun hc => ?_)
    · replace hw := hw.1 hc
      exact z_X9_allHate_b39 l y  C c4 K hc4 v1 v2 st hG (lv_sub hl [0, 1, 2] rfl) hw
    · replace hw := hw.2 hc
      refine lv_iload_n hx hb dX9_allHate_24 rfl (lv_at hl 1 rfl) ?_
      refine lv_aload_n hx hb dX9_allHate_25 rfl (lv_at hl 0 rfl) ?_
      refine lv_iload_n hx hb dX9_allHate_26 rfl (lv_at hl 2 rfl) ?_
      refine lv_iload_n hx hb dX9_allHate_27 rfl (lv_at hl 3 rfl) ?_
      refine r_ki (r_run_V (k := 0) (As := [.int v2, .int v3]) (rest := [.int v1]) hx hb hml hown hts hK hN hG (c_X9_hateOf l y v2 v3 st _ hw) (by decide) rfl rfl rfl qM_X9_180 qI_X9_hateOf qS_X9_hateOf qN_X9 qC_X9_hateOf hd_X9_hateOf ⟨Nat.le_of_ble_eq_true rfl, Nat.le_of_ble_eq_true rfl⟩ hl.1 rfl (Nat.le_of_ble_eq_true rfl) dX9_allHate_28) hG (fun r28 st28 H locs hw hG => ?_)
      refine lv_iadd hx hb dX9_allHate_31 ?_
      refine lv_istore_n (lv' := [(1, .int (v1 + r28)), (0, .ref (ad y 0)), (2, .int v2), (3, .int v3)]) hx hb dX9_allHate_32 rfl hl (Nat.le_of_ble_eq_true rfl) rfl (fun ls hl => ?_)
      refine lv_iinc (v := (v3 + 1)) (lv' := [(3, .int (v3 + 1)), (1, .int (v1 + r28)), (0, .ref (ad y 0)), (2, .int v2)]) hx hb dX9_allHate_33 hl (k := 3) rfl rfl (Nat.le_of_ble_eq_true rfl) rfl (fun ls hl => ?_)
      refine lv_goto (tgt := 16) hx hb dX9_allHate_36 (by decide) ?_
      exact hc16 (v1 + r28) v2 (v3 + 1) st28 H locs _ hG (lv_sub hl [2, 1, 3, 0] rfl) hw
set_option maxRecDepth 100000 in
set_option maxHeartbeats 4000000 in
theorem z_X9_allHate_L4 {p : Program} {e : Env} {s : State} {m : MethodId} {args : Array Value} {below : List Frame} {meth : Method} {c : Code} (l : Launch) (y : Sy)  (C : Sd p s m args meth c cX9_allHate 4 RX9 (some .int) y)  (K : Int32 → St → Prop)  : ∀ (n : Nat) (v1 : Int32) (v2 : Int32) (st : St) (H : Heap) (locs : List Loc) (ls : Array Slot), gH 17 enM y st s H locs → lv_has ls 4 [(0, .ref (ad y 0)), (1, .int v1), (2, .int v2)] → w_X9_allHate_L4   K n v1 v2 st → W p l e (rmm 1 22) s m args below meth c H locs 0 0 (MQ below (va_Qi K (gB 17 enM y) (gA 17 y)) args s 0 0 (gA 17 y)) (F0 m 4 ls []) := by
  obtain ⟨hx, hb, hml, hown, hts, hr, hlk, hK, hN⟩ := id C
  intro n
  induction n with
  | zero => intro v1 v2 st H locs ls hG hl hw; exact False.elim hw
  | succ n hc4 =>
    intro v1 v2 st H locs ls hG hl hw
    have hw : w_X9_allHate_L4q   K (fun v1 v2 st => w_X9_allHate_L4   K n v1 v2 st) v1 v2 st := hw
    unfold w_X9_allHate_L4q at hw
    refine lv_iload_n hx hb dX9_allHate_4 rfl (lv_at hl 2 rfl) ?_
    refine lv_aload_n hx hb dX9_allHate_5 rfl (lv_at hl 0 rfl) ?_
    refine r_get (C := RX9) (T := TX9) (Nf := 31) hx hb hts hown hK hG (by decide) rfl rfl inX9 8 (by decide) qF_X9_65 rfl dX9_allHate_6 ?_
    refine lv_icmp_ge (tgt := 45) hx hb dX9_allHate_9 (by decide) (fun hc => ?_) (fun hc => ?_)
    · replace hw := hw.1 hc
      refine lv_iload_n hx hb dX9_allHate_45 rfl (lv_at hl 1 rfl) ?_
      exact r_iret hx hb hr hlk hK hG rfl hw dX9_allHate_46
    · replace hw := hw.2 hc
      refine lv_iload_n hx hb dX9_allHate_12 rfl (lv_at hl 2 rfl) ?_
      refine lv_iconst (v := 1) hx hb dX9_allHate_13 (by decide) ?_
      refine lv_iadd hx hb dX9_allHate_14 ?_
      refine lv_istore_n (lv' := [(3, .int (v2 + 1)), (0, .ref (ad y 0)), (1, .int v1), (2, .int v2)]) hx hb dX9_allHate_15 rfl hl (Nat.le_of_ble_eq_true rfl) rfl (fun ls hl => ?_)
      obtain ⟨n16, hw⟩ := hw
      exact z_X9_allHate_L16 l y  C (fun v1 v2 st => w_X9_allHate_L4   K n v1 v2 st) K hc4 n16 v1 v2 (v2 + 1) st H locs _ hG (lv_sub hl [1, 2, 3, 0] rfl) hw
theorem hd_X9_allHate : yX9_allHate.cls ≠ "java/lang/invoke/MethodHandle" ∧ yX9_allHate.cls ≠ "java/lang/invoke/VarHandle" ∧ (parseMethodDescriptor yX9_allHate.desc).map (fun d => d.parameters.length) = some 0 := by decide +kernel
set_option maxRecDepth 100000 in
set_option maxHeartbeats 4000000 in
theorem c_X9_allHate (l : Launch) (y : Sy)  (st : St) (K : Int32 → St → Prop) (hw : w_X9_allHate  st K) : Ci 17 enM l yX9_allHate cX9_allHate 4 (some .int) 1 22 y [.ref (ad y 0)] st K := by
  refine ent (by decide) (Nat.le_of_ble_eq_true rfl) ?_
  intro p e s m below meth c C hG ls hl
  have hl : lv_has ls 4 [(0, .ref (ad y 0))] := hl
  generalize ([.ref (ad y 0)] : List Value).toArray = args at C ⊢
  have C : Sd p s m args meth c cX9_allHate 4 RX9 (some .int) y := C
  obtain ⟨hx, hb, hml, hown, hts, hr, hlk, hK, hN⟩ := id C
  generalize s.heap = H at hG ⊢
  generalize ([] : List Loc) = locs at hG ⊢
  unfold w_X9_allHate at hw
  refine lv_iconst (v := 0) hx hb dX9_allHate_0 (by decide) ?_
  refine lv_istore_n (lv' := [(1, .int 0), (0, .ref (ad y 0))]) hx hb dX9_allHate_1 rfl hl (Nat.le_of_ble_eq_true rfl) rfl (fun ls hl => ?_)
  refine lv_iconst (v := 0) hx hb dX9_allHate_2 (by decide) ?_
  refine lv_istore_n (lv' := [(2, .int 0), (1, .int 0), (0, .ref (ad y 0))]) hx hb dX9_allHate_3 rfl hl (Nat.le_of_ble_eq_true rfl) rfl (fun ls hl => ?_)
  obtain ⟨n4, hw⟩ := hw
  exact z_X9_allHate_L4 l y  C  K  n4 0 0 st H locs _ hG (lv_sub hl [2, 1, 0] rfl) hw
theorem hd_X9_keeperOf : yX9_keeperOf.cls ≠ "java/lang/invoke/MethodHandle" ∧ yX9_keeperOf.cls ≠ "java/lang/invoke/VarHandle" ∧ (parseMethodDescriptor yX9_keeperOf.desc).map (fun d => d.parameters.length) = some 2 := by decide +kernel
set_option maxRecDepth 100000 in
set_option maxHeartbeats 4000000 in
theorem c_X9_keeperOf (l : Launch) (y : Sy) (x1 : Int32) (x2 : Int32) (st : St) (K : Int32 → St → Prop) (hw : w_X9_keeperOf x1 x2 st K) : Ci 17 enM l yX9_keeperOf cX9_keeperOf 3 (some .int) 1 21 y [.ref (ad y 0), .int x1, .int x2] st K := by
  refine ent (by decide) (Nat.le_of_ble_eq_true rfl) ?_
  intro p e s m below meth c C hG ls hl
  have hl : lv_has ls 3 [(0, .ref (ad y 0)), (1, .int x1), (2, .int x2)] := hl
  generalize ([.ref (ad y 0), .int x1, .int x2] : List Value).toArray = args at C ⊢
  have C : Sd p s m args meth c cX9_keeperOf 3 RX9 (some .int) y := C
  obtain ⟨hx, hb, hml, hown, hts, hr, hlk, hK, hN⟩ := id C
  generalize s.heap = H at hG ⊢
  generalize ([] : List Loc) = locs at hG ⊢
  unfold w_X9_keeperOf at hw
  refine lv_aload_n hx hb dX9_keeperOf_0 rfl (lv_at hl 0 rfl) ?_
  refine lv_iload_n hx hb dX9_keeperOf_1 rfl (lv_at hl 1 rfl) ?_
  refine r_ki (r_run_V (k := 0) (As := [.int x1]) (rest := []) hx hb hml hown hts hK hN hG (c_X9_isKeeper l y x1 st _ hw) (by decide) rfl rfl rfl qM_X9_68 qI_X9_isKeeper qS_X9_isKeeper qN_X9 qC_X9_isKeeper hd_X9_isKeeper ⟨Nat.le_of_ble_eq_true rfl, Nat.le_of_ble_eq_true rfl⟩ hl.1 rfl (Nat.le_of_ble_eq_true rfl) dX9_keeperOf_2) hG (fun r2 st2 H locs hw hG => ?_)
  refine lv_if_ne (tgt := 14) hx hb dX9_keeperOf_5 (by decide) (fun hc => ?_) (fun hc => ?_)
  · replace hw := hw.1 hc
    refine lv_iload_n hx hb dX9_keeperOf_14 rfl (lv_at hl 2 rfl) ?_
    by_cases g0 : x2 = 0
    · replace hw := hw.1 g0
      refine r_tabin (v := 0) (tgt := 52) hx hb dX9_keeperOf_15 g0 (by decide) (by decide) rfl (by decide) ?_
      refine lv_aload_n hx hb dX9_keeperOf_52 rfl (lv_at hl 0 rfl) ?_
      refine r_get (C := RX9) (T := TX9) (Nf := 31) hx hb hts hown hK hG (by decide) rfl rfl inX9 1 (by decide) qF_X9_13 rfl dX9_keeperOf_53 ?_
      refine lv_iload_n hx hb dX9_keeperOf_56 rfl (lv_at hl 1 rfl) ?_
      obtain ⟨hi, hw⟩ := hw
      refine r_iald hx hb hK hG (isB_2).1 ((isB_2).2 y _) hi dX9_keeperOf_57 ?_
      exact r_iret hx hb hr hlk hK hG rfl hw dX9_keeperOf_58
    replace hw := hw.2 g0
    by_cases g1 : x2 = 1
    · replace hw := hw.1 g1
      refine r_tabin (v := 1) (tgt := 59) hx hb dX9_keeperOf_15 g1 (by decide) (by decide) rfl (by decide) ?_
      refine lv_aload_n hx hb dX9_keeperOf_59 rfl (lv_at hl 0 rfl) ?_
      refine r_get (C := RX9) (T := TX9) (Nf := 31) hx hb hts hown hK hG (by decide) rfl rfl inX9 2 (by decide) qF_X9_16 rfl dX9_keeperOf_60 ?_
      refine lv_iload_n hx hb dX9_keeperOf_63 rfl (lv_at hl 1 rfl) ?_
      obtain ⟨hi, hw⟩ := hw
      refine r_iald hx hb hK hG (isB_3).1 ((isB_3).2 y _) hi dX9_keeperOf_64 ?_
      exact r_iret hx hb hr hlk hK hG rfl hw dX9_keeperOf_65
    replace hw := hw.2 g1
    by_cases g2 : x2 = 2
    · replace hw := hw.1 g2
      refine r_tabin (v := 2) (tgt := 66) hx hb dX9_keeperOf_15 g2 (by decide) (by decide) rfl (by decide) ?_
      refine lv_aload_n hx hb dX9_keeperOf_66 rfl (lv_at hl 0 rfl) ?_
      refine r_get (C := RX9) (T := TX9) (Nf := 31) hx hb hts hown hK hG (by decide) rfl rfl inX9 3 (by decide) qF_X9_19 rfl dX9_keeperOf_67 ?_
      refine lv_iload_n hx hb dX9_keeperOf_70 rfl (lv_at hl 1 rfl) ?_
      obtain ⟨hi, hw⟩ := hw
      refine r_iald hx hb hK hG (isB_4).1 ((isB_4).2 y _) hi dX9_keeperOf_71 ?_
      exact r_iret hx hb hr hlk hK hG rfl hw dX9_keeperOf_72
    replace hw := hw.2 g2
    by_cases g3 : x2 = 3
    · replace hw := hw.1 g3
      refine r_tabin (v := 3) (tgt := 73) hx hb dX9_keeperOf_15 g3 (by decide) (by decide) rfl (by decide) ?_
      refine lv_aload_n hx hb dX9_keeperOf_73 rfl (lv_at hl 0 rfl) ?_
      refine lv_iload_n hx hb dX9_keeperOf_74 rfl (lv_at hl 1 rfl) ?_
      refine r_ki (r_run_V (k := 0) (As := [.int x1]) (rest := []) hx hb hml hown hts hK hN hG (c_X9_fadesOf l y x1 st2 _ hw) (by decide) rfl rfl rfl qM_X9_184 qI_X9_fadesOf qS_X9_fadesOf qN_X9 qC_X9_fadesOf hd_X9_fadesOf ⟨Nat.le_of_ble_eq_true rfl, Nat.le_of_ble_eq_true rfl⟩ hl.1 rfl (Nat.le_of_ble_eq_true rfl) dX9_keeperOf_75) hG (fun r75 st75 H locs hw hG => ?_)
      exact r_iret hx hb hr hlk hK hG rfl hw dX9_keeperOf_78
    replace hw := hw.2 g3
    by_cases g4 : x2 = 4
    · replace hw := hw.1 g4
      refine r_tabin (v := 4) (tgt := 79) hx hb dX9_keeperOf_15 g4 (by decide) (by decide) rfl (by decide) ?_
      refine lv_aload_n hx hb dX9_keeperOf_79 rfl (lv_at hl 0 rfl) ?_
      refine lv_iload_n hx hb dX9_keeperOf_80 rfl (lv_at hl 1 rfl) ?_
      refine r_ki (r_run_V (k := 0) (As := [.int x1]) (rest := []) hx hb hml hown hts hK hN hG (c_X9_stirsOf l y x1 st2 _ hw) (by decide) rfl rfl rfl qM_X9_190 qI_X9_stirsOf qS_X9_stirsOf qN_X9 qC_X9_stirsOf hd_X9_stirsOf ⟨Nat.le_of_ble_eq_true rfl, Nat.le_of_ble_eq_true rfl⟩ hl.1 rfl (Nat.le_of_ble_eq_true rfl) dX9_keeperOf_81) hG (fun r81 st81 H locs hw hG => ?_)
      exact r_iret hx hb hr hlk hK hG rfl hw dX9_keeperOf_84
    replace hw := hw.2 g4
    by_cases g5 : x2 = 5
    · replace hw := hw.1 g5
      refine r_tabin (v := 5) (tgt := 85) hx hb dX9_keeperOf_15 g5 (by decide) (by decide) rfl (by decide) ?_
      refine lv_aload_n hx hb dX9_keeperOf_85 rfl (lv_at hl 0 rfl) ?_
      refine lv_iload_n hx hb dX9_keeperOf_86 rfl (lv_at hl 1 rfl) ?_
      refine r_ki (r_run_V (k := 0) (As := [.int x1]) (rest := []) hx hb hml hown hts hK hN hG (c_X9_payOf l y x1 st2 _ hw) (by decide) rfl rfl rfl qM_X9_205 qI_X9_payOf qS_X9_payOf qN_X9 qC_X9_payOf hd_X9_payOf ⟨Nat.le_of_ble_eq_true rfl, Nat.le_of_ble_eq_true rfl⟩ hl.1 rfl (Nat.le_of_ble_eq_true rfl) dX9_keeperOf_87) hG (fun r87 st87 H locs hw hG => ?_)
      exact r_iret hx hb hr hlk hK hG rfl hw dX9_keeperOf_90
    replace hw := hw.2 g5
    refine r_tabdef (tgt := 91) hx hb dX9_keeperOf_15 (by decide) (fun v q1 q2 q3 => ?_) ?_
    · rcases (show v = 0 ∨ v = 1 ∨ v = 2 ∨ v = 3 ∨ v = 4 ∨ v = 5 by omega) with rfl | rfl | rfl | rfl | rfl | rfl
      · exact absurd (r_toI (v := 0) q3) g0
      · exact absurd (r_toI (v := 1) q3) g1
      · exact absurd (r_toI (v := 2) q3) g2
      · exact absurd (r_toI (v := 3) q3) g3
      · exact absurd (r_toI (v := 4) q3) g4
      · exact absurd (r_toI (v := 5) q3) g5
    refine lv_aload_n hx hb dX9_keeperOf_91 rfl (lv_at hl 0 rfl) ?_
    refine lv_bipush (v := (-2)) hx hb dX9_keeperOf_92 (by decide) ?_
    refine r_ki (r_run_V (k := 0) (As := [.int (-2)]) (rest := []) hx hb hml hown hts hK hN hG (c_X9_no l y (-2) st2 _ hw) (by decide) rfl rfl rfl qM_X9_79 qI_X9_no qS_X9_no qN_X9 qC_X9_no hd_X9_no ⟨Nat.le_of_ble_eq_true rfl, Nat.le_of_ble_eq_true rfl⟩ hl.1 rfl (Nat.le_of_ble_eq_true rfl) dX9_keeperOf_94) hG (fun r94 st94 H locs hw hG => ?_)
    exact r_iret hx hb hr hlk hK hG rfl hw dX9_keeperOf_97
  · replace hw := hw.2 hc
    refine lv_aload_n hx hb dX9_keeperOf_8 rfl (lv_at hl 0 rfl) ?_
    refine lv_iconst (v := (-1)) hx hb dX9_keeperOf_9 (by decide) ?_
    refine r_ki (r_run_V (k := 0) (As := [.int (-1)]) (rest := []) hx hb hml hown hts hK hN hG (c_X9_no l y (-1) st2 _ hw) (by decide) rfl rfl rfl qM_X9_79 qI_X9_no qS_X9_no qN_X9 qC_X9_no hd_X9_no ⟨Nat.le_of_ble_eq_true rfl, Nat.le_of_ble_eq_true rfl⟩ hl.1 rfl (Nat.le_of_ble_eq_true rfl) dX9_keeperOf_10) hG (fun r10 st10 H locs hw hG => ?_)
    exact r_iret hx hb hr hlk hK hG rfl hw dX9_keeperOf_13
theorem hd_X9_letterOf : yX9_letterOf.cls ≠ "java/lang/invoke/MethodHandle" ∧ yX9_letterOf.cls ≠ "java/lang/invoke/VarHandle" ∧ (parseMethodDescriptor yX9_letterOf.desc).map (fun d => d.parameters.length) = some 2 := by decide +kernel
set_option maxRecDepth 100000 in
set_option maxHeartbeats 4000000 in
theorem c_X9_letterOf (l : Launch) (y : Sy) (x1 : Int32) (x2 : Int32) (st : St) (K : Int32 → St → Prop) (hw : w_X9_letterOf x1 x2 st K) : Ci 17 enM l yX9_letterOf cX9_letterOf 3 (some .int) 3 70 y [.ref (ad y 0), .int x1, .int x2] st K := by
  refine ent (by decide) (Nat.le_of_ble_eq_true rfl) ?_
  intro p e s m below meth c C hG ls hl
  have hl : lv_has ls 3 [(0, .ref (ad y 0)), (1, .int x1), (2, .int x2)] := hl
  generalize ([.ref (ad y 0), .int x1, .int x2] : List Value).toArray = args at C ⊢
  have C : Sd p s m args meth c cX9_letterOf 3 RX9 (some .int) y := C
  obtain ⟨hx, hb, hml, hown, hts, hr, hlk, hK, hN⟩ := id C
  generalize s.heap = H at hG ⊢
  generalize ([] : List Loc) = locs at hG ⊢
  unfold w_X9_letterOf at hw
  refine lv_aload_n hx hb dX9_letterOf_0 rfl (lv_at hl 0 rfl) ?_
  refine lv_iload_n hx hb dX9_letterOf_1 rfl (lv_at hl 1 rfl) ?_
  refine r_ki (r_run_V (k := 0) (As := [.int x1]) (rest := []) hx hb hml hown hts hK hN hG (c_X9_isLetter l y x1 st _ hw) (by decide) rfl rfl rfl qM_X9_134 qI_X9_isLetter qS_X9_isLetter qN_X9 qC_X9_isLetter hd_X9_isLetter ⟨Nat.le_of_ble_eq_true rfl, Nat.le_of_ble_eq_true rfl⟩ hl.1 rfl (Nat.le_of_ble_eq_true rfl) dX9_letterOf_2) hG (fun r2 st2 H locs hw hG => ?_)
  refine lv_if_ne (tgt := 14) hx hb dX9_letterOf_5 (by decide) (fun hc => ?_) (fun hc => ?_)
  · replace hw := hw.1 hc
    refine lv_iload_n hx hb dX9_letterOf_14 rfl (lv_at hl 2 rfl) ?_
    by_cases g0 : x2 = 0
    · replace hw := hw.1 g0
      refine r_tabin (v := 0) (tgt := 44) hx hb dX9_letterOf_15 g0 (by decide) (by decide) rfl (by decide) ?_
      refine lv_aload_n hx hb dX9_letterOf_44 rfl (lv_at hl 0 rfl) ?_
      refine r_get (C := RX9) (T := TX9) (Nf := 31) hx hb hts hown hK hG (by decide) rfl rfl inX9 5 (by decide) qF_X9_25 rfl dX9_letterOf_45 ?_
      refine lv_iload_n hx hb dX9_letterOf_48 rfl (lv_at hl 1 rfl) ?_
      obtain ⟨hi, hw⟩ := hw
      refine r_iald hx hb hK hG (isB_6).1 ((isB_6).2 y _) hi dX9_letterOf_49 ?_
      exact r_iret hx hb hr hlk hK hG rfl hw dX9_letterOf_50
    replace hw := hw.2 g0
    by_cases g1 : x2 = 1
    · replace hw := hw.1 g1
      refine r_tabin (v := 1) (tgt := 51) hx hb dX9_letterOf_15 g1 (by decide) (by decide) rfl (by decide) ?_
      refine lv_aload_n hx hb dX9_letterOf_51 rfl (lv_at hl 0 rfl) ?_
      refine r_get (C := RX9) (T := TX9) (Nf := 31) hx hb hts hown hK hG (by decide) rfl rfl inX9 6 (by decide) qF_X9_28 rfl dX9_letterOf_52 ?_
      refine lv_iload_n hx hb dX9_letterOf_55 rfl (lv_at hl 1 rfl) ?_
      obtain ⟨hi, hw⟩ := hw
      refine r_iald hx hb hK hG (isB_7).1 ((isB_7).2 y _) hi dX9_letterOf_56 ?_
      exact r_iret hx hb hr hlk hK hG rfl hw dX9_letterOf_57
    replace hw := hw.2 g1
    by_cases g2 : x2 = 2
    · replace hw := hw.1 g2
      refine r_tabin (v := 2) (tgt := 58) hx hb dX9_letterOf_15 g2 (by decide) (by decide) rfl (by decide) ?_
      refine lv_aload_n hx hb dX9_letterOf_58 rfl (lv_at hl 0 rfl) ?_
      refine r_get (C := RX9) (T := TX9) (Nf := 31) hx hb hts hown hK hG (by decide) rfl rfl inX9 7 (by decide) qF_X9_31 rfl dX9_letterOf_59 ?_
      refine lv_iload_n hx hb dX9_letterOf_62 rfl (lv_at hl 1 rfl) ?_
      obtain ⟨hi, hw⟩ := hw
      refine r_iald hx hb hK hG (isB_8).1 ((isB_8).2 y _) hi dX9_letterOf_63 ?_
      exact r_iret hx hb hr hlk hK hG rfl hw dX9_letterOf_64
    replace hw := hw.2 g2
    by_cases g3 : x2 = 3
    · replace hw := hw.1 g3
      refine r_tabin (v := 3) (tgt := 65) hx hb dX9_letterOf_15 g3 (by decide) (by decide) rfl (by decide) ?_
      refine lv_aload_n hx hb dX9_letterOf_65 rfl (lv_at hl 0 rfl) ?_
      refine lv_aload_n hx hb dX9_letterOf_66 rfl (lv_at hl 0 rfl) ?_
      refine r_get (C := RX9) (T := TX9) (Nf := 31) hx hb hts hown hK hG (by decide) rfl rfl inX9 6 (by decide) qF_X9_28 rfl dX9_letterOf_67 ?_
      refine lv_iload_n hx hb dX9_letterOf_70 rfl (lv_at hl 1 rfl) ?_
      obtain ⟨hi, hw⟩ := hw
      refine r_iald hx hb hK hG (isB_7).1 ((isB_7).2 y _) hi dX9_letterOf_71 ?_
      refine lv_aload_n hx hb dX9_letterOf_72 rfl (lv_at hl 0 rfl) ?_
      refine r_get (C := RX9) (T := TX9) (Nf := 31) hx hb hts hown hK hG (by decide) rfl rfl inX9 5 (by decide) qF_X9_25 rfl dX9_letterOf_73 ?_
      refine lv_iload_n hx hb dX9_letterOf_76 rfl (lv_at hl 1 rfl) ?_
      obtain ⟨hi, hw⟩ := hw
      refine r_iald hx hb hK hG (isB_6).1 ((isB_6).2 y _) hi dX9_letterOf_77 ?_
      refine r_ki (r_run_V (k := 0) (As := [.int (st2 7 (x1).toNatClampNeg), .int (st2 6 (x1).toNatClampNeg)]) (rest := []) hx hb hml hown hts hK hN hG (c_X9_opensAt l y (st2 7 (x1).toNatClampNeg) (st2 6 (x1).toNatClampNeg) st2 _ hw) (by decide) rfl rfl rfl qM_X9_199 qI_X9_opensAt qS_X9_opensAt qN_X9 qC_X9_opensAt hd_X9_opensAt ⟨Nat.le_of_ble_eq_true rfl, Nat.le_of_ble_eq_true rfl⟩ hl.1 rfl (Nat.le_of_ble_eq_true rfl) dX9_letterOf_78) hG (fun r78 st78 H locs hw hG => ?_)
      exact r_iret hx hb hr hlk hK hG rfl hw dX9_letterOf_81
    replace hw := hw.2 g3
    refine r_tabdef (tgt := 82) hx hb dX9_letterOf_15 (by decide) (fun v q1 q2 q3 => ?_) ?_
    · rcases (show v = 0 ∨ v = 1 ∨ v = 2 ∨ v = 3 by omega) with rfl | rfl | rfl | rfl
      · exact absurd (r_toI (v := 0) q3) g0
      · exact absurd (r_toI (v := 1) q3) g1
      · exact absurd (r_toI (v := 2) q3) g2
      · exact absurd (r_toI (v := 3) q3) g3
    refine lv_aload_n hx hb dX9_letterOf_82 rfl (lv_at hl 0 rfl) ?_
    refine lv_bipush (v := (-2)) hx hb dX9_letterOf_83 (by decide) ?_
    refine r_ki (r_run_V (k := 0) (As := [.int (-2)]) (rest := []) hx hb hml hown hts hK hN hG (c_X9_no l y (-2) st2 _ hw) (by decide) rfl rfl rfl qM_X9_79 qI_X9_no qS_X9_no qN_X9 qC_X9_no hd_X9_no ⟨Nat.le_of_ble_eq_true rfl, Nat.le_of_ble_eq_true rfl⟩ hl.1 rfl (Nat.le_of_ble_eq_true rfl) dX9_letterOf_85) hG (fun r85 st85 H locs hw hG => ?_)
    exact r_iret hx hb hr hlk hK hG rfl hw dX9_letterOf_88
  · replace hw := hw.2 hc
    refine lv_aload_n hx hb dX9_letterOf_8 rfl (lv_at hl 0 rfl) ?_
    refine lv_iconst (v := (-1)) hx hb dX9_letterOf_9 (by decide) ?_
    refine r_ki (r_run_V (k := 0) (As := [.int (-1)]) (rest := []) hx hb hml hown hts hK hN hG (c_X9_no l y (-1) st2 _ hw) (by decide) rfl rfl rfl qM_X9_79 qI_X9_no qS_X9_no qN_X9 qC_X9_no hd_X9_no ⟨Nat.le_of_ble_eq_true rfl, Nat.le_of_ble_eq_true rfl⟩ hl.1 rfl (Nat.le_of_ble_eq_true rfl) dX9_letterOf_10) hG (fun r10 st10 H locs hw hG => ?_)
    exact r_iret hx hb hr hlk hK hG rfl hw dX9_letterOf_13
theorem hd_X9_hate : yX9_hate.cls ≠ "java/lang/invoke/MethodHandle" ∧ yX9_hate.cls ≠ "java/lang/invoke/VarHandle" ∧ (parseMethodDescriptor yX9_hate.desc).map (fun d => d.parameters.length) = some 2 := by decide +kernel
set_option maxRecDepth 100000 in
set_option maxHeartbeats 4000000 in
theorem c_X9_hate (l : Launch) (y : Sy) (x1 : Int32) (x2 : Int32) (st : St) (K : Int32 → St → Prop) (hw : w_X9_hate x1 x2 st K) : Ci 17 enM l yX9_hate cX9_hate 3 (some .int) 2 43 y [.ref (ad y 0), .int x1, .int x2] st K := by
  refine ent (by decide) (Nat.le_of_ble_eq_true rfl) ?_
  intro p e s m below meth c C hG ls hl
  have hl : lv_has ls 3 [(0, .ref (ad y 0)), (1, .int x1), (2, .int x2)] := hl
  generalize ([.ref (ad y 0), .int x1, .int x2] : List Value).toArray = args at C ⊢
  have C : Sd p s m args meth c cX9_hate 3 RX9 (some .int) y := C
  obtain ⟨hx, hb, hml, hown, hts, hr, hlk, hK, hN⟩ := id C
  generalize s.heap = H at hG ⊢
  generalize ([] : List Loc) = locs at hG ⊢
  unfold w_X9_hate at hw
  refine lv_aload_n hx hb dX9_hate_0 rfl (lv_at hl 0 rfl) ?_
  refine lv_iload_n hx hb dX9_hate_1 rfl (lv_at hl 1 rfl) ?_
  refine lv_iload_n hx hb dX9_hate_2 rfl (lv_at hl 2 rfl) ?_
  refine r_ki (r_run_V (k := 0) (As := [.int x1, .int x2]) (rest := []) hx hb hml hown hts hK hN hG (c_X9_areTwo l y x1 x2 st _ hw) (by decide) rfl rfl rfl qM_X9_125 qI_X9_areTwo qS_X9_areTwo qN_X9 qC_X9_areTwo hd_X9_areTwo ⟨Nat.le_of_ble_eq_true rfl, Nat.le_of_ble_eq_true rfl⟩ hl.1 rfl (Nat.le_of_ble_eq_true rfl) dX9_hate_3) hG (fun r3 st3 H locs hw hG => ?_)
  refine lv_if_eq (tgt := 18) hx hb dX9_hate_6 (by decide) (fun hc => ?_) (fun hc => ?_)
  · replace hw := hw.1 hc
    refine lv_aload_n hx hb dX9_hate_18 rfl (lv_at hl 0 rfl) ?_
    refine lv_iconst (v := (-1)) hx hb dX9_hate_19 (by decide) ?_
    refine r_ki (r_run_V (k := 0) (As := [.int (-1)]) (rest := []) hx hb hml hown hts hK hN hG (c_X9_no l y (-1) st3 _ hw) (by decide) rfl rfl rfl qM_X9_79 qI_X9_no qS_X9_no qN_X9 qC_X9_no hd_X9_no ⟨Nat.le_of_ble_eq_true rfl, Nat.le_of_ble_eq_true rfl⟩ hl.1 rfl (Nat.le_of_ble_eq_true rfl) dX9_hate_20) hG (fun r20 st20 H locs hw hG => ?_)
    exact r_iret hx hb hr hlk hK hG rfl hw dX9_hate_23
  · replace hw := hw.2 hc
    refine lv_aload_n hx hb dX9_hate_9 rfl (lv_at hl 0 rfl) ?_
    refine lv_iload_n hx hb dX9_hate_10 rfl (lv_at hl 1 rfl) ?_
    refine lv_iload_n hx hb dX9_hate_11 rfl (lv_at hl 2 rfl) ?_
    refine r_ki (r_run_V (k := 0) (As := [.int x1, .int x2]) (rest := []) hx hb hml hown hts hK hN hG (c_X9_hateOf l y x1 x2 st3 _ hw) (by decide) rfl rfl rfl qM_X9_180 qI_X9_hateOf qS_X9_hateOf qN_X9 qC_X9_hateOf hd_X9_hateOf ⟨Nat.le_of_ble_eq_true rfl, Nat.le_of_ble_eq_true rfl⟩ hl.1 rfl (Nat.le_of_ble_eq_true rfl) dX9_hate_12) hG (fun r12 st12 H locs hw hG => ?_)
    refine lv_goto (tgt := 23) hx hb dX9_hate_15 (by decide) ?_
    exact r_iret hx hb hr hlk hK hG rfl hw dX9_hate_23
set_option maxRecDepth 100000 in
set_option maxHeartbeats 4000000 in
theorem z_X9_keeper_b56 {p : Program} {e : Env} {s : State} {m : MethodId} {args : Array Value} {below : List Frame} {meth : Method} {c : Code} (l : Launch) (y : Sy) (x1 : Int32) (x2 : Int32) (x3 : Int32) (C : Sd p s m args meth c cX9_keeper 5 RX9 (some .int) y)  (K : Int32 → St → Prop)  (v4 : Int32) (st : St) {H : Heap} {locs : List Loc} {ls : Array Slot} (hG : gH 17 enM y st s H locs) (hl : lv_has ls 5 [(0, .ref (ad y 0)), (1, .int x1), (2, .int x2), (3, .int x3), (4, .int v4)]) (hw : w_X9_keeper_b56 x1 x2 x3  K v4 st) : W p l e (rmm 2 47) s m args below meth c H locs 0 0 (MQ below (va_Qi K (gB 17 enM y) (gA 17 y)) args s 0 0 (gA 17 y)) (F0 m 56 ls []) := by
  obtain ⟨hx, hb, hml, hown, hts, hr, hlk, hK, hN⟩ := id C
  unfold w_X9_keeper_b56 at hw
  refine lv_iload hx hb dX9_keeper_56 (lv_at hl 4 rfl) ?_
  refine lv_if_eq (tgt := 68) hx hb dX9_keeper_58 (by decide) (fun hc => ?_) (fun hc => ?_)
  · replace hw := hw.1 hc
    refine lv_aload_n hx hb dX9_keeper_68 rfl (lv_at hl 0 rfl) ?_
    refine lv_iconst (v := 0) hx hb dX9_keeper_69 (by decide) ?_
    refine r_put (C := RX9) (T := TX9) (Nf := 31) hx hb hts hown hK hG (by decide) rfl rfl inX9 tyX9_ok nmX9 23 (by decide) qF_X9_151 rfl 0 rfl rfl rfl (Nat.le_of_ble_eq_true rfl) dX9_keeper_70 (fun H locs hG => ?_)
    refine lv_aload_n hx hb dX9_keeper_73 rfl (lv_at hl 0 rfl) ?_
    refine lv_iload_n hx hb dX9_keeper_74 rfl (lv_at hl 1 rfl) ?_
    refine lv_iload_n hx hb dX9_keeper_75 rfl (lv_at hl 2 rfl) ?_
    refine lv_iload_n hx hb dX9_keeper_76 rfl (lv_at hl 3 rfl) ?_
    refine r_kv (r_run_V (k := 0) (As := [.int x1, .int x2, .int x3]) (rest := []) hx hb hml hown hts hK hN hG (c_X9_addsKeeper l y x1 x2 x3 (u2 st 0 23 0) _ hw) (by decide) rfl rfl rfl qM_X9_107 qI_X9_addsKeeper qS_X9_addsKeeper qN_X9 qC_X9_addsKeeper hd_X9_addsKeeper ⟨Nat.le_of_ble_eq_true rfl, Nat.le_of_ble_eq_true rfl⟩ hl.1 rfl (Nat.le_of_ble_eq_true rfl) dX9_keeper_77) hG (fun st77 H locs hw hG => ?_)
    refine lv_aload_n hx hb dX9_keeper_80 rfl (lv_at hl 0 rfl) ?_
    refine r_get (C := RX9) (T := TX9) (Nf := 31) hx hb hts hown hK hG (by decide) rfl rfl inX9 8 (by decide) qF_X9_65 rfl dX9_keeper_81 ?_
    refine lv_iconst (v := 1) hx hb dX9_keeper_84 (by decide) ?_
    refine lv_isub hx hb dX9_keeper_85 ?_
    exact r_iret hx hb hr hlk hK hG rfl hw dX9_keeper_86
  · replace hw := hw.2 hc
    refine lv_aload_n hx hb dX9_keeper_61 rfl (lv_at hl 0 rfl) ?_
    refine lv_iload hx hb dX9_keeper_62 (lv_at hl 4 rfl) ?_
    refine r_ki (r_run_V (k := 0) (As := [.int v4]) (rest := []) hx hb hml hown hts hK hN hG (c_X9_no l y v4 st _ hw) (by decide) rfl rfl rfl qM_X9_79 qI_X9_no qS_X9_no qN_X9 qC_X9_no hd_X9_no ⟨Nat.le_of_ble_eq_true rfl, Nat.le_of_ble_eq_true rfl⟩ hl.1 rfl (Nat.le_of_ble_eq_true rfl) dX9_keeper_64) hG (fun r64 st64 H locs hw hG => ?_)
    exact r_iret hx hb hr hlk hK hG rfl hw dX9_keeper_67
set_option maxRecDepth 100000 in
set_option maxHeartbeats 4000000 in
theorem z_X9_keeper_b41 {p : Program} {e : Env} {s : State} {m : MethodId} {args : Array Value} {below : List Frame} {meth : Method} {c : Code} (l : Launch) (y : Sy) (x1 : Int32) (x2 : Int32) (x3 : Int32) (C : Sd p s m args meth c cX9_keeper 5 RX9 (some .int) y)  (K : Int32 → St → Prop)  (v4 : Int32) (st : St) {H : Heap} {locs : List Loc} {ls : Array Slot} (hG : gH 17 enM y st s H locs) (hl : lv_has ls 5 [(0, .ref (ad y 0)), (1, .int x1), (2, .int x2), (3, .int x3), (4, .int v4)]) (hw : w_X9_keeper_b41 x1 x2 x3  K v4 st) : W p l e (rmm 2 47) s m args below meth c H locs 0 0 (MQ below (va_Qi K (gB 17 enM y) (gA 17 y)) args s 0 0 (gA 17 y)) (F0 m 41 ls []) := by
  obtain ⟨hx, hb, hml, hown, hts, hr, hlk, hK, hN⟩ := id C
  unfold w_X9_keeper_b41 at hw
  refine lv_iload hx hb dX9_keeper_41 (lv_at hl 4 rfl) ?_
  refine lv_if_ne (tgt := 56) hx hb dX9_keeper_43 (by decide) (fun hc => ?_) (fun hc => ?_)
  · replace hw := hw.1 hc
    exact z_X9_keeper_b56 l y x1 x2 x3 C  K  v4 st hG (lv_sub hl [0, 1, 2, 3, 4] rfl) hw
  · replace hw := hw.2 hc
    refine lv_iload_n hx hb dX9_keeper_46 rfl (lv_at hl 3 rfl) ?_
    refine r_ki (r_run_S (As := [.int x3]) (rest := []) hx hb hml hown hts hK hN hG (c_X9_isTown l y x3 st _ hw) qM_X9_104 qT_X9_isTown qN_X9 qC_X9_isTown hd_X9_isTown ⟨Nat.le_of_ble_eq_true rfl, Nat.le_of_ble_eq_true rfl⟩ hl.1 rfl (Nat.le_of_ble_eq_true rfl) dX9_keeper_47) hG (fun r47 st47 H locs hw hG => ?_)
    refine lv_if_ne (tgt := 56) hx hb dX9_keeper_50 (by decide) (fun hc => ?_) (fun hc => ?_)
    · replace hw := hw.1 hc
      exact z_X9_keeper_b56 l y x1 x2 x3 C  K  v4 st47 hG (lv_sub hl [0, 1, 2, 3, 4] rfl) hw
    · replace hw := hw.2 hc
      refine lv_iconst (v := (-1)) hx hb dX9_keeper_53 (by decide) ?_
      refine lv_istore (lv' := [(4, .int (-1)), (0, .ref (ad y 0)), (1, .int x1), (2, .int x2), (3, .int x3)]) hx hb dX9_keeper_54 hl (Nat.le_of_ble_eq_true rfl) rfl (fun ls hl => ?_)
      exact z_X9_keeper_b56 l y x1 x2 x3 C  K  (-1) st47 hG (lv_sub hl [1, 2, 3, 4, 0] rfl) hw
set_option maxRecDepth 100000 in
set_option maxHeartbeats 4000000 in
theorem z_X9_keeper_b21 {p : Program} {e : Env} {s : State} {m : MethodId} {args : Array Value} {below : List Frame} {meth : Method} {c : Code} (l : Launch) (y : Sy) (x1 : Int32) (x2 : Int32) (x3 : Int32) (C : Sd p s m args meth c cX9_keeper 5 RX9 (some .int) y)  (K : Int32 → St → Prop)  (s0 : Int32) (st : St) {H : Heap} {locs : List Loc} {ls : Array Slot} (hG : gH 17 enM y st s H locs) (hl : lv_has ls 5 [(0, .ref (ad y 0)), (1, .int x1), (2, .int x2), (3, .int x3)]) (hw : w_X9_keeper_b21 x1 x2 x3  K s0 st) : W p l e (rmm 2 47) s m args below meth c H locs 0 0 (MQ below (va_Qi K (gB 17 enM y) (gA 17 y)) args s 0 0 (gA 17 y)) (F0 m 21 ls [.int s0]) := by
  obtain ⟨hx, hb, hml, hown, hts, hr, hlk, hK, hN⟩ := id C
  unfold w_X9_keeper_b21 at hw
  refine lv_istore (lv' := [(4, .int s0), (0, .ref (ad y 0)), (1, .int x1), (2, .int x2), (3, .int x3)]) hx hb dX9_keeper_21 hl (Nat.le_of_ble_eq_true rfl) rfl (fun ls hl => ?_)
  refine lv_iload hx hb dX9_keeper_23 (lv_at hl 0 rfl) ?_
  refine lv_if_ne (tgt := 41) hx hb dX9_keeper_25 (by decide) (fun hc => ?_) (fun hc => ?_)
  · replace hw := hw.1 hc
    exact z_X9_keeper_b41 l y x1 x2 x3 C  K  s0 st hG (lv_sub hl [1, 2, 3, 4, 0] rfl) hw
  · replace hw := hw.2 hc
    refine lv_aload_n hx hb dX9_keeper_28 rfl (lv_at hl 1 rfl) ?_
    refine r_get (C := RX9) (T := TX9) (Nf := 31) hx hb hts hown hK hG (by decide) rfl rfl inX9 8 (by decide) qF_X9_65 rfl dX9_keeper_29 ?_
    refine lv_bipush (v := 6) hx hb dX9_keeper_32 (by decide) ?_
    refine lv_icmp_ne (tgt := 41) hx hb dX9_keeper_34 (by decide) (fun hc => ?_) (fun hc => ?_)
    · replace hw := hw.1 hc
      exact z_X9_keeper_b41 l y x1 x2 x3 C  K  s0 st hG (lv_sub hl [1, 2, 3, 4, 0] rfl) hw
    · replace hw := hw.2 hc
      refine lv_bipush (v := (-6)) hx hb dX9_keeper_37 (by decide) ?_
      refine lv_istore (lv' := [(4, .int (-6)), (0, .ref (ad y 0)), (1, .int x1), (2, .int x2), (3, .int x3)]) hx hb dX9_keeper_39 hl (Nat.le_of_ble_eq_true rfl) rfl (fun ls hl => ?_)
      exact z_X9_keeper_b41 l y x1 x2 x3 C  K  (-6) st hG (lv_sub hl [1, 2, 3, 4, 0] rfl) hw
theorem hd_X9_keeper : yX9_keeper.cls ≠ "java/lang/invoke/MethodHandle" ∧ yX9_keeper.cls ≠ "java/lang/invoke/VarHandle" ∧ (parseMethodDescriptor yX9_keeper.desc).map (fun d => d.parameters.length) = some 3 := by decide +kernel
set_option maxRecDepth 100000 in
set_option maxHeartbeats 4000000 in
theorem c_X9_keeper (l : Launch) (y : Sy) (x1 : Int32) (x2 : Int32) (x3 : Int32) (st : St) (K : Int32 → St → Prop) (hw : w_X9_keeper x1 x2 x3 st K) : Ci 17 enM l yX9_keeper cX9_keeper 5 (some .int) 2 47 y [.ref (ad y 0), .int x1, .int x2, .int x3] st K := by
  refine ent (by decide) (Nat.le_of_ble_eq_true rfl) ?_
  intro p e s m below meth c C hG ls hl
  have hl : lv_has ls 5 [(0, .ref (ad y 0)), (1, .int x1), (2, .int x2), (3, .int x3)] := hl
  generalize ([.ref (ad y 0), .int x1, .int x2, .int x3] : List Value).toArray = args at C ⊢
  have C : Sd p s m args meth c cX9_keeper 5 RX9 (some .int) y := C
  obtain ⟨hx, hb, hml, hown, hts, hr, hlk, hK, hN⟩ := id C
  generalize s.heap = H at hG ⊢
  generalize ([] : List Loc) = locs at hG ⊢
  unfold w_X9_keeper at hw
  refine lv_iload_n hx hb dX9_keeper_0 rfl (lv_at hl 1 rfl) ?_
  refine lv_iconst (v := 0) hx hb dX9_keeper_1 (by decide) ?_
  refine lv_iconst (v := 5) hx hb dX9_keeper_2 (by decide) ?_
  refine r_ki (r_run_S (As := [.int x1, .int 0, .int 5]) (rest := []) hx hb hml hown hts hK hN hG (c_X9_isIn l y x1 0 5 st _ hw) qM_X9_90 qT_X9_isIn qN_X9 qC_X9_isIn hd_X9_isIn ⟨Nat.le_of_ble_eq_true rfl, Nat.le_of_ble_eq_true rfl⟩ hl.1 rfl (Nat.le_of_ble_eq_true rfl) dX9_keeper_3) hG (fun r3 st3 H locs hw hG => ?_)
  refine lv_if_ne (tgt := 14) hx hb dX9_keeper_6 (by decide) (fun hc => ?_) (fun hc => ?_)
  · replace hw := hw.1 hc
    refine lv_iload_n hx hb dX9_keeper_14 rfl (lv_at hl 2 rfl) ?_
    refine lv_iconst (v := 0) hx hb dX9_keeper_15 (by decide) ?_
    refine lv_bipush (v := 9) hx hb dX9_keeper_16 (by decide) ?_
    refine r_ki (r_run_S (As := [.int x2, .int 0, .int 9]) (rest := []) hx hb hml hown hts hK hN hG (c_X9_bound l y x2 0 9 st3 _ hw) qM_X9_72 qT_X9_bound qN_X9 qC_X9_bound hd_X9_bound ⟨Nat.le_of_ble_eq_true rfl, Nat.le_of_ble_eq_true rfl⟩ hl.1 rfl (Nat.le_of_ble_eq_true rfl) dX9_keeper_18) hG (fun r18 st18 H locs hw hG => ?_)
    exact z_X9_keeper_b21 l y x1 x2 x3 C  K  r18 st18 hG (lv_sub hl [0, 1, 2, 3] rfl) hw
  · replace hw := hw.2 hc
    refine lv_bipush (v := (-2)) hx hb dX9_keeper_9 (by decide) ?_
    refine lv_goto (tgt := 21) hx hb dX9_keeper_11 (by decide) ?_
    exact z_X9_keeper_b21 l y x1 x2 x3 C  K  (-2) st3 hG (lv_sub hl [0, 1, 2, 3] rfl) hw
