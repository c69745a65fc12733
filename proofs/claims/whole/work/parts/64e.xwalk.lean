theorem hd_X8_keeperRefusal : yX8_keeperRefusal.cls ≠ "java/lang/invoke/MethodHandle" ∧ yX8_keeperRefusal.cls ≠ "java/lang/invoke/VarHandle" ∧ (parseMethodDescriptor yX8_keeperRefusal.desc).map (fun d => d.parameters.length) = some 1 := by decide +kernel
set_option maxRecDepth 100000 in
set_option maxHeartbeats 4000000 in
theorem c_X8_keeperRefusal (l : Launch) (y : Sy) (x1 : Int32) (st : St) (K : Int32 → St → Prop) (hw : w_X8_keeperRefusal x1 st K) : Ci 107 enX l yX8_keeperRefusal cX8_keeperRefusal 2 (some .int) 1 21 y [.ref (ad y 0), .int x1] st K := by
  refine ent (by decide) (Nat.le_of_ble_eq_true rfl) ?_
  intro p e s m below meth c C hG ls hl
  have hl : lv_has ls 2 [(0, .ref (ad y 0)), (1, .int x1)] := hl
  generalize ([.ref (ad y 0), .int x1] : List Value).toArray = args at C ⊢
  have C : Sd p s m args meth c cX8_keeperRefusal 2 RX8 (some .int) y := C
  obtain ⟨hx, hb, hml, hown, hts, hr, hlk, hK, hN⟩ := id C
  generalize s.heap = H at hG ⊢
  generalize ([] : List Loc) = locs at hG ⊢
  unfold w_X8_keeperRefusal at hw
  refine lv_aload_n hx hb dX8_keeperRefusal_0 rfl (lv_at hl 0 rfl) ?_
  refine r_get (C := RX8) (T := TX8) (Nf := 10) hx hb hts hown hK hG (by decide) rfl rfl inX8 0 (by decide) qF_X8_44 rfl dX8_keeperRefusal_1 ?_
  refine lv_iload_n hx hb dX8_keeperRefusal_4 rfl (lv_at hl 1 rfl) ?_
  refine r_ki (r_run_V (k := 11) (As := [.int x1]) (rest := []) hx hb hml hown hts hK hN hG (c_X1_hasKeeper l y 11 isC_11 x1 st _ hw) (isC.lt isC_11) (isC.e isC_11 y _) rfl rfl qM_X8_347 qI_X1_hasKeeper qS_X1_hasKeeper qN_X1 qC_X1_hasKeeper hd_X1_hasKeeper ⟨Nat.le_of_ble_eq_true rfl, Nat.le_of_ble_eq_true rfl⟩ hl.1 rfl (Nat.le_of_ble_eq_true rfl) dX8_keeperRefusal_5) hG (fun r5 st5 H locs hw hG => ?_)
  refine lv_if_eq (tgt := 15) hx hb dX8_keeperRefusal_8 (by decide) (fun hc => ?_) (fun hc => ?_)
  · replace hw := hw.1 hc
    refine lv_iconst (v := (-1)) hx hb dX8_keeperRefusal_15 (by decide) ?_
    exact r_iret hx hb hr hlk hK hG rfl hw dX8_keeperRefusal_16
  · replace hw := hw.2 hc
    refine lv_iconst (v := 0) hx hb dX8_keeperRefusal_11 (by decide) ?_
    refine lv_goto (tgt := 16) hx hb dX8_keeperRefusal_12 (by decide) ?_
    exact r_iret hx hb hr hlk hK hG rfl hw dX8_keeperRefusal_16
theorem hd_X8_choice : yX8_choice.cls ≠ "java/lang/invoke/MethodHandle" ∧ yX8_choice.cls ≠ "java/lang/invoke/VarHandle" ∧ (parseMethodDescriptor yX8_choice.desc).map (fun d => d.parameters.length) = some 2 := by decide +kernel
set_option maxRecDepth 100000 in
set_option maxHeartbeats 4000000 in
theorem c_X8_choice (l : Launch) (y : Sy) (x0 : Int32) (x1 : Int32) (st : St) (K : Int32 → St → Prop) (hw : w_X8_choice x0 x1 st K) : Ci 107 enX l yX8_choice cX8_choice 2 (some .int) 0 0 y [.int x0, .int x1] st K := by
  refine ent (by decide) (Nat.le_of_ble_eq_true rfl) ?_
  intro p e s m below meth c C hG ls hl
  have hl : lv_has ls 2 [(0, .int x0), (1, .int x1)] := hl
  generalize ([.int x0, .int x1] : List Value).toArray = args at C ⊢
  have C : Sd p s m args meth c cX8_choice 2 RX8 (some .int) y := C
  obtain ⟨hx, hb, hml, hown, hts, hr, hlk, hK, hN⟩ := id C
  generalize s.heap = H at hG ⊢
  generalize ([] : List Loc) = locs at hG ⊢
  unfold w_X8_choice at hw
  refine lv_iload_n hx hb dX8_choice_0 rfl (lv_at hl 0 rfl) ?_
  refine lv_if_lt (tgt := 13) hx hb dX8_choice_1 (by decide) (fun hc => ?_) (fun hc => ?_)
  · replace hw := hw.1 hc
    refine lv_bipush (v := (-2)) hx hb dX8_choice_13 (by decide) ?_
    exact r_iret hx hb hr hlk hK hG rfl hw dX8_choice_15
  · replace hw := hw.2 hc
    refine lv_iload_n hx hb dX8_choice_4 rfl (lv_at hl 0 rfl) ?_
    refine lv_iload_n hx hb dX8_choice_5 rfl (lv_at hl 1 rfl) ?_
    refine lv_icmp_gt (tgt := 13) hx hb dX8_choice_6 (by decide) (fun hc => ?_) (fun hc => ?_)
    · replace hw := hw.1 hc
      refine lv_bipush (v := (-2)) hx hb dX8_choice_13 (by decide) ?_
      exact r_iret hx hb hr hlk hK hG rfl hw dX8_choice_15
    · replace hw := hw.2 hc
      refine lv_iconst (v := 0) hx hb dX8_choice_9 (by decide) ?_
      refine lv_goto (tgt := 15) hx hb dX8_choice_10 (by decide) ?_
      exact r_iret hx hb hr hlk hK hG rfl hw dX8_choice_15
theorem hd_X8_keeperOf : yX8_keeperOf.cls ≠ "java/lang/invoke/MethodHandle" ∧ yX8_keeperOf.cls ≠ "java/lang/invoke/VarHandle" ∧ (parseMethodDescriptor yX8_keeperOf.desc).map (fun d => d.parameters.length) = some 2 := by decide +kernel
set_option maxRecDepth 100000 in
set_option maxHeartbeats 4000000 in
theorem c_X8_keeperOf (l : Launch) (y : Sy) (x1 : Int32) (x2 : Int32) (st : St) (K : Int32 → St → Prop) (hw : w_X8_keeperOf x1 x2 st K) : Ci 107 enX l yX8_keeperOf cX8_keeperOf 4 (some .int) 2 44 y [.ref (ad y 0), .int x1, .int x2] st K := by
  refine ent (by decide) (Nat.le_of_ble_eq_true rfl) ?_
  intro p e s m below meth c C hG ls hl
  have hl : lv_has ls 4 [(0, .ref (ad y 0)), (1, .int x1), (2, .int x2)] := hl
  generalize ([.ref (ad y 0), .int x1, .int x2] : List Value).toArray = args at C ⊢
  have C : Sd p s m args meth c cX8_keeperOf 4 RX8 (some .int) y := C
  obtain ⟨hx, hb, hml, hown, hts, hr, hlk, hK, hN⟩ := id C
  generalize s.heap = H at hG ⊢
  generalize ([] : List Loc) = locs at hG ⊢
  unfold w_X8_keeperOf at hw
  refine lv_aload_n hx hb dX8_keeperOf_0 rfl (lv_at hl 0 rfl) ?_
  refine lv_iload_n hx hb dX8_keeperOf_1 rfl (lv_at hl 1 rfl) ?_
  refine r_ki (r_run_V (k := 0) (As := [.int x1]) (rest := []) hx hb hml hown hts hK hN hG (c_X8_keeperRefusal l y x1 st _ hw) (by decide) rfl rfl rfl qM_X8_94 qI_X8_keeperRefusal qS_X8_keeperRefusal qN_X8 qC_X8_keeperRefusal hd_X8_keeperRefusal ⟨Nat.le_of_ble_eq_true rfl, Nat.le_of_ble_eq_true rfl⟩ hl.1 rfl (Nat.le_of_ble_eq_true rfl) dX8_keeperOf_2) hG (fun r2 st2 H locs hw hG => ?_)
  refine lv_iload_n hx hb dX8_keeperOf_5 rfl (lv_at hl 2 rfl) ?_
  refine lv_iconst (v := 5) hx hb dX8_keeperOf_6 (by decide) ?_
  refine r_ki (r_run_S (As := [.int x2, .int 5]) (rest := [.int r2]) hx hb hml hown hts hK hN hG (c_X8_choice l y x2 5 st2 _ hw) qM_X8_97 qT_X8_choice qN_X8 qC_X8_choice hd_X8_choice ⟨Nat.le_of_ble_eq_true rfl, Nat.le_of_ble_eq_true rfl⟩ hl.1 rfl (Nat.le_of_ble_eq_true rfl) dX8_keeperOf_7) hG (fun r7 st7 H locs hw hG => ?_)
  refine lv_iconst (v := 0) hx hb dX8_keeperOf_10 (by decide) ?_
  refine r_ki (r_run_S (As := [.int r2, .int r7, .int 0]) (rest := []) hx hb hml hown hts hK hN hG (c_X8_firstOf l y r2 r7 0 st7 _ hw) qM_X8_71 qT_X8_firstOf qN_X8 qC_X8_firstOf hd_X8_firstOf ⟨Nat.le_of_ble_eq_true rfl, Nat.le_of_ble_eq_true rfl⟩ hl.1 rfl (Nat.le_of_ble_eq_true rfl) dX8_keeperOf_11) hG (fun r11 st11 H locs hw hG => ?_)
  refine lv_istore_n (lv' := [(3, .int r11), (0, .ref (ad y 0)), (1, .int x1), (2, .int x2)]) hx hb dX8_keeperOf_14 rfl hl (Nat.le_of_ble_eq_true rfl) rfl (fun ls hl => ?_)
  refine lv_iload_n hx hb dX8_keeperOf_15 rfl (lv_at hl 0 rfl) ?_
  refine lv_if_eq (tgt := 25) hx hb dX8_keeperOf_16 (by decide) (fun hc => ?_) (fun hc => ?_)
  · replace hw := hw.1 hc
    refine lv_iload_n hx hb dX8_keeperOf_25 rfl (lv_at hl 3 rfl) ?_
    by_cases g0 : x2 = 0
    · replace hw := hw.1 g0
      refine r_tabin (v := 0) (tgt := 60) hx hb dX8_keeperOf_26 g0 (by decide) (by decide) rfl (by decide) ?_
      refine lv_aload_n hx hb dX8_keeperOf_60 rfl (lv_at hl 1 rfl) ?_
      refine r_get (C := RX8) (T := TX8) (Nf := 10) hx hb hts hown hK hG (by decide) rfl rfl inX8 0 (by decide) qF_X8_44 rfl dX8_keeperOf_61 ?_
      refine lv_iload_n hx hb dX8_keeperOf_64 rfl (lv_at hl 2 rfl) ?_
      refine r_ki (r_run_V (k := 11) (As := [.int x1]) (rest := []) hx hb hml hown hts hK hN hG (c_X1_kindOf l y 11 isC_11 x1 st11 _ hw) (isC.lt isC_11) (isC.e isC_11 y _) rfl rfl qM_X8_101 qI_X1_kindOf qS_X1_kindOf qN_X1 qC_X1_kindOf hd_X1_kindOf ⟨Nat.le_of_ble_eq_true rfl, Nat.le_of_ble_eq_true rfl⟩ hl.1 rfl (Nat.le_of_ble_eq_true rfl) dX8_keeperOf_65) hG (fun r65 st65 H locs hw hG => ?_)
      exact r_iret hx hb hr hlk hK hG rfl hw dX8_keeperOf_68
    replace hw := hw.2 g0
    by_cases g1 : x2 = 1
    · replace hw := hw.1 g1
      refine r_tabin (v := 1) (tgt := 69) hx hb dX8_keeperOf_26 g1 (by decide) (by decide) rfl (by decide) ?_
      refine lv_aload_n hx hb dX8_keeperOf_69 rfl (lv_at hl 1 rfl) ?_
      refine r_get (C := RX8) (T := TX8) (Nf := 10) hx hb hts hown hK hG (by decide) rfl rfl inX8 0 (by decide) qF_X8_44 rfl dX8_keeperOf_70 ?_
      refine lv_iload_n hx hb dX8_keeperOf_73 rfl (lv_at hl 2 rfl) ?_
      refine r_ki (r_run_V (k := 11) (As := [.int x1]) (rest := []) hx hb hml hown hts hK hN hG (c_X1_figureOf l y 11 isC_11 x1 st11 _ hw) (isC.lt isC_11) (isC.e isC_11 y _) rfl rfl qM_X8_104 qI_X1_figureOf qS_X1_figureOf qN_X1 qC_X1_figureOf hd_X1_figureOf ⟨Nat.le_of_ble_eq_true rfl, Nat.le_of_ble_eq_true rfl⟩ hl.1 rfl (Nat.le_of_ble_eq_true rfl) dX8_keeperOf_74) hG (fun r74 st74 H locs hw hG => ?_)
      exact r_iret hx hb hr hlk hK hG rfl hw dX8_keeperOf_77
    replace hw := hw.2 g1
    by_cases g2 : x2 = 2
    · replace hw := hw.1 g2
      refine r_tabin (v := 2) (tgt := 78) hx hb dX8_keeperOf_26 g2 (by decide) (by decide) rfl (by decide) ?_
      refine lv_aload_n hx hb dX8_keeperOf_78 rfl (lv_at hl 1 rfl) ?_
      refine r_get (C := RX8) (T := TX8) (Nf := 10) hx hb hts hown hK hG (by decide) rfl rfl inX8 0 (by decide) qF_X8_44 rfl dX8_keeperOf_79 ?_
      refine lv_iload_n hx hb dX8_keeperOf_82 rfl (lv_at hl 2 rfl) ?_
      refine r_ki (r_run_V (k := 11) (As := [.int x1]) (rest := []) hx hb hml hown hts hK hN hG (c_X1_townOf l y 11 isC_11 x1 st11 _ hw) (isC.lt isC_11) (isC.e isC_11 y _) rfl rfl qM_X8_107 qI_X1_townOf qS_X1_townOf qN_X1 qC_X1_townOf hd_X1_townOf ⟨Nat.le_of_ble_eq_true rfl, Nat.le_of_ble_eq_true rfl⟩ hl.1 rfl (Nat.le_of_ble_eq_true rfl) dX8_keeperOf_83) hG (fun r83 st83 H locs hw hG => ?_)
      exact r_iret hx hb hr hlk hK hG rfl hw dX8_keeperOf_86
    replace hw := hw.2 g2
    by_cases g3 : x2 = 3
    · replace hw := hw.1 g3
      refine r_tabin (v := 3) (tgt := 87) hx hb dX8_keeperOf_26 g3 (by decide) (by decide) rfl (by decide) ?_
      refine lv_aload_n hx hb dX8_keeperOf_87 rfl (lv_at hl 1 rfl) ?_
      refine r_get (C := RX8) (T := TX8) (Nf := 10) hx hb hts hown hK hG (by decide) rfl rfl inX8 0 (by decide) qF_X8_44 rfl dX8_keeperOf_88 ?_
      refine lv_iload_n hx hb dX8_keeperOf_91 rfl (lv_at hl 2 rfl) ?_
      refine r_ki (r_run_V (k := 11) (As := [.int x1]) (rest := []) hx hb hml hown hts hK hN hG (c_X1_fadeOf l y 11 isC_11 x1 st11 _ hw) (isC.lt isC_11) (isC.e isC_11 y _) rfl rfl qM_X8_110 qI_X1_fadeOf qS_X1_fadeOf qN_X1 qC_X1_fadeOf hd_X1_fadeOf ⟨Nat.le_of_ble_eq_true rfl, Nat.le_of_ble_eq_true rfl⟩ hl.1 rfl (Nat.le_of_ble_eq_true rfl) dX8_keeperOf_92) hG (fun r92 st92 H locs hw hG => ?_)
      exact r_iret hx hb hr hlk hK hG rfl hw dX8_keeperOf_95
    replace hw := hw.2 g3
    by_cases g4 : x2 = 4
    · replace hw := hw.1 g4
      refine r_tabin (v := 4) (tgt := 96) hx hb dX8_keeperOf_26 g4 (by decide) (by decide) rfl (by decide) ?_
      refine lv_aload_n hx hb dX8_keeperOf_96 rfl (lv_at hl 1 rfl) ?_
      refine r_get (C := RX8) (T := TX8) (Nf := 10) hx hb hts hown hK hG (by decide) rfl rfl inX8 0 (by decide) qF_X8_44 rfl dX8_keeperOf_97 ?_
      refine lv_iload_n hx hb dX8_keeperOf_100 rfl (lv_at hl 2 rfl) ?_
      refine r_ki (r_run_V (k := 11) (As := [.int x1]) (rest := []) hx hb hml hown hts hK hN hG (c_X1_stirOf l y 11 isC_11 x1 st11 _ hw) (isC.lt isC_11) (isC.e isC_11 y _) rfl rfl qM_X8_113 qI_X1_stirOf qS_X1_stirOf qN_X1 qC_X1_stirOf hd_X1_stirOf ⟨Nat.le_of_ble_eq_true rfl, Nat.le_of_ble_eq_true rfl⟩ hl.1 rfl (Nat.le_of_ble_eq_true rfl) dX8_keeperOf_101) hG (fun r101 st101 H locs hw hG => ?_)
      exact r_iret hx hb hr hlk hK hG rfl hw dX8_keeperOf_104
    replace hw := hw.2 g4
    refine r_tabdef (tgt := 105) hx hb dX8_keeperOf_26 (by decide) (fun v q1 q2 q3 => ?_) ?_
    · rcases (show v = 0 ∨ v = 1 ∨ v = 2 ∨ v = 3 ∨ v = 4 by omega) with rfl | rfl | rfl | rfl | rfl
      · exact absurd (r_toI (v := 0) q3) g0
      · exact absurd (r_toI (v := 1) q3) g1
      · exact absurd (r_toI (v := 2) q3) g2
      · exact absurd (r_toI (v := 3) q3) g3
      · exact absurd (r_toI (v := 4) q3) g4
    refine lv_aload_n hx hb dX8_keeperOf_105 rfl (lv_at hl 1 rfl) ?_
    refine r_get (C := RX8) (T := TX8) (Nf := 10) hx hb hts hown hK hG (by decide) rfl rfl inX8 0 (by decide) qF_X8_44 rfl dX8_keeperOf_106 ?_
    refine lv_iload_n hx hb dX8_keeperOf_109 rfl (lv_at hl 2 rfl) ?_
    refine r_ki (r_run_V (k := 11) (As := [.int x1]) (rest := []) hx hb hml hown hts hK hN hG (c_X1_wageOf l y 11 isC_11 x1 st11 _ hw) (isC.lt isC_11) (isC.e isC_11 y _) rfl rfl qM_X8_116 qI_X1_wageOf qS_X1_wageOf qN_X1 qC_X1_wageOf hd_X1_wageOf ⟨Nat.le_of_ble_eq_true rfl, Nat.le_of_ble_eq_true rfl⟩ hl.1 rfl (Nat.le_of_ble_eq_true rfl) dX8_keeperOf_110) hG (fun r110 st110 H locs hw hG => ?_)
    exact r_iret hx hb hr hlk hK hG rfl hw dX8_keeperOf_113
  · replace hw := hw.2 hc
    refine lv_aload_n hx hb dX8_keeperOf_19 rfl (lv_at hl 1 rfl) ?_
    refine lv_iload_n hx hb dX8_keeperOf_20 rfl (lv_at hl 0 rfl) ?_
    refine r_ki (r_run_V (k := 0) (As := [.int r11]) (rest := []) hx hb hml hown hts hK hN hG (c_X8_refused l y r11 st11 _ hw) (by decide) rfl rfl rfl qM_X8_74 qI_X8_refused qS_X8_refused qN_X8 qC_X8_refused hd_X8_refused ⟨Nat.le_of_ble_eq_true rfl, Nat.le_of_ble_eq_true rfl⟩ hl.1 rfl (Nat.le_of_ble_eq_true rfl) dX8_keeperOf_21) hG (fun r21 st21 H locs hw hG => ?_)
    exact r_iret hx hb hr hlk hK hG rfl hw dX8_keeperOf_24
theorem hd_X8_letterRefusal : yX8_letterRefusal.cls ≠ "java/lang/invoke/MethodHandle" ∧ yX8_letterRefusal.cls ≠ "java/lang/invoke/VarHandle" ∧ (parseMethodDescriptor yX8_letterRefusal.desc).map (fun d => d.parameters.length) = some 1 := by decide +kernel
set_option maxRecDepth 100000 in
set_option maxHeartbeats 4000000 in
theorem c_X8_letterRefusal (l : Launch) (y : Sy) (x1 : Int32) (st : St) (K : Int32 → St → Prop) (hw : w_X8_letterRefusal x1 st K) : Ci 107 enX l yX8_letterRefusal cX8_letterRefusal 2 (some .int) 1 21 y [.ref (ad y 0), .int x1] st K := by
  refine ent (by decide) (Nat.le_of_ble_eq_true rfl) ?_
  intro p e s m below meth c C hG ls hl
  have hl : lv_has ls 2 [(0, .ref (ad y 0)), (1, .int x1)] := hl
  generalize ([.ref (ad y 0), .int x1] : List Value).toArray = args at C ⊢
  have C : Sd p s m args meth c cX8_letterRefusal 2 RX8 (some .int) y := C
  obtain ⟨hx, hb, hml, hown, hts, hr, hlk, hK, hN⟩ := id C
  generalize s.heap = H at hG ⊢
  generalize ([] : List Loc) = locs at hG ⊢
  unfold w_X8_letterRefusal at hw
  refine lv_aload_n hx hb dX8_letterRefusal_0 rfl (lv_at hl 0 rfl) ?_
  refine r_get (C := RX8) (T := TX8) (Nf := 10) hx hb hts hown hK hG (by decide) rfl rfl inX8 0 (by decide) qF_X8_44 rfl dX8_letterRefusal_1 ?_
  refine lv_iload_n hx hb dX8_letterRefusal_4 rfl (lv_at hl 1 rfl) ?_
  refine r_ki (r_run_V (k := 11) (As := [.int x1]) (rest := []) hx hb hml hown hts hK hN hG (c_X1_hasLetter l y 11 isC_11 x1 st _ hw) (isC.lt isC_11) (isC.e isC_11 y _) rfl rfl qM_X8_350 qI_X1_hasLetter qS_X1_hasLetter qN_X1 qC_X1_hasLetter hd_X1_hasLetter ⟨Nat.le_of_ble_eq_true rfl, Nat.le_of_ble_eq_true rfl⟩ hl.1 rfl (Nat.le_of_ble_eq_true rfl) dX8_letterRefusal_5) hG (fun r5 st5 H locs hw hG => ?_)
  refine lv_if_eq (tgt := 15) hx hb dX8_letterRefusal_8 (by decide) (fun hc => ?_) (fun hc => ?_)
  · replace hw := hw.1 hc
    refine lv_iconst (v := (-1)) hx hb dX8_letterRefusal_15 (by decide) ?_
    exact r_iret hx hb hr hlk hK hG rfl hw dX8_letterRefusal_16
  · replace hw := hw.2 hc
    refine lv_iconst (v := 0) hx hb dX8_letterRefusal_11 (by decide) ?_
    refine lv_goto (tgt := 16) hx hb dX8_letterRefusal_12 (by decide) ?_
    exact r_iret hx hb hr hlk hK hG rfl hw dX8_letterRefusal_16
theorem hd_X8_letterOf : yX8_letterOf.cls ≠ "java/lang/invoke/MethodHandle" ∧ yX8_letterOf.cls ≠ "java/lang/invoke/VarHandle" ∧ (parseMethodDescriptor yX8_letterOf.desc).map (fun d => d.parameters.length) = some 2 := by decide +kernel
set_option maxRecDepth 100000 in
set_option maxHeartbeats 4000000 in
theorem c_X8_letterOf (l : Launch) (y : Sy) (x1 : Int32) (x2 : Int32) (st : St) (K : Int32 → St → Prop) (hw : w_X8_letterOf x1 x2 st K) : Ci 107 enX l yX8_letterOf cX8_letterOf 4 (some .int) 3 72 y [.ref (ad y 0), .int x1, .int x2] st K := by
  refine ent (by decide) (Nat.le_of_ble_eq_true rfl) ?_
  intro p e s m below meth c C hG ls hl
  have hl : lv_has ls 4 [(0, .ref (ad y 0)), (1, .int x1), (2, .int x2)] := hl
  generalize ([.ref (ad y 0), .int x1, .int x2] : List Value).toArray = args at C ⊢
  have C : Sd p s m args meth c cX8_letterOf 4 RX8 (some .int) y := C
  obtain ⟨hx, hb, hml, hown, hts, hr, hlk, hK, hN⟩ := id C
  generalize s.heap = H at hG ⊢
  generalize ([] : List Loc) = locs at hG ⊢
  unfold w_X8_letterOf at hw
  refine lv_aload_n hx hb dX8_letterOf_0 rfl (lv_at hl 0 rfl) ?_
  refine lv_iload_n hx hb dX8_letterOf_1 rfl (lv_at hl 1 rfl) ?_
  refine r_ki (r_run_V (k := 0) (As := [.int x1]) (rest := []) hx hb hml hown hts hK hN hG (c_X8_letterRefusal l y x1 st _ hw) (by decide) rfl rfl rfl qM_X8_119 qI_X8_letterRefusal qS_X8_letterRefusal qN_X8 qC_X8_letterRefusal hd_X8_letterRefusal ⟨Nat.le_of_ble_eq_true rfl, Nat.le_of_ble_eq_true rfl⟩ hl.1 rfl (Nat.le_of_ble_eq_true rfl) dX8_letterOf_2) hG (fun r2 st2 H locs hw hG => ?_)
  refine lv_iload_n hx hb dX8_letterOf_5 rfl (lv_at hl 2 rfl) ?_
  refine lv_iconst (v := 3) hx hb dX8_letterOf_6 (by decide) ?_
  refine r_ki (r_run_S (As := [.int x2, .int 3]) (rest := [.int r2]) hx hb hml hown hts hK hN hG (c_X8_choice l y x2 3 st2 _ hw) qM_X8_97 qT_X8_choice qN_X8 qC_X8_choice hd_X8_choice ⟨Nat.le_of_ble_eq_true rfl, Nat.le_of_ble_eq_true rfl⟩ hl.1 rfl (Nat.le_of_ble_eq_true rfl) dX8_letterOf_7) hG (fun r7 st7 H locs hw hG => ?_)
  refine lv_iconst (v := 0) hx hb dX8_letterOf_10 (by decide) ?_
  refine r_ki (r_run_S (As := [.int r2, .int r7, .int 0]) (rest := []) hx hb hml hown hts hK hN hG (c_X8_firstOf l y r2 r7 0 st7 _ hw) qM_X8_71 qT_X8_firstOf qN_X8 qC_X8_firstOf hd_X8_firstOf ⟨Nat.le_of_ble_eq_true rfl, Nat.le_of_ble_eq_true rfl⟩ hl.1 rfl (Nat.le_of_ble_eq_true rfl) dX8_letterOf_11) hG (fun r11 st11 H locs hw hG => ?_)
  refine lv_istore_n (lv' := [(3, .int r11), (0, .ref (ad y 0)), (1, .int x1), (2, .int x2)]) hx hb dX8_letterOf_14 rfl hl (Nat.le_of_ble_eq_true rfl) rfl (fun ls hl => ?_)
  refine lv_iload_n hx hb dX8_letterOf_15 rfl (lv_at hl 0 rfl) ?_
  refine lv_if_eq (tgt := 25) hx hb dX8_letterOf_16 (by decide) (fun hc => ?_) (fun hc => ?_)
  · replace hw := hw.1 hc
    refine lv_iload_n hx hb dX8_letterOf_25 rfl (lv_at hl 3 rfl) ?_
    by_cases g0 : x2 = 0
    · replace hw := hw.1 g0
      refine r_tabin (v := 0) (tgt := 52) hx hb dX8_letterOf_26 g0 (by decide) (by decide) rfl (by decide) ?_
      refine lv_aload_n hx hb dX8_letterOf_52 rfl (lv_at hl 1 rfl) ?_
      refine r_get (C := RX8) (T := TX8) (Nf := 10) hx hb hts hown hK hG (by decide) rfl rfl inX8 0 (by decide) qF_X8_44 rfl dX8_letterOf_53 ?_
      refine lv_iload_n hx hb dX8_letterOf_56 rfl (lv_at hl 2 rfl) ?_
      refine r_ki (r_run_V (k := 11) (As := [.int x1]) (rest := []) hx hb hml hown hts hK hN hG (c_X1_depthOf l y 11 isC_11 x1 st11 _ hw) (isC.lt isC_11) (isC.e isC_11 y _) rfl rfl qM_X8_122 qI_X1_depthOf qS_X1_depthOf qN_X1 qC_X1_depthOf hd_X1_depthOf ⟨Nat.le_of_ble_eq_true rfl, Nat.le_of_ble_eq_true rfl⟩ hl.1 rfl (Nat.le_of_ble_eq_true rfl) dX8_letterOf_57) hG (fun r57 st57 H locs hw hG => ?_)
      exact r_iret hx hb hr hlk hK hG rfl hw dX8_letterOf_60
    replace hw := hw.2 g0
    by_cases g1 : x2 = 1
    · replace hw := hw.1 g1
      refine r_tabin (v := 1) (tgt := 61) hx hb dX8_letterOf_26 g1 (by decide) (by decide) rfl (by decide) ?_
      refine lv_aload_n hx hb dX8_letterOf_61 rfl (lv_at hl 1 rfl) ?_
      refine r_get (C := RX8) (T := TX8) (Nf := 10) hx hb hts hown hK hG (by decide) rfl rfl inX8 0 (by decide) qF_X8_44 rfl dX8_letterOf_62 ?_
      refine lv_iload_n hx hb dX8_letterOf_65 rfl (lv_at hl 2 rfl) ?_
      refine r_ki (r_run_V (k := 11) (As := [.int x1]) (rest := []) hx hb hml hown hts hK hN hG (c_X1_letterTownOf l y 11 isC_11 x1 st11 _ hw) (isC.lt isC_11) (isC.e isC_11 y _) rfl rfl qM_X8_125 qI_X1_letterTownOf qS_X1_letterTownOf qN_X1 qC_X1_letterTownOf hd_X1_letterTownOf ⟨Nat.le_of_ble_eq_true rfl, Nat.le_of_ble_eq_true rfl⟩ hl.1 rfl (Nat.le_of_ble_eq_true rfl) dX8_letterOf_66) hG (fun r66 st66 H locs hw hG => ?_)
      exact r_iret hx hb hr hlk hK hG rfl hw dX8_letterOf_69
    replace hw := hw.2 g1
    by_cases g2 : x2 = 2
    · replace hw := hw.1 g2
      refine r_tabin (v := 2) (tgt := 70) hx hb dX8_letterOf_26 g2 (by decide) (by decide) rfl (by decide) ?_
      refine lv_aload_n hx hb dX8_letterOf_70 rfl (lv_at hl 1 rfl) ?_
      refine r_get (C := RX8) (T := TX8) (Nf := 10) hx hb hts hown hK hG (by decide) rfl rfl inX8 0 (by decide) qF_X8_44 rfl dX8_letterOf_71 ?_
      refine lv_iload_n hx hb dX8_letterOf_74 rfl (lv_at hl 2 rfl) ?_
      refine r_ki (r_run_V (k := 11) (As := [.int x1]) (rest := []) hx hb hml hown hts hK hN hG (c_X1_isOpen l y 11 isC_11 x1 st11 _ hw) (isC.lt isC_11) (isC.e isC_11 y _) rfl rfl qM_X8_128 qI_X1_isOpen qS_X1_isOpen qN_X1 qC_X1_isOpen hd_X1_isOpen ⟨Nat.le_of_ble_eq_true rfl, Nat.le_of_ble_eq_true rfl⟩ hl.1 rfl (Nat.le_of_ble_eq_true rfl) dX8_letterOf_75) hG (fun r75 st75 H locs hw hG => ?_)
      refine lv_if_eq (tgt := 85) hx hb dX8_letterOf_78 (by decide) (fun hc => ?_) (fun hc => ?_)
      · replace hw := hw.1 hc
        refine lv_iconst (v := 0) hx hb dX8_letterOf_85 (by decide) ?_
        exact r_iret hx hb hr hlk hK hG rfl hw dX8_letterOf_86
      · replace hw := hw.2 hc
        refine lv_iconst (v := 1) hx hb dX8_letterOf_81 (by decide) ?_
        refine lv_goto (tgt := 86) hx hb dX8_letterOf_82 (by decide) ?_
        exact r_iret hx hb hr hlk hK hG rfl hw dX8_letterOf_86
    replace hw := hw.2 g2
    refine r_tabdef (tgt := 87) hx hb dX8_letterOf_26 (by decide) (fun v q1 q2 q3 => ?_) ?_
    · rcases (show v = 0 ∨ v = 1 ∨ v = 2 by omega) with rfl | rfl | rfl
      · exact absurd (r_toI (v := 0) q3) g0
      · exact absurd (r_toI (v := 1) q3) g1
      · exact absurd (r_toI (v := 2) q3) g2
    refine lv_aload_n hx hb dX8_letterOf_87 rfl (lv_at hl 1 rfl) ?_
    refine r_get (C := RX8) (T := TX8) (Nf := 10) hx hb hts hown hK hG (by decide) rfl rfl inX8 0 (by decide) qF_X8_44 rfl dX8_letterOf_88 ?_
    refine lv_iload_n hx hb dX8_letterOf_91 rfl (lv_at hl 2 rfl) ?_
    refine r_ki (r_run_V (k := 11) (As := [.int x1]) (rest := []) hx hb hml hown hts hK hN hG (c_X1_opener l y 11 isC_11 x1 st11 _ hw) (isC.lt isC_11) (isC.e isC_11 y _) rfl rfl qM_X8_132 qI_X1_opener qS_X1_opener qN_X1 qC_X1_opener hd_X1_opener ⟨Nat.le_of_ble_eq_true rfl, Nat.le_of_ble_eq_true rfl⟩ hl.1 rfl (Nat.le_of_ble_eq_true rfl) dX8_letterOf_92) hG (fun r92 st92 H locs hw hG => ?_)
    exact r_iret hx hb hr hlk hK hG rfl hw dX8_letterOf_95
  · replace hw := hw.2 hc
    refine lv_aload_n hx hb dX8_letterOf_19 rfl (lv_at hl 1 rfl) ?_
    refine lv_iload_n hx hb dX8_letterOf_20 rfl (lv_at hl 0 rfl) ?_
    refine r_ki (r_run_V (k := 0) (As := [.int r11]) (rest := []) hx hb hml hown hts hK hN hG (c_X8_refused l y r11 st11 _ hw) (by decide) rfl rfl rfl qM_X8_74 qI_X8_refused qS_X8_refused qN_X8 qC_X8_refused hd_X8_refused ⟨Nat.le_of_ble_eq_true rfl, Nat.le_of_ble_eq_true rfl⟩ hl.1 rfl (Nat.le_of_ble_eq_true rfl) dX8_letterOf_21) hG (fun r21 st21 H locs hw hG => ?_)
    exact r_iret hx hb hr hlk hK hG rfl hw dX8_letterOf_24
theorem hd_X8_twoRefusal : yX8_twoRefusal.cls ≠ "java/lang/invoke/MethodHandle" ∧ yX8_twoRefusal.cls ≠ "java/lang/invoke/VarHandle" ∧ (parseMethodDescriptor yX8_twoRefusal.desc).map (fun d => d.parameters.length) = some 2 := by decide +kernel
set_option maxRecDepth 100000 in
set_option maxHeartbeats 4000000 in
theorem c_X8_twoRefusal (l : Launch) (y : Sy) (x1 : Int32) (x2 : Int32) (st : St) (K : Int32 → St → Prop) (hw : w_X8_twoRefusal x1 x2 st K) : Ci 107 enX l yX8_twoRefusal cX8_twoRefusal 3 (some .int) 2 43 y [.ref (ad y 0), .int x1, .int x2] st K := by
  refine ent (by decide) (Nat.le_of_ble_eq_true rfl) ?_
  intro p e s m below meth c C hG ls hl
  have hl : lv_has ls 3 [(0, .ref (ad y 0)), (1, .int x1), (2, .int x2)] := hl
  generalize ([.ref (ad y 0), .int x1, .int x2] : List Value).toArray = args at C ⊢
  have C : Sd p s m args meth c cX8_twoRefusal 3 RX8 (some .int) y := C
  obtain ⟨hx, hb, hml, hown, hts, hr, hlk, hK, hN⟩ := id C
  generalize s.heap = H at hG ⊢
  generalize ([] : List Loc) = locs at hG ⊢
  unfold w_X8_twoRefusal at hw
  refine lv_aload_n hx hb dX8_twoRefusal_0 rfl (lv_at hl 0 rfl) ?_
  refine r_get (C := RX8) (T := TX8) (Nf := 10) hx hb hts hown hK hG (by decide) rfl rfl inX8 0 (by decide) qF_X8_44 rfl dX8_twoRefusal_1 ?_
  refine lv_iload_n hx hb dX8_twoRefusal_4 rfl (lv_at hl 1 rfl) ?_
  refine lv_iload_n hx hb dX8_twoRefusal_5 rfl (lv_at hl 2 rfl) ?_
  refine r_ki (r_run_V (k := 11) (As := [.int x1, .int x2]) (rest := []) hx hb hml hown hts hK hN hG (c_X1_areTwo l y 11 isC_11 x1 x2 st _ hw) (isC.lt isC_11) (isC.e isC_11 y _) rfl rfl qM_X8_353 qI_X1_areTwo qS_X1_areTwo qN_X1 qC_X1_areTwo hd_X1_areTwo ⟨Nat.le_of_ble_eq_true rfl, Nat.le_of_ble_eq_true rfl⟩ hl.1 rfl (Nat.le_of_ble_eq_true rfl) dX8_twoRefusal_6) hG (fun r6 st6 H locs hw hG => ?_)
  refine lv_if_eq (tgt := 16) hx hb dX8_twoRefusal_9 (by decide) (fun hc => ?_) (fun hc => ?_)
  · replace hw := hw.1 hc
    refine lv_iconst (v := (-1)) hx hb dX8_twoRefusal_16 (by decide) ?_
    exact r_iret hx hb hr hlk hK hG rfl hw dX8_twoRefusal_17
  · replace hw := hw.2 hc
    refine lv_iconst (v := 0) hx hb dX8_twoRefusal_12 (by decide) ?_
    refine lv_goto (tgt := 17) hx hb dX8_twoRefusal_13 (by decide) ?_
    exact r_iret hx hb hr hlk hK hG rfl hw dX8_twoRefusal_17
theorem hd_X8_hate : yX8_hate.cls ≠ "java/lang/invoke/MethodHandle" ∧ yX8_hate.cls ≠ "java/lang/invoke/VarHandle" ∧ (parseMethodDescriptor yX8_hate.desc).map (fun d => d.parameters.length) = some 2 := by decide +kernel
set_option maxRecDepth 100000 in
set_option maxHeartbeats 4000000 in
theorem c_X8_hate (l : Launch) (y : Sy) (x1 : Int32) (x2 : Int32) (st : St) (K : Int32 → St → Prop) (hw : w_X8_hate x1 x2 st K) : Ci 107 enX l yX8_hate cX8_hate 4 (some .int) 3 65 y [.ref (ad y 0), .int x1, .int x2] st K := by
  refine ent (by decide) (Nat.le_of_ble_eq_true rfl) ?_
  intro p e s m below meth c C hG ls hl
  have hl : lv_has ls 4 [(0, .ref (ad y 0)), (1, .int x1), (2, .int x2)] := hl
  generalize ([.ref (ad y 0), .int x1, .int x2] : List Value).toArray = args at C ⊢
  have C : Sd p s m args meth c cX8_hate 4 RX8 (some .int) y := C
  obtain ⟨hx, hb, hml, hown, hts, hr, hlk, hK, hN⟩ := id C
  generalize s.heap = H at hG ⊢
  generalize ([] : List Loc) = locs at hG ⊢
  unfold w_X8_hate at hw
  refine lv_aload_n hx hb dX8_hate_0 rfl (lv_at hl 0 rfl) ?_
  refine lv_iload_n hx hb dX8_hate_1 rfl (lv_at hl 1 rfl) ?_
  refine lv_iload_n hx hb dX8_hate_2 rfl (lv_at hl 2 rfl) ?_
  refine r_ki (r_run_V (k := 0) (As := [.int x1, .int x2]) (rest := []) hx hb hml hown hts hK hN hG (c_X8_twoRefusal l y x1 x2 st _ hw) (by decide) rfl rfl rfl qM_X8_135 qI_X8_twoRefusal qS_X8_twoRefusal qN_X8 qC_X8_twoRefusal hd_X8_twoRefusal ⟨Nat.le_of_ble_eq_true rfl, Nat.le_of_ble_eq_true rfl⟩ hl.1 rfl (Nat.le_of_ble_eq_true rfl) dX8_hate_3) hG (fun r3 st3 H locs hw hG => ?_)
  refine lv_istore_n (lv' := [(3, .int r3), (0, .ref (ad y 0)), (1, .int x1), (2, .int x2)]) hx hb dX8_hate_6 rfl hl (Nat.le_of_ble_eq_true rfl) rfl (fun ls hl => ?_)
  refine lv_iload_n hx hb dX8_hate_7 rfl (lv_at hl 0 rfl) ?_
  refine lv_if_eq (tgt := 19) hx hb dX8_hate_8 (by decide) (fun hc => ?_) (fun hc => ?_)
  · replace hw := hw.1 hc
    refine lv_aload_n hx hb dX8_hate_19 rfl (lv_at hl 1 rfl) ?_
    refine r_get (C := RX8) (T := TX8) (Nf := 10) hx hb hts hown hK hG (by decide) rfl rfl inX8 0 (by decide) qF_X8_44 rfl dX8_hate_20 ?_
    refine lv_iload_n hx hb dX8_hate_23 rfl (lv_at hl 2 rfl) ?_
    refine lv_iload_n hx hb dX8_hate_24 rfl (lv_at hl 3 rfl) ?_
    refine r_ki (r_run_V (k := 11) (As := [.int x1, .int x2]) (rest := []) hx hb hml hown hts hK hN hG (c_X1_hateOf l y 11 isC_11 x1 x2 st3 _ hw) (isC.lt isC_11) (isC.e isC_11 y _) rfl rfl qM_X8_138 qI_X1_hateOf qS_X1_hateOf qN_X1 qC_X1_hateOf hd_X1_hateOf ⟨Nat.le_of_ble_eq_true rfl, Nat.le_of_ble_eq_true rfl⟩ hl.1 rfl (Nat.le_of_ble_eq_true rfl) dX8_hate_25) hG (fun r25 st25 H locs hw hG => ?_)
    exact r_iret hx hb hr hlk hK hG rfl hw dX8_hate_28
  · replace hw := hw.2 hc
    refine lv_aload_n hx hb dX8_hate_11 rfl (lv_at hl 1 rfl) ?_
    refine lv_iload_n hx hb dX8_hate_12 rfl (lv_at hl 0 rfl) ?_
    refine r_ki (r_run_V (k := 0) (As := [.int r3]) (rest := []) hx hb hml hown hts hK hN hG (c_X8_refused l y r3 st3 _ hw) (by decide) rfl rfl rfl qM_X8_74 qI_X8_refused qS_X8_refused qN_X8 qC_X8_refused hd_X8_refused ⟨Nat.le_of_ble_eq_true rfl, Nat.le_of_ble_eq_true rfl⟩ hl.1 rfl (Nat.le_of_ble_eq_true rfl) dX8_hate_13) hG (fun r13 st13 H locs hw hG => ?_)
    refine lv_goto (tgt := 28) hx hb dX8_hate_16 (by decide) ?_
    exact r_iret hx hb hr hlk hK hG rfl hw dX8_hate_28
theorem hd_X8_count : yX8_count.cls ≠ "java/lang/invoke/MethodHandle" ∧ yX8_count.cls ≠ "java/lang/invoke/VarHandle" ∧ (parseMethodDescriptor yX8_count.desc).map (fun d => d.parameters.length) = some 1 := by decide +kernel
set_option maxRecDepth 100000 in
set_option maxHeartbeats 4000000 in
theorem c_X8_count (l : Launch) (y : Sy) (x1 : Int32) (st : St) (K : Int32 → St → Prop) (hw : w_X8_count x1 st K) : Ci 107 enX l yX8_count cX8_count 2 (some .int) 3 66 y [.ref (ad y 0), .int x1] st K := by
  refine ent (by decide) (Nat.le_of_ble_eq_true rfl) ?_
  intro p e s m below meth c C hG ls hl
  have hl : lv_has ls 2 [(0, .ref (ad y 0)), (1, .int x1)] := hl
  generalize ([.ref (ad y 0), .int x1] : List Value).toArray = args at C ⊢
  have C : Sd p s m args meth c cX8_count 2 RX8 (some .int) y := C
  obtain ⟨hx, hb, hml, hown, hts, hr, hlk, hK, hN⟩ := id C
  generalize s.heap = H at hG ⊢
  generalize ([] : List Loc) = locs at hG ⊢
  unfold w_X8_count at hw
  refine lv_iload_n hx hb dX8_count_0 rfl (lv_at hl 1 rfl) ?_
  by_cases g0 : x1 = 0
  · replace hw := hw.1 g0
    refine r_tabin (v := 0) (tgt := 48) hx hb dX8_count_1 g0 (by decide) (by decide) rfl (by decide) ?_
    refine lv_aload_n hx hb dX8_count_48 rfl (lv_at hl 0 rfl) ?_
    refine r_get (C := RX8) (T := TX8) (Nf := 10) hx hb hts hown hK hG (by decide) rfl rfl inX8 0 (by decide) qF_X8_44 rfl dX8_count_49 ?_
    refine r_ki (r_run_V (k := 11) (As := []) (rest := []) hx hb hml hown hts hK hN hG (c_X1_keeperCount l y 11 isC_11 st _ hw) (isC.lt isC_11) (isC.e isC_11 y _) rfl rfl qM_X8_141 qI_X1_keeperCount qS_X1_keeperCount qN_X1 qC_X1_keeperCount hd_X1_keeperCount ⟨Nat.le_of_ble_eq_true rfl, Nat.le_of_ble_eq_true rfl⟩ hl.1 rfl (Nat.le_of_ble_eq_true rfl) dX8_count_52) hG (fun r52 st52 H locs hw hG => ?_)
    exact r_iret hx hb hr hlk hK hG rfl hw dX8_count_55
  replace hw := hw.2 g0
  by_cases g1 : x1 = 1
  · replace hw := hw.1 g1
    refine r_tabin (v := 1) (tgt := 56) hx hb dX8_count_1 g1 (by decide) (by decide) rfl (by decide) ?_
    refine lv_aload_n hx hb dX8_count_56 rfl (lv_at hl 0 rfl) ?_
    refine r_get (C := RX8) (T := TX8) (Nf := 10) hx hb hts hown hK hG (by decide) rfl rfl inX8 0 (by decide) qF_X8_44 rfl dX8_count_57 ?_
    refine r_ki (r_run_V (k := 11) (As := []) (rest := []) hx hb hml hown hts hK hN hG (c_X1_letterCount l y 11 isC_11 st _ hw) (isC.lt isC_11) (isC.e isC_11 y _) rfl rfl qM_X8_145 qI_X1_letterCount qS_X1_letterCount qN_X1 qC_X1_letterCount hd_X1_letterCount ⟨Nat.le_of_ble_eq_true rfl, Nat.le_of_ble_eq_true rfl⟩ hl.1 rfl (Nat.le_of_ble_eq_true rfl) dX8_count_60) hG (fun r60 st60 H locs hw hG => ?_)
    exact r_iret hx hb hr hlk hK hG rfl hw dX8_count_63
  replace hw := hw.2 g1
  by_cases g2 : x1 = 2
  · replace hw := hw.1 g2
    refine r_tabin (v := 2) (tgt := 64) hx hb dX8_count_1 g2 (by decide) (by decide) rfl (by decide) ?_
    refine lv_aload_n hx hb dX8_count_64 rfl (lv_at hl 0 rfl) ?_
    refine r_get (C := RX8) (T := TX8) (Nf := 10) hx hb hts hown hK hG (by decide) rfl rfl inX8 0 (by decide) qF_X8_44 rfl dX8_count_65 ?_
    refine r_ki (r_run_V (k := 11) (As := []) (rest := []) hx hb hml hown hts hK hN hG (c_X1_weekNow l y 11 isC_11 st _ hw) (isC.lt isC_11) (isC.e isC_11 y _) rfl rfl qM_X8_148 qI_X1_weekNow qS_X1_weekNow qN_X1 qC_X1_weekNow hd_X1_weekNow ⟨Nat.le_of_ble_eq_true rfl, Nat.le_of_ble_eq_true rfl⟩ hl.1 rfl (Nat.le_of_ble_eq_true rfl) dX8_count_68) hG (fun r68 st68 H locs hw hG => ?_)
    exact r_iret hx hb hr hlk hK hG rfl hw dX8_count_71
  replace hw := hw.2 g2
  by_cases g3 : x1 = 3
  · replace hw := hw.1 g3
    refine r_tabin (v := 3) (tgt := 72) hx hb dX8_count_1 g3 (by decide) (by decide) rfl (by decide) ?_
    refine lv_aload_n hx hb dX8_count_72 rfl (lv_at hl 0 rfl) ?_
    refine r_get (C := RX8) (T := TX8) (Nf := 10) hx hb hts hown hK hG (by decide) rfl rfl inX8 0 (by decide) qF_X8_44 rfl dX8_count_73 ?_
    refine r_ki (r_run_V (k := 11) (As := []) (rest := []) hx hb hml hown hts hK hN hG (c_X1_openBits l y 11 isC_11 st _ hw) (isC.lt isC_11) (isC.e isC_11 y _) rfl rfl qM_X8_151 qI_X1_openBits qS_X1_openBits qN_X1 qC_X1_openBits hd_X1_openBits ⟨Nat.le_of_ble_eq_true rfl, Nat.le_of_ble_eq_true rfl⟩ hl.1 rfl (Nat.le_of_ble_eq_true rfl) dX8_count_76) hG (fun r76 st76 H locs hw hG => ?_)
    exact r_iret hx hb hr hlk hK hG rfl hw dX8_count_79
  replace hw := hw.2 g3
  by_cases g4 : x1 = 4
  · replace hw := hw.1 g4
    refine r_tabin (v := 4) (tgt := 80) hx hb dX8_count_1 g4 (by decide) (by decide) rfl (by decide) ?_
    refine lv_aload_n hx hb dX8_count_80 rfl (lv_at hl 0 rfl) ?_
    refine r_get (C := RX8) (T := TX8) (Nf := 10) hx hb hts hown hK hG (by decide) rfl rfl inX8 0 (by decide) qF_X8_44 rfl dX8_count_81 ?_
    refine r_ki (r_run_V (k := 11) (As := []) (rest := []) hx hb hml hown hts hK hN hG (c_X1_allHate l y 11 isC_11 st _ hw) (isC.lt isC_11) (isC.e isC_11 y _) rfl rfl qM_X8_154 qI_X1_allHate qS_X1_allHate qN_X1 qC_X1_allHate hd_X1_allHate ⟨Nat.le_of_ble_eq_true rfl, Nat.le_of_ble_eq_true rfl⟩ hl.1 rfl (Nat.le_of_ble_eq_true rfl) dX8_count_84) hG (fun r84 st84 H locs hw hG => ?_)
    exact r_iret hx hb hr hlk hK hG rfl hw dX8_count_87
  replace hw := hw.2 g4
  by_cases g5 : x1 = 5
  · replace hw := hw.1 g5
    refine r_tabin (v := 5) (tgt := 88) hx hb dX8_count_1 g5 (by decide) (by decide) rfl (by decide) ?_
    refine lv_aload_n hx hb dX8_count_88 rfl (lv_at hl 0 rfl) ?_
    refine r_get (C := RX8) (T := TX8) (Nf := 10) hx hb hts hown hK hG (by decide) rfl rfl inX8 5 (by decide) qF_X8_29 rfl dX8_count_89 ?_
    refine r_ki (r_run_V (k := 4) (As := []) (rest := []) hx hb hml hown hts hK hN hG (c_X7_size l y  st _ hw) (by decide) rfl rfl rfl qM_X8_157 qI_X7_size qS_X7_size qN_X7 qC_X7_size hd_X7_size ⟨Nat.le_of_ble_eq_true rfl, Nat.le_of_ble_eq_true rfl⟩ hl.1 rfl (Nat.le_of_ble_eq_true rfl) dX8_count_92) hG (fun r92 st92 H locs hw hG => ?_)
    exact r_iret hx hb hr hlk hK hG rfl hw dX8_count_95
  replace hw := hw.2 g5
  by_cases g6 : x1 = 6
  · replace hw := hw.1 g6
    refine r_tabin (v := 6) (tgt := 96) hx hb dX8_count_1 g6 (by decide) (by decide) rfl (by decide) ?_
    refine lv_aload_n hx hb dX8_count_96 rfl (lv_at hl 0 rfl) ?_
    refine r_get (C := RX8) (T := TX8) (Nf := 10) hx hb hts hown hK hG (by decide) rfl rfl inX8 6 (by decide) qF_X8_36 rfl dX8_count_97 ?_
    refine r_ki (r_run_V (k := 6) (As := []) (rest := []) hx hb hml hown hts hK hN hG (c_X6_size l y  st _ hw) (by decide) rfl rfl rfl qM_X8_160 qI_X6_size qS_X6_size qN_X6 qC_X6_size hd_X6_size ⟨Nat.le_of_ble_eq_true rfl, Nat.le_of_ble_eq_true rfl⟩ hl.1 rfl (Nat.le_of_ble_eq_true rfl) dX8_count_100) hG (fun r100 st100 H locs hw hG => ?_)
    exact r_iret hx hb hr hlk hK hG rfl hw dX8_count_103
  replace hw := hw.2 g6
  by_cases g7 : x1 = 7
  · replace hw := hw.1 g7
    refine r_tabin (v := 7) (tgt := 104) hx hb dX8_count_1 g7 (by decide) (by decide) rfl (by decide) ?_
    refine lv_aload_n hx hb dX8_count_104 rfl (lv_at hl 0 rfl) ?_
    refine r_get (C := RX8) (T := TX8) (Nf := 10) hx hb hts hown hK hG (by decide) rfl rfl inX8 4 (by decide) qF_X8_22 rfl dX8_count_105 ?_
    refine r_ki (r_run_V (k := 2) (As := []) (rest := []) hx hb hml hown hts hK hN hG (c_X5_size l y  st _ hw) (by decide) rfl rfl rfl qM_X8_161 qI_X5_size qS_X5_size qN_X5 qC_X5_size hd_X5_size ⟨Nat.le_of_ble_eq_true rfl, Nat.le_of_ble_eq_true rfl⟩ hl.1 rfl (Nat.le_of_ble_eq_true rfl) dX8_count_108) hG (fun r108 st108 H locs hw hG => ?_)
    exact r_iret hx hb hr hlk hK hG rfl hw dX8_count_111
  replace hw := hw.2 g7
  refine r_tabdef (tgt := 112) hx hb dX8_count_1 (by decide) (fun v q1 q2 q3 => ?_) ?_
  · rcases (show v = 0 ∨ v = 1 ∨ v = 2 ∨ v = 3 ∨ v = 4 ∨ v = 5 ∨ v = 6 ∨ v = 7 by omega) with rfl | rfl | rfl | rfl | rfl | rfl | rfl | rfl
    · exact absurd (r_toI (v := 0) q3) g0
    · exact absurd (r_toI (v := 1) q3) g1
    · exact absurd (r_toI (v := 2) q3) g2
    · exact absurd (r_toI (v := 3) q3) g3
    · exact absurd (r_toI (v := 4) q3) g4
    · exact absurd (r_toI (v := 5) q3) g5
    · exact absurd (r_toI (v := 6) q3) g6
    · exact absurd (r_toI (v := 7) q3) g7
  refine lv_iload_n hx hb dX8_count_112 rfl (lv_at hl 1 rfl) ?_
  refine lv_bipush (v := 11) hx hb dX8_count_113 (by decide) ?_
  refine lv_icmp_lt (tgt := 138) hx hb dX8_count_115 (by decide) (fun hc => ?_) (fun hc => ?_)
  · replace hw := hw.1 hc
    refine lv_bipush (v := (-9)) hx hb dX8_count_138 (by decide) ?_
    exact r_iret hx hb hr hlk hK hG rfl hw dX8_count_140
  · replace hw := hw.2 hc
    refine lv_iload_n hx hb dX8_count_118 rfl (lv_at hl 1 rfl) ?_
    refine lv_bipush (v := 16) hx hb dX8_count_119 (by decide) ?_
    refine lv_icmp_gt (tgt := 138) hx hb dX8_count_121 (by decide) (fun hc => ?_) (fun hc => ?_)
    · replace hw := hw.1 hc
      refine lv_bipush (v := (-9)) hx hb dX8_count_138 (by decide) ?_
      exact r_iret hx hb hr hlk hK hG rfl hw dX8_count_140
    · replace hw := hw.2 hc
      refine lv_aload_n hx hb dX8_count_124 rfl (lv_at hl 0 rfl) ?_
      refine r_get (C := RX8) (T := TX8) (Nf := 10) hx hb hts hown hK hG (by decide) rfl rfl inX8 9 (by decide) qF_X8_40 rfl dX8_count_125 ?_
      refine lv_iload_n hx hb dX8_count_128 rfl (lv_at hl 1 rfl) ?_
      refine lv_bipush (v := 10) hx hb dX8_count_129 (by decide) ?_
      refine lv_isub hx hb dX8_count_131 ?_
      refine r_ki (r_run_S (As := [.ref (ad y 1), .int (x1 - 10)]) (rest := []) hx hb hml hown hts hK hN hG (c_X8_at l y 1 7 isA_1 (x1 - 10) st _ hw) qM_X8_162 qT_X8_at qN_X8 qC_X8_at hd_X8_at ⟨Nat.le_of_ble_eq_true rfl, Nat.le_of_ble_eq_true rfl⟩ hl.1 rfl (Nat.le_of_ble_eq_true rfl) dX8_count_132) hG (fun r132 st132 H locs hw hG => ?_)
      refine lv_goto (tgt := 140) hx hb dX8_count_135 (by decide) ?_
      exact r_iret hx hb hr hlk hK hG rfl hw dX8_count_140
theorem hd_X8_townRefusal : yX8_townRefusal.cls ≠ "java/lang/invoke/MethodHandle" ∧ yX8_townRefusal.cls ≠ "java/lang/invoke/VarHandle" ∧ (parseMethodDescriptor yX8_townRefusal.desc).map (fun d => d.parameters.length) = some 1 := by decide +kernel
set_option maxRecDepth 100000 in
set_option maxHeartbeats 4000000 in
theorem c_X8_townRefusal (l : Launch) (y : Sy) (x0 : Int32) (st : St) (K : Int32 → St → Prop) (hw : w_X8_townRefusal x0 st K) : Ci 107 enX l yX8_townRefusal cX8_townRefusal 1 (some .int) 1 20 y [.int x0] st K := by
  refine ent (by decide) (Nat.le_of_ble_eq_true rfl) ?_
  intro p e s m below meth c C hG ls hl
  have hl : lv_has ls 1 [(0, .int x0)] := hl
  generalize ([.int x0] : List Value).toArray = args at C ⊢
  have C : Sd p s m args meth c cX8_townRefusal 1 RX8 (some .int) y := C
  obtain ⟨hx, hb, hml, hown, hts, hr, hlk, hK, hN⟩ := id C
  generalize s.heap = H at hG ⊢
  generalize ([] : List Loc) = locs at hG ⊢
  unfold w_X8_townRefusal at hw
  refine lv_iload_n hx hb dX8_townRefusal_0 rfl (lv_at hl 0 rfl) ?_
  refine r_ki (r_run_S (As := [.int x0]) (rest := []) hx hb hml hown hts hK hN hG (c_X8_isTown l y x0 st _ hw) qM_X8_357 qT_X8_isTown qN_X8 qC_X8_isTown hd_X8_isTown ⟨Nat.le_of_ble_eq_true rfl, Nat.le_of_ble_eq_true rfl⟩ hl.1 rfl (Nat.le_of_ble_eq_true rfl) dX8_townRefusal_1) hG (fun r1 st1 H locs hw hG => ?_)
  refine lv_if_eq (tgt := 11) hx hb dX8_townRefusal_4 (by decide) (fun hc => ?_) (fun hc => ?_)
  · replace hw := hw.1 hc
    refine lv_iconst (v := (-1)) hx hb dX8_townRefusal_11 (by decide) ?_
    exact r_iret hx hb hr hlk hK hG rfl hw dX8_townRefusal_12
  · replace hw := hw.2 hc
    refine lv_iconst (v := 0) hx hb dX8_townRefusal_7 (by decide) ?_
    refine lv_goto (tgt := 12) hx hb dX8_townRefusal_8 (by decide) ?_
    exact r_iret hx hb hr hlk hK hG rfl hw dX8_townRefusal_12
set_option maxRecDepth 100000 in
set_option maxHeartbeats 4000000 in
theorem z_X8_keeper_b34 {p : Program} {e : Env} {s : State} {m : MethodId} {args : Array Value} {below : List Frame} {meth : Method} {c : Code} (l : Launch) (y : Sy) (x1 : Int32) (x2 : Int32) (x3 : Int32) (C : Sd p s m args meth c cX8_keeper 6 RX8 (some .int) y)  (K : Int32 → St → Prop)  (v4 : Int32) (s0 : Int32) (st : St) {H : Heap} {locs : List Loc} {ls : Array Slot} (hG : gH 107 enX y st s H locs) (hl : lv_has ls 6 [(0, .ref (ad y 0)), (1, .int x1), (2, .int x2), (3, .int x3), (4, .int v4)]) (hw : w_X8_keeper_b34 x1 x2 x3  K v4 s0 st) : W p l e (rmm 3 71) s m args below meth c H locs 0 0 (MQ below (va_Qi K (gB 107 enX y) (gA 107 y)) args s 0 0 (gA 107 y)) (F0 m 34 ls [.int s0]) := by
  obtain ⟨hx, hb, hml, hown, hts, hr, hlk, hK, hN⟩ := id C
  unfold w_X8_keeper_b34 at hw
  refine lv_iload_n hx hb dX8_keeper_34 rfl (lv_at hl 2 rfl) ?_
  refine lv_iconst (v := 0) hx hb dX8_keeper_35 (by decide) ?_
  refine lv_bipush (v := 9) hx hb dX8_keeper_36 (by decide) ?_
  refine r_ki (r_run_S (As := [.int x2, .int 0, .int 9]) (rest := [.int s0]) hx hb hml hown hts hK hN hG (c_X8_range l y x2 0 9 st _ hw) qM_X8_63 qT_X8_range qN_X8 qC_X8_range hd_X8_range ⟨Nat.le_of_ble_eq_true rfl, Nat.le_of_ble_eq_true rfl⟩ hl.1 rfl (Nat.le_of_ble_eq_true rfl) dX8_keeper_38) hG (fun r38 st38 H locs hw hG => ?_)
  refine lv_iload hx hb dX8_keeper_41 (lv_at hl 4 rfl) ?_
  refine r_ki (r_run_S (As := [.int s0, .int r38, .int v4]) (rest := []) hx hb hml hown hts hK hN hG (c_X8_firstOf l y s0 r38 v4 st38 _ hw) qM_X8_71 qT_X8_firstOf qN_X8 qC_X8_firstOf hd_X8_firstOf ⟨Nat.le_of_ble_eq_true rfl, Nat.le_of_ble_eq_true rfl⟩ hl.1 rfl (Nat.le_of_ble_eq_true rfl) dX8_keeper_43) hG (fun r43 st43 H locs hw hG => ?_)
  refine lv_istore (lv' := [(5, .int r43), (0, .ref (ad y 0)), (1, .int x1), (2, .int x2), (3, .int x3), (4, .int v4)]) hx hb dX8_keeper_46 hl (Nat.le_of_ble_eq_true rfl) rfl (fun ls hl => ?_)
  refine lv_iload hx hb dX8_keeper_48 (lv_at hl 0 rfl) ?_
  refine lv_iload_n hx hb dX8_keeper_50 rfl (lv_at hl 4 rfl) ?_
  refine r_ki (r_run_S (As := [.int x3]) (rest := [.int r43]) hx hb hml hown hts hK hN hG (c_X8_townRefusal l y x3 st43 _ hw) qM_X8_169 qT_X8_townRefusal qN_X8 qC_X8_townRefusal hd_X8_townRefusal ⟨Nat.le_of_ble_eq_true rfl, Nat.le_of_ble_eq_true rfl⟩ hl.1 rfl (Nat.le_of_ble_eq_true rfl) dX8_keeper_51) hG (fun r51 st51 H locs hw hG => ?_)
  refine lv_iconst (v := 0) hx hb dX8_keeper_54 (by decide) ?_
  refine r_ki (r_run_S (As := [.int r43, .int r51, .int 0]) (rest := []) hx hb hml hown hts hK hN hG (c_X8_firstOf l y r43 r51 0 st51 _ hw) qM_X8_71 qT_X8_firstOf qN_X8 qC_X8_firstOf hd_X8_firstOf ⟨Nat.le_of_ble_eq_true rfl, Nat.le_of_ble_eq_true rfl⟩ hl.1 rfl (Nat.le_of_ble_eq_true rfl) dX8_keeper_55) hG (fun r55 st55 H locs hw hG => ?_)
  refine lv_istore (lv' := [(5, .int r55), (0, .ref (ad y 0)), (1, .int x1), (2, .int x2), (3, .int x3), (4, .int v4)]) hx hb dX8_keeper_58 hl (Nat.le_of_ble_eq_true rfl) rfl (fun ls hl => ?_)
  refine lv_iload hx hb dX8_keeper_60 (lv_at hl 0 rfl) ?_
  refine lv_if_eq (tgt := 72) hx hb dX8_keeper_62 (by decide) (fun hc => ?_) (fun hc => ?_)
  · replace hw := hw.1 hc
    refine lv_aload_n hx hb dX8_keeper_72 rfl (lv_at hl 1 rfl) ?_
    refine r_get (C := RX8) (T := TX8) (Nf := 10) hx hb hts hown hK hG (by decide) rfl rfl inX8 4 (by decide) qF_X8_22 rfl dX8_keeper_73 ?_
    refine r_kv (r_run_V (k := 2) (As := []) (rest := []) hx hb hml hown hts hK hN hG (c_X5_forget l y  st55 _ hw) (by decide) rfl rfl rfl qM_X8_91 qI_X5_forget qS_X5_forget qN_X5 qC_X5_forget hd_X5_forget ⟨Nat.le_of_ble_eq_true rfl, Nat.le_of_ble_eq_true rfl⟩ hl.1 rfl (Nat.le_of_ble_eq_true rfl) dX8_keeper_76) hG (fun st76 H locs hw hG => ?_)
    refine lv_aload_n hx hb dX8_keeper_79 rfl (lv_at hl 1 rfl) ?_
    refine r_get (C := RX8) (T := TX8) (Nf := 10) hx hb hts hown hK hG (by decide) rfl rfl inX8 0 (by decide) qF_X8_44 rfl dX8_keeper_80 ?_
    refine lv_iload_n hx hb dX8_keeper_83 rfl (lv_at hl 2 rfl) ?_
    refine lv_iload_n hx hb dX8_keeper_84 rfl (lv_at hl 3 rfl) ?_
    refine lv_iload_n hx hb dX8_keeper_85 rfl (lv_at hl 4 rfl) ?_
    refine r_ki (r_run_V (k := 11) (As := [.int x1, .int x2, .int x3]) (rest := []) hx hb hml hown hts hK hN hG (c_X1_addKeeper l y 11 isC_11 x1 x2 x3 st76 _ hw) (isC.lt isC_11) (isC.e isC_11 y _) rfl rfl qM_X8_172 qI_X1_addKeeper qS_X1_addKeeper qN_X1 qC_X1_addKeeper hd_X1_addKeeper ⟨Nat.le_of_ble_eq_true rfl, Nat.le_of_ble_eq_true rfl⟩ hl.1 rfl (Nat.le_of_ble_eq_true rfl) dX8_keeper_86) hG (fun r86 st86 H locs hw hG => ?_)
    exact r_iret hx hb hr hlk hK hG rfl hw dX8_keeper_89
  · replace hw := hw.2 hc
    refine lv_aload_n hx hb dX8_keeper_65 rfl (lv_at hl 1 rfl) ?_
    refine lv_iload hx hb dX8_keeper_66 (lv_at hl 0 rfl) ?_
    refine r_ki (r_run_V (k := 0) (As := [.int r55]) (rest := []) hx hb hml hown hts hK hN hG (c_X8_refused l y r55 st55 _ hw) (by decide) rfl rfl rfl qM_X8_74 qI_X8_refused qS_X8_refused qN_X8 qC_X8_refused hd_X8_refused ⟨Nat.le_of_ble_eq_true rfl, Nat.le_of_ble_eq_true rfl⟩ hl.1 rfl (Nat.le_of_ble_eq_true rfl) dX8_keeper_68) hG (fun r68 st68 H locs hw hG => ?_)
    exact r_iret hx hb hr hlk hK hG rfl hw dX8_keeper_71
set_option maxRecDepth 100000 in
set_option maxHeartbeats 4000000 in
theorem z_X8_keeper_b28 {p : Program} {e : Env} {s : State} {m : MethodId} {args : Array Value} {below : List Frame} {meth : Method} {c : Code} (l : Launch) (y : Sy) (x1 : Int32) (x2 : Int32) (x3 : Int32) (C : Sd p s m args meth c cX8_keeper 6 RX8 (some .int) y)  (K : Int32 → St → Prop)  (v4 : Int32) (st : St) {H : Heap} {locs : List Loc} {ls : Array Slot} (hG : gH 107 enX y st s H locs) (hl : lv_has ls 6 [(0, .ref (ad y 0)), (1, .int x1), (2, .int x2), (3, .int x3), (4, .int v4)]) (hw : w_X8_keeper_b28 x1 x2 x3  K v4 st) : W p l e (rmm 3 71) s m args below meth c H locs 0 0 (MQ below (va_Qi K (gB 107 enX y) (gA 107 y)) args s 0 0 (gA 107 y)) (F0 m 28 ls []) := by
  obtain ⟨hx, hb, hml, hown, hts, hr, hlk, hK, hN⟩ := id C
  unfold w_X8_keeper_b28 at hw
  refine lv_bipush (v := (-2)) hx hb dX8_keeper_28 (by decide) ?_
  refine lv_goto (tgt := 34) hx hb dX8_keeper_30 (by decide) ?_
  exact z_X8_keeper_b34 l y x1 x2 x3 C  K  v4 (-2) st hG (lv_sub hl [0, 1, 2, 3, 4] rfl) hw
set_option maxRecDepth 100000 in
set_option maxHeartbeats 4000000 in
theorem z_X8_keeper_b16 {p : Program} {e : Env} {s : State} {m : MethodId} {args : Array Value} {below : List Frame} {meth : Method} {c : Code} (l : Launch) (y : Sy) (x1 : Int32) (x2 : Int32) (x3 : Int32) (C : Sd p s m args meth c cX8_keeper 6 RX8 (some .int) y)  (K : Int32 → St → Prop)  (s0 : Int32) (st : St) {H : Heap} {locs : List Loc} {ls : Array Slot} (hG : gH 107 enX y st s H locs) (hl : lv_has ls 6 [(0, .ref (ad y 0)), (1, .int x1), (2, .int x2), (3, .int x3)]) (hw : w_X8_keeper_b16 x1 x2 x3  K s0 st) : W p l e (rmm 3 71) s m args below meth c H locs 0 0 (MQ below (va_Qi K (gB 107 enX y) (gA 107 y)) args s 0 0 (gA 107 y)) (F0 m 16 ls [.int s0]) := by
  obtain ⟨hx, hb, hml, hown, hts, hr, hlk, hK, hN⟩ := id C
  unfold w_X8_keeper_b16 at hw
  refine lv_istore (lv' := [(4, .int s0), (0, .ref (ad y 0)), (1, .int x1), (2, .int x2), (3, .int x3)]) hx hb dX8_keeper_16 hl (Nat.le_of_ble_eq_true rfl) rfl (fun ls hl => ?_)
  refine lv_iload_n hx hb dX8_keeper_18 rfl (lv_at hl 2 rfl) ?_
  refine lv_if_lt (tgt := 28) hx hb dX8_keeper_19 (by decide) (fun hc => ?_) (fun hc => ?_)
  · replace hw := hw.1 hc
    exact z_X8_keeper_b28 l y x1 x2 x3 C  K  s0 st hG (lv_sub hl [1, 2, 3, 4, 0] rfl) hw
  · replace hw := hw.2 hc
    refine lv_iload_n hx hb dX8_keeper_22 rfl (lv_at hl 2 rfl) ?_
    refine lv_bipush (v := 6) hx hb dX8_keeper_23 (by decide) ?_
    refine lv_icmp_lt (tgt := 33) hx hb dX8_keeper_25 (by decide) (fun hc => ?_) (fun hc => ?_)
    · replace hw := hw.1 hc
      refine lv_iconst (v := 0) hx hb dX8_keeper_33 (by decide) ?_
      exact z_X8_keeper_b34 l y x1 x2 x3 C  K  s0 0 st hG (lv_sub hl [1, 2, 3, 4, 0] rfl) hw
    · replace hw := hw.2 hc
      exact z_X8_keeper_b28 l y x1 x2 x3 C  K  s0 st hG (lv_sub hl [1, 2, 3, 4, 0] rfl) hw
theorem hd_X8_keeper : yX8_keeper.cls ≠ "java/lang/invoke/MethodHandle" ∧ yX8_keeper.cls ≠ "java/lang/invoke/VarHandle" ∧ (parseMethodDescriptor yX8_keeper.desc).map (fun d => d.parameters.length) = some 3 := by decide +kernel
set_option maxRecDepth 100000 in
set_option maxHeartbeats 4000000 in
theorem c_X8_keeper (l : Launch) (y : Sy) (x1 : Int32) (x2 : Int32) (x3 : Int32) (st : St) (K : Int32 → St → Prop) (hw : w_X8_keeper x1 x2 x3 st K) : Ci 107 enX l yX8_keeper cX8_keeper 6 (some .int) 3 71 y [.ref (ad y 0), .int x1, .int x2, .int x3] st K := by
  refine ent (by decide) (Nat.le_of_ble_eq_true rfl) ?_
  intro p e s m below meth c C hG ls hl
  have hl : lv_has ls 6 [(0, .ref (ad y 0)), (1, .int x1), (2, .int x2), (3, .int x3)] := hl
  generalize ([.ref (ad y 0), .int x1, .int x2, .int x3] : List Value).toArray = args at C ⊢
  have C : Sd p s m args meth c cX8_keeper 6 RX8 (some .int) y := C
  obtain ⟨hx, hb, hml, hown, hts, hr, hlk, hK, hN⟩ := id C
  generalize s.heap = H at hG ⊢
  generalize ([] : List Loc) = locs at hG ⊢
  unfold w_X8_keeper at hw
  refine lv_aload_n hx hb dX8_keeper_0 rfl (lv_at hl 0 rfl) ?_
  refine r_get (C := RX8) (T := TX8) (Nf := 10) hx hb hts hown hK hG (by decide) rfl rfl inX8 0 (by decide) qF_X8_44 rfl dX8_keeper_1 ?_
  refine r_ki (r_run_V (k := 11) (As := []) (rest := []) hx hb hml hown hts hK hN hG (c_X1_hasKeeperRoom l y 11 isC_11 st _ hw) (isC.lt isC_11) (isC.e isC_11 y _) rfl rfl qM_X8_166 qI_X1_hasKeeperRoom qS_X1_hasKeeperRoom qN_X1 qC_X1_hasKeeperRoom hd_X1_hasKeeperRoom ⟨Nat.le_of_ble_eq_true rfl, Nat.le_of_ble_eq_true rfl⟩ hl.1 rfl (Nat.le_of_ble_eq_true rfl) dX8_keeper_4) hG (fun r4 st4 H locs hw hG => ?_)
  refine lv_if_eq (tgt := 14) hx hb dX8_keeper_7 (by decide) (fun hc => ?_) (fun hc => ?_)
  · replace hw := hw.1 hc
    refine lv_bipush (v := (-6)) hx hb dX8_keeper_14 (by decide) ?_
    exact z_X8_keeper_b16 l y x1 x2 x3 C  K  (-6) st4 hG (lv_sub hl [0, 1, 2, 3] rfl) hw
  · replace hw := hw.2 hc
    refine lv_iconst (v := 0) hx hb dX8_keeper_10 (by decide) ?_
    refine lv_goto (tgt := 16) hx hb dX8_keeper_11 (by decide) ?_
    exact z_X8_keeper_b16 l y x1 x2 x3 C  K  0 st4 hG (lv_sub hl [0, 1, 2, 3] rfl) hw
set_option maxRecDepth 100000 in
set_option maxHeartbeats 4000000 in
theorem z_X8_letter_b16 {p : Program} {e : Env} {s : State} {m : MethodId} {args : Array Value} {below : List Frame} {meth : Method} {c : Code} (l : Launch) (y : Sy) (x1 : Int32) (x2 : Int32) (C : Sd p s m args meth c cX8_letter 5 RX8 (some .int) y)  (K : Int32 → St → Prop)  (s0 : Int32) (st : St) {H : Heap} {locs : List Loc} {ls : Array Slot} (hG : gH 107 enX y st s H locs) (hl : lv_has ls 5 [(0, .ref (ad y 0)), (1, .int x1), (2, .int x2)]) (hw : w_X8_letter_b16 x1 x2  K s0 st) : W p l e (rmm 2 45) s m args below meth c H locs 0 0 (MQ below (va_Qi K (gB 107 enX y) (gA 107 y)) args s 0 0 (gA 107 y)) (F0 m 16 ls [.int s0]) := by
  obtain ⟨hx, hb, hml, hown, hts, hr, hlk, hK, hN⟩ := id C
  unfold w_X8_letter_b16 at hw
  refine lv_istore_n (lv' := [(3, .int s0), (0, .ref (ad y 0)), (1, .int x1), (2, .int x2)]) hx hb dX8_letter_16 rfl hl (Nat.le_of_ble_eq_true rfl) rfl (fun ls hl => ?_)
  refine lv_iload_n hx hb dX8_letter_17 rfl (lv_at hl 2 rfl) ?_
  refine r_ki (r_run_S (As := [.int x1]) (rest := []) hx hb hml hown hts hK hN hG (c_X8_townRefusal l y x1 st _ hw) qM_X8_169 qT_X8_townRefusal qN_X8 qC_X8_townRefusal hd_X8_townRefusal ⟨Nat.le_of_ble_eq_true rfl, Nat.le_of_ble_eq_true rfl⟩ hl.1 rfl (Nat.le_of_ble_eq_true rfl) dX8_letter_18) hG (fun r18 st18 H locs hw hG => ?_)
  refine lv_iload_n hx hb dX8_letter_21 rfl (lv_at hl 3 rfl) ?_
  refine lv_iconst (v := 0) hx hb dX8_letter_22 (by decide) ?_
  refine lv_bipush (v := 99) hx hb dX8_letter_23 (by decide) ?_
  refine r_ki (r_run_S (As := [.int x2, .int 0, .int 99]) (rest := [.int r18]) hx hb hml hown hts hK hN hG (c_X8_range l y x2 0 99 st18 _ hw) qM_X8_63 qT_X8_range qN_X8 qC_X8_range hd_X8_range ⟨Nat.le_of_ble_eq_true rfl, Nat.le_of_ble_eq_true rfl⟩ hl.1 rfl (Nat.le_of_ble_eq_true rfl) dX8_letter_25) hG (fun r25 st25 H locs hw hG => ?_)
  refine lv_iload_n hx hb dX8_letter_28 rfl (lv_at hl 0 rfl) ?_
  refine r_ki (r_run_S (As := [.int r18, .int r25, .int s0]) (rest := []) hx hb hml hown hts hK hN hG (c_X8_firstOf l y r18 r25 s0 st25 _ hw) qM_X8_71 qT_X8_firstOf qN_X8 qC_X8_firstOf hd_X8_firstOf ⟨Nat.le_of_ble_eq_true rfl, Nat.le_of_ble_eq_true rfl⟩ hl.1 rfl (Nat.le_of_ble_eq_true rfl) dX8_letter_29) hG (fun r29 st29 H locs hw hG => ?_)
  refine lv_istore (lv' := [(4, .int r29), (3, .int s0), (0, .ref (ad y 0)), (1, .int x1), (2, .int x2)]) hx hb dX8_letter_32 hl (Nat.le_of_ble_eq_true rfl) rfl (fun ls hl => ?_)
  refine lv_iload hx hb dX8_letter_34 (lv_at hl 0 rfl) ?_
  refine lv_if_eq (tgt := 46) hx hb dX8_letter_36 (by decide) (fun hc => ?_) (fun hc => ?_)
  · replace hw := hw.1 hc
    refine lv_aload_n hx hb dX8_letter_46 rfl (lv_at hl 2 rfl) ?_
    refine r_get (C := RX8) (T := TX8) (Nf := 10) hx hb hts hown hK hG (by decide) rfl rfl inX8 4 (by decide) qF_X8_22 rfl dX8_letter_47 ?_
    refine r_kv (r_run_V (k := 2) (As := []) (rest := []) hx hb hml hown hts hK hN hG (c_X5_forget l y  st29 _ hw) (by decide) rfl rfl rfl qM_X8_91 qI_X5_forget qS_X5_forget qN_X5 qC_X5_forget hd_X5_forget ⟨Nat.le_of_ble_eq_true rfl, Nat.le_of_ble_eq_true rfl⟩ hl.1 rfl (Nat.le_of_ble_eq_true rfl) dX8_letter_50) hG (fun st50 H locs hw hG => ?_)
    refine lv_aload_n hx hb dX8_letter_53 rfl (lv_at hl 2 rfl) ?_
    refine r_get (C := RX8) (T := TX8) (Nf := 10) hx hb hts hown hK hG (by decide) rfl rfl inX8 0 (by decide) qF_X8_44 rfl dX8_letter_54 ?_
    refine lv_iload_n hx hb dX8_letter_57 rfl (lv_at hl 3 rfl) ?_
    refine lv_iload_n hx hb dX8_letter_58 rfl (lv_at hl 4 rfl) ?_
    refine r_ki (r_run_V (k := 11) (As := [.int x1, .int x2]) (rest := []) hx hb hml hown hts hK hN hG (c_X1_addLetter l y 11 isC_11 x1 x2 st50 _ hw) (isC.lt isC_11) (isC.e isC_11 y _) rfl rfl qM_X8_178 qI_X1_addLetter qS_X1_addLetter qN_X1 qC_X1_addLetter hd_X1_addLetter ⟨Nat.le_of_ble_eq_true rfl, Nat.le_of_ble_eq_true rfl⟩ hl.1 rfl (Nat.le_of_ble_eq_true rfl) dX8_letter_59) hG (fun r59 st59 H locs hw hG => ?_)
    exact r_iret hx hb hr hlk hK hG rfl hw dX8_letter_62
  · replace hw := hw.2 hc
    refine lv_aload_n hx hb dX8_letter_39 rfl (lv_at hl 2 rfl) ?_
    refine lv_iload hx hb dX8_letter_40 (lv_at hl 0 rfl) ?_
    refine r_ki (r_run_V (k := 0) (As := [.int r29]) (rest := []) hx hb hml hown hts hK hN hG (c_X8_refused l y r29 st29 _ hw) (by decide) rfl rfl rfl qM_X8_74 qI_X8_refused qS_X8_refused qN_X8 qC_X8_refused hd_X8_refused ⟨Nat.le_of_ble_eq_true rfl, Nat.le_of_ble_eq_true rfl⟩ hl.1 rfl (Nat.le_of_ble_eq_true rfl) dX8_letter_42) hG (fun r42 st42 H locs hw hG => ?_)
    exact r_iret hx hb hr hlk hK hG rfl hw dX8_letter_45
theorem hd_X8_letter : yX8_letter.cls ≠ "java/lang/invoke/MethodHandle" ∧ yX8_letter.cls ≠ "java/lang/invoke/VarHandle" ∧ (parseMethodDescriptor yX8_letter.desc).map (fun d => d.parameters.length) = some 2 := by decide +kernel
set_option maxRecDepth 100000 in
set_option maxHeartbeats 4000000 in
theorem c_X8_letter (l : Launch) (y : Sy) (x1 : Int32) (x2 : Int32) (st : St) (K : Int32 → St → Prop) (hw : w_X8_letter x1 x2 st K) : Ci 107 enX l yX8_letter cX8_letter 5 (some .int) 2 45 y [.ref (ad y 0), .int x1, .int x2] st K := by
  refine ent (by decide) (Nat.le_of_ble_eq_true rfl) ?_
  intro p e s m below meth c C hG ls hl
  have hl : lv_has ls 5 [(0, .ref (ad y 0)), (1, .int x1), (2, .int x2)] := hl
  generalize ([.ref (ad y 0), .int x1, .int x2] : List Value).toArray = args at C ⊢
  have C : Sd p s m args meth c cX8_letter 5 RX8 (some .int) y := C
  obtain ⟨hx, hb, hml, hown, hts, hr, hlk, hK, hN⟩ := id C
  generalize s.heap = H at hG ⊢
  generalize ([] : List Loc) = locs at hG ⊢
  unfold w_X8_letter at hw
  refine lv_aload_n hx hb dX8_letter_0 rfl (lv_at hl 0 rfl) ?_
  refine r_get (C := RX8) (T := TX8) (Nf := 10) hx hb hts hown hK hG (by decide) rfl rfl inX8 0 (by decide) qF_X8_44 rfl dX8_letter_1 ?_
  refine r_ki (r_run_V (k := 11) (As := []) (rest := []) hx hb hml hown hts hK hN hG (c_X1_hasLetterRoom l y 11 isC_11 st _ hw) (isC.lt isC_11) (isC.e isC_11 y _) rfl rfl qM_X8_175 qI_X1_hasLetterRoom qS_X1_hasLetterRoom qN_X1 qC_X1_hasLetterRoom hd_X1_hasLetterRoom ⟨Nat.le_of_ble_eq_true rfl, Nat.le_of_ble_eq_true rfl⟩ hl.1 rfl (Nat.le_of_ble_eq_true rfl) dX8_letter_4) hG (fun r4 st4 H locs hw hG => ?_)
  refine lv_if_eq (tgt := 14) hx hb dX8_letter_7 (by decide) (fun hc => ?_) (fun hc => ?_)
  · replace hw := hw.1 hc
    refine lv_bipush (v := (-6)) hx hb dX8_letter_14 (by decide) ?_
    exact z_X8_letter_b16 l y x1 x2 C  K  (-6) st4 hG (lv_sub hl [0, 1, 2] rfl) hw
  · replace hw := hw.2 hc
    refine lv_iconst (v := 0) hx hb dX8_letter_10 (by decide) ?_
    refine lv_goto (tgt := 16) hx hb dX8_letter_11 (by decide) ?_
    exact z_X8_letter_b16 l y x1 x2 C  K  0 st4 hG (lv_sub hl [0, 1, 2] rfl) hw
theorem hd_X8_hates : yX8_hates.cls ≠ "java/lang/invoke/MethodHandle" ∧ yX8_hates.cls ≠ "java/lang/invoke/VarHandle" ∧ (parseMethodDescriptor yX8_hates.desc).map (fun d => d.parameters.length) = some 3 := by decide +kernel
set_option maxRecDepth 100000 in
set_option maxHeartbeats 4000000 in
theorem c_X8_hates (l : Launch) (y : Sy) (x1 : Int32) (x2 : Int32) (x3 : Int32) (st : St) (K : Int32 → St → Prop) (hw : w_X8_hates x1 x2 x3 st K) : Ci 107 enX l yX8_hates cX8_hates 6 (some .int) 4 90 y [.ref (ad y 0), .int x1, .int x2, .int x3] st K := by
  refine ent (by decide) (Nat.le_of_ble_eq_true rfl) ?_
  intro p e s m below meth c C hG ls hl
  have hl : lv_has ls 6 [(0, .ref (ad y 0)), (1, .int x1), (2, .int x2), (3, .int x3)] := hl
  generalize ([.ref (ad y 0), .int x1, .int x2, .int x3] : List Value).toArray = args at C ⊢
  have C : Sd p s m args meth c cX8_hates 6 RX8 (some .int) y := C
  obtain ⟨hx, hb, hml, hown, hts, hr, hlk, hK, hN⟩ := id C
  generalize s.heap = H at hG ⊢
  generalize ([] : List Loc) = locs at hG ⊢
  unfold w_X8_hates at hw
  refine lv_aload_n hx hb dX8_hates_0 rfl (lv_at hl 0 rfl) ?_
  refine lv_iload_n hx hb dX8_hates_1 rfl (lv_at hl 1 rfl) ?_
  refine lv_iload_n hx hb dX8_hates_2 rfl (lv_at hl 2 rfl) ?_
  refine r_ki (r_run_V (k := 0) (As := [.int x1, .int x2]) (rest := []) hx hb hml hown hts hK hN hG (c_X8_twoRefusal l y x1 x2 st _ hw) (by decide) rfl rfl rfl qM_X8_135 qI_X8_twoRefusal qS_X8_twoRefusal qN_X8 qC_X8_twoRefusal hd_X8_twoRefusal ⟨Nat.le_of_ble_eq_true rfl, Nat.le_of_ble_eq_true rfl⟩ hl.1 rfl (Nat.le_of_ble_eq_true rfl) dX8_hates_3) hG (fun r3 st3 H locs hw hG => ?_)
  refine lv_iload_n hx hb dX8_hates_6 rfl (lv_at hl 3 rfl) ?_
  refine lv_iconst (v := 0) hx hb dX8_hates_7 (by decide) ?_
  refine lv_bipush (v := 99) hx hb dX8_hates_8 (by decide) ?_
  refine r_ki (r_run_S (As := [.int x3, .int 0, .int 99]) (rest := [.int r3]) hx hb hml hown hts hK hN hG (c_X8_range l y x3 0 99 st3 _ hw) qM_X8_63 qT_X8_range qN_X8 qC_X8_range hd_X8_range ⟨Nat.le_of_ble_eq_true rfl, Nat.le_of_ble_eq_true rfl⟩ hl.1 rfl (Nat.le_of_ble_eq_true rfl) dX8_hates_10) hG (fun r10 st10 H locs hw hG => ?_)
  refine lv_iconst (v := 0) hx hb dX8_hates_13 (by decide) ?_
  refine r_ki (r_run_S (As := [.int r3, .int r10, .int 0]) (rest := []) hx hb hml hown hts hK hN hG (c_X8_firstOf l y r3 r10 0 st10 _ hw) qM_X8_71 qT_X8_firstOf qN_X8 qC_X8_firstOf hd_X8_firstOf ⟨Nat.le_of_ble_eq_true rfl, Nat.le_of_ble_eq_true rfl⟩ hl.1 rfl (Nat.le_of_ble_eq_true rfl) dX8_hates_14) hG (fun r14 st14 H locs hw hG => ?_)
  refine lv_istore (lv' := [(4, .int r14), (0, .ref (ad y 0)), (1, .int x1), (2, .int x2), (3, .int x3)]) hx hb dX8_hates_17 hl (Nat.le_of_ble_eq_true rfl) rfl (fun ls hl => ?_)
  refine lv_iload hx hb dX8_hates_19 (lv_at hl 0 rfl) ?_
  refine lv_if_eq (tgt := 31) hx hb dX8_hates_21 (by decide) (fun hc => ?_) (fun hc => ?_)
  · replace hw := hw.1 hc
    refine lv_aload_n hx hb dX8_hates_31 rfl (lv_at hl 1 rfl) ?_
    refine r_get (C := RX8) (T := TX8) (Nf := 10) hx hb hts hown hK hG (by decide) rfl rfl inX8 4 (by decide) qF_X8_22 rfl dX8_hates_32 ?_
    refine lv_aload_n hx hb dX8_hates_35 rfl (lv_at hl 1 rfl) ?_
    refine r_get (C := RX8) (T := TX8) (Nf := 10) hx hb hts hown hK hG (by decide) rfl rfl inX8 0 (by decide) qF_X8_44 rfl dX8_hates_36 ?_
    refine r_kv (r_run_V (k := 2) (As := [.ref (ad y 11)]) (rest := []) hx hb hml hown hts hK hN hG (c_X5_remember l y 11 isC_11 st14 _ hw) (by decide) rfl rfl rfl qM_X8_181 qI_X5_remember qS_X5_remember qN_X5 qC_X5_remember hd_X5_remember ⟨Nat.le_of_ble_eq_true rfl, Nat.le_of_ble_eq_true rfl⟩ hl.1 rfl (Nat.le_of_ble_eq_true rfl) dX8_hates_39) hG (fun st39 H locs hw hG => ?_)
    refine lv_aload_n hx hb dX8_hates_42 rfl (lv_at hl 1 rfl) ?_
    refine r_get (C := RX8) (T := TX8) (Nf := 10) hx hb hts hown hK hG (by decide) rfl rfl inX8 0 (by decide) qF_X8_44 rfl dX8_hates_43 ?_
    refine lv_iload_n hx hb dX8_hates_46 rfl (lv_at hl 2 rfl) ?_
    refine lv_iload_n hx hb dX8_hates_47 rfl (lv_at hl 3 rfl) ?_
    refine r_ki (r_run_V (k := 11) (As := [.int x1, .int x2]) (rest := []) hx hb hml hown hts hK hN hG (c_X1_hateOf l y 11 isC_11 x1 x2 st39 _ hw) (isC.lt isC_11) (isC.e isC_11 y _) rfl rfl qM_X8_138 qI_X1_hateOf qS_X1_hateOf qN_X1 qC_X1_hateOf hd_X1_hateOf ⟨Nat.le_of_ble_eq_true rfl, Nat.le_of_ble_eq_true rfl⟩ hl.1 rfl (Nat.le_of_ble_eq_true rfl) dX8_hates_48) hG (fun r48 st48 H locs hw hG => ?_)
    refine lv_istore (lv' := [(5, .int r48), (4, .int r14), (0, .ref (ad y 0)), (1, .int x1), (2, .int x2), (3, .int x3)]) hx hb dX8_hates_51 hl (Nat.le_of_ble_eq_true rfl) rfl (fun ls hl => ?_)
    refine lv_aload_n hx hb dX8_hates_53 rfl (lv_at hl 2 rfl) ?_
    refine r_get (C := RX8) (T := TX8) (Nf := 10) hx hb hts hown hK hG (by decide) rfl rfl inX8 0 (by decide) qF_X8_44 rfl dX8_hates_54 ?_
    refine lv_iload_n hx hb dX8_hates_57 rfl (lv_at hl 3 rfl) ?_
    refine lv_iload_n hx hb dX8_hates_58 rfl (lv_at hl 4 rfl) ?_
    refine lv_iload_n hx hb dX8_hates_59 rfl (lv_at hl 5 rfl) ?_
    refine r_kv (r_run_V (k := 11) (As := [.int x1, .int x2, .int x3]) (rest := []) hx hb hml hown hts hK hN hG (c_X1_setHate l y 11 isC_11 x1 x2 x3 st48 _ hw) (isC.lt isC_11) (isC.e isC_11 y _) rfl rfl qM_X8_184 qI_X1_setHate qS_X1_setHate qN_X1 qC_X1_setHate hd_X1_setHate ⟨Nat.le_of_ble_eq_true rfl, Nat.le_of_ble_eq_true rfl⟩ hl.1 rfl (Nat.le_of_ble_eq_true rfl) dX8_hates_60) hG (fun st60 H locs hw hG => ?_)
    refine lv_iload hx hb dX8_hates_63 (lv_at hl 0 rfl) ?_
    exact r_iret hx hb hr hlk hK hG rfl hw dX8_hates_65
  · replace hw := hw.2 hc
    refine lv_aload_n hx hb dX8_hates_24 rfl (lv_at hl 1 rfl) ?_
    refine lv_iload hx hb dX8_hates_25 (lv_at hl 0 rfl) ?_
    refine r_ki (r_run_V (k := 0) (As := [.int r14]) (rest := []) hx hb hml hown hts hK hN hG (c_X8_refused l y r14 st14 _ hw) (by decide) rfl rfl rfl qM_X8_74 qI_X8_refused qS_X8_refused qN_X8 qC_X8_refused hd_X8_refused ⟨Nat.le_of_ble_eq_true rfl, Nat.le_of_ble_eq_true rfl⟩ hl.1 rfl (Nat.le_of_ble_eq_true rfl) dX8_hates_27) hG (fun r27 st27 H locs hw hG => ?_)
    exact r_iret hx hb hr hlk hK hG rfl hw dX8_hates_30
theorem hd_X8_goes : yX8_goes.cls ≠ "java/lang/invoke/MethodHandle" ∧ yX8_goes.cls ≠ "java/lang/invoke/VarHandle" ∧ (parseMethodDescriptor yX8_goes.desc).map (fun d => d.parameters.length) = some 2 := by decide +kernel
set_option maxRecDepth 100000 in
set_option maxHeartbeats 4000000 in
theorem c_X8_goes (l : Launch) (y : Sy) (x1 : Int32) (x2 : Int32) (st : St) (K : Int32 → St → Prop) (hw : w_X8_goes x1 x2 st K) : Ci 107 enX l yX8_goes cX8_goes 5 (some .int) 4 90 y [.ref (ad y 0), .int x1, .int x2] st K := by
  refine ent (by decide) (Nat.le_of_ble_eq_true rfl) ?_
  intro p e s m below meth c C hG ls hl
  have hl : lv_has ls 5 [(0, .ref (ad y 0)), (1, .int x1), (2, .int x2)] := hl
  generalize ([.ref (ad y 0), .int x1, .int x2] : List Value).toArray = args at C ⊢
  have C : Sd p s m args meth c cX8_goes 5 RX8 (some .int) y := C
  obtain ⟨hx, hb, hml, hown, hts, hr, hlk, hK, hN⟩ := id C
  generalize s.heap = H at hG ⊢
  generalize ([] : List Loc) = locs at hG ⊢
  unfold w_X8_goes at hw
  refine lv_aload_n hx hb dX8_goes_0 rfl (lv_at hl 0 rfl) ?_
  refine lv_iload_n hx hb dX8_goes_1 rfl (lv_at hl 1 rfl) ?_
  refine r_ki (r_run_V (k := 0) (As := [.int x1]) (rest := []) hx hb hml hown hts hK hN hG (c_X8_keeperRefusal l y x1 st _ hw) (by decide) rfl rfl rfl qM_X8_94 qI_X8_keeperRefusal qS_X8_keeperRefusal qN_X8 qC_X8_keeperRefusal hd_X8_keeperRefusal ⟨Nat.le_of_ble_eq_true rfl, Nat.le_of_ble_eq_true rfl⟩ hl.1 rfl (Nat.le_of_ble_eq_true rfl) dX8_goes_2) hG (fun r2 st2 H locs hw hG => ?_)
  refine lv_iload_n hx hb dX8_goes_5 rfl (lv_at hl 2 rfl) ?_
  refine r_ki (r_run_S (As := [.int x2]) (rest := [.int r2]) hx hb hml hown hts hK hN hG (c_X8_townRefusal l y x2 st2 _ hw) qM_X8_169 qT_X8_townRefusal qN_X8 qC_X8_townRefusal hd_X8_townRefusal ⟨Nat.le_of_ble_eq_true rfl, Nat.le_of_ble_eq_true rfl⟩ hl.1 rfl (Nat.le_of_ble_eq_true rfl) dX8_goes_6) hG (fun r6 st6 H locs hw hG => ?_)
  refine lv_iconst (v := 0) hx hb dX8_goes_9 (by decide) ?_
  refine r_ki (r_run_S (As := [.int r2, .int r6, .int 0]) (rest := []) hx hb hml hown hts hK hN hG (c_X8_firstOf l y r2 r6 0 st6 _ hw) qM_X8_71 qT_X8_firstOf qN_X8 qC_X8_firstOf hd_X8_firstOf ⟨Nat.le_of_ble_eq_true rfl, Nat.le_of_ble_eq_true rfl⟩ hl.1 rfl (Nat.le_of_ble_eq_true rfl) dX8_goes_10) hG (fun r10 st10 H locs hw hG => ?_)
  refine lv_istore_n (lv' := [(3, .int r10), (0, .ref (ad y 0)), (1, .int x1), (2, .int x2)]) hx hb dX8_goes_13 rfl hl (Nat.le_of_ble_eq_true rfl) rfl (fun ls hl => ?_)
  refine lv_iload_n hx hb dX8_goes_14 rfl (lv_at hl 0 rfl) ?_
  refine lv_if_eq (tgt := 24) hx hb dX8_goes_15 (by decide) (fun hc => ?_) (fun hc => ?_)
  · replace hw := hw.1 hc
    refine lv_aload_n hx hb dX8_goes_24 rfl (lv_at hl 1 rfl) ?_
    refine r_get (C := RX8) (T := TX8) (Nf := 10) hx hb hts hown hK hG (by decide) rfl rfl inX8 4 (by decide) qF_X8_22 rfl dX8_goes_25 ?_
    refine lv_aload_n hx hb dX8_goes_28 rfl (lv_at hl 1 rfl) ?_
    refine r_get (C := RX8) (T := TX8) (Nf := 10) hx hb hts hown hK hG (by decide) rfl rfl inX8 0 (by decide) qF_X8_44 rfl dX8_goes_29 ?_
    refine r_kv (r_run_V (k := 2) (As := [.ref (ad y 11)]) (rest := []) hx hb hml hown hts hK hN hG (c_X5_remember l y 11 isC_11 st10 _ hw) (by decide) rfl rfl rfl qM_X8_181 qI_X5_remember qS_X5_remember qN_X5 qC_X5_remember hd_X5_remember ⟨Nat.le_of_ble_eq_true rfl, Nat.le_of_ble_eq_true rfl⟩ hl.1 rfl (Nat.le_of_ble_eq_true rfl) dX8_goes_32) hG (fun st32 H locs hw hG => ?_)
    refine lv_aload_n hx hb dX8_goes_35 rfl (lv_at hl 1 rfl) ?_
    refine r_get (C := RX8) (T := TX8) (Nf := 10) hx hb hts hown hK hG (by decide) rfl rfl inX8 0 (by decide) qF_X8_44 rfl dX8_goes_36 ?_
    refine lv_iload_n hx hb dX8_goes_39 rfl (lv_at hl 2 rfl) ?_
    refine r_ki (r_run_V (k := 11) (As := [.int x1]) (rest := []) hx hb hml hown hts hK hN hG (c_X1_townOf l y 11 isC_11 x1 st32 _ hw) (isC.lt isC_11) (isC.e isC_11 y _) rfl rfl qM_X8_107 qI_X1_townOf qS_X1_townOf qN_X1 qC_X1_townOf hd_X1_townOf ⟨Nat.le_of_ble_eq_true rfl, Nat.le_of_ble_eq_true rfl⟩ hl.1 rfl (Nat.le_of_ble_eq_true rfl) dX8_goes_40) hG (fun r40 st40 H locs hw hG => ?_)
    refine lv_istore (lv' := [(4, .int r40), (3, .int r10), (0, .ref (ad y 0)), (1, .int x1), (2, .int x2)]) hx hb dX8_goes_43 hl (Nat.le_of_ble_eq_true rfl) rfl (fun ls hl => ?_)
    refine lv_aload_n hx hb dX8_goes_45 rfl (lv_at hl 2 rfl) ?_
    refine r_get (C := RX8) (T := TX8) (Nf := 10) hx hb hts hown hK hG (by decide) rfl rfl inX8 0 (by decide) qF_X8_44 rfl dX8_goes_46 ?_
    refine lv_iload_n hx hb dX8_goes_49 rfl (lv_at hl 3 rfl) ?_
    refine lv_iload_n hx hb dX8_goes_50 rfl (lv_at hl 4 rfl) ?_
    refine r_kv (r_run_V (k := 11) (As := [.int x1, .int x2]) (rest := []) hx hb hml hown hts hK hN hG (c_X1_move l y 11 isC_11 x1 x2 st40 _ hw) (isC.lt isC_11) (isC.e isC_11 y _) rfl rfl qM_X8_188 qI_X1_move qS_X1_move qN_X1 qC_X1_move hd_X1_move ⟨Nat.le_of_ble_eq_true rfl, Nat.le_of_ble_eq_true rfl⟩ hl.1 rfl (Nat.le_of_ble_eq_true rfl) dX8_goes_51) hG (fun st51 H locs hw hG => ?_)
    refine lv_iload hx hb dX8_goes_54 (lv_at hl 0 rfl) ?_
    exact r_iret hx hb hr hlk hK hG rfl hw dX8_goes_56
  · replace hw := hw.2 hc
    refine lv_aload_n hx hb dX8_goes_18 rfl (lv_at hl 1 rfl) ?_
    refine lv_iload_n hx hb dX8_goes_19 rfl (lv_at hl 0 rfl) ?_
    refine r_ki (r_run_V (k := 0) (As := [.int r10]) (rest := []) hx hb hml hown hts hK hN hG (c_X8_refused l y r10 st10 _ hw) (by decide) rfl rfl rfl qM_X8_74 qI_X8_refused qS_X8_refused qN_X8 qC_X8_refused hd_X8_refused ⟨Nat.le_of_ble_eq_true rfl, Nat.le_of_ble_eq_true rfl⟩ hl.1 rfl (Nat.le_of_ble_eq_true rfl) dX8_goes_20) hG (fun r20 st20 H locs hw hG => ?_)
    exact r_iret hx hb hr hlk hK hG rfl hw dX8_goes_23
theorem hd_X8_seals : yX8_seals.cls ≠ "java/lang/invoke/MethodHandle" ∧ yX8_seals.cls ≠ "java/lang/invoke/VarHandle" ∧ (parseMethodDescriptor yX8_seals.desc).map (fun d => d.parameters.length) = some 1 := by decide +kernel
set_option maxRecDepth 100000 in
set_option maxHeartbeats 4000000 in
theorem c_X8_seals (l : Launch) (y : Sy) (x1 : Int32) (st : St) (K : Int32 → St → Prop) (hw : w_X8_seals x1 st K) : Ci 107 enX l yX8_seals cX8_seals 3 (some .int) 4 90 y [.ref (ad y 0), .int x1] st K := by
  refine ent (by decide) (Nat.le_of_ble_eq_true rfl) ?_
  intro p e s m below meth c C hG ls hl
  have hl : lv_has ls 3 [(0, .ref (ad y 0)), (1, .int x1)] := hl
  generalize ([.ref (ad y 0), .int x1] : List Value).toArray = args at C ⊢
  have C : Sd p s m args meth c cX8_seals 3 RX8 (some .int) y := C
  obtain ⟨hx, hb, hml, hown, hts, hr, hlk, hK, hN⟩ := id C
  generalize s.heap = H at hG ⊢
  generalize ([] : List Loc) = locs at hG ⊢
  unfold w_X8_seals at hw
  refine lv_aload_n hx hb dX8_seals_0 rfl (lv_at hl 0 rfl) ?_
  refine lv_iload_n hx hb dX8_seals_1 rfl (lv_at hl 1 rfl) ?_
  refine r_ki (r_run_V (k := 0) (As := [.int x1]) (rest := []) hx hb hml hown hts hK hN hG (c_X8_letterRefusal l y x1 st _ hw) (by decide) rfl rfl rfl qM_X8_119 qI_X8_letterRefusal qS_X8_letterRefusal qN_X8 qC_X8_letterRefusal hd_X8_letterRefusal ⟨Nat.le_of_ble_eq_true rfl, Nat.le_of_ble_eq_true rfl⟩ hl.1 rfl (Nat.le_of_ble_eq_true rfl) dX8_seals_2) hG (fun r2 st2 H locs hw hG => ?_)
  refine lv_istore_n (lv' := [(2, .int r2), (0, .ref (ad y 0)), (1, .int x1)]) hx hb dX8_seals_5 rfl hl (Nat.le_of_ble_eq_true rfl) rfl (fun ls hl => ?_)
  refine lv_iload_n hx hb dX8_seals_6 rfl (lv_at hl 0 rfl) ?_
  refine lv_if_eq (tgt := 16) hx hb dX8_seals_7 (by decide) (fun hc => ?_) (fun hc => ?_)
  · replace hw := hw.1 hc
    refine lv_aload_n hx hb dX8_seals_16 rfl (lv_at hl 1 rfl) ?_
    refine r_get (C := RX8) (T := TX8) (Nf := 10) hx hb hts hown hK hG (by decide) rfl rfl inX8 4 (by decide) qF_X8_22 rfl dX8_seals_17 ?_
    refine lv_aload_n hx hb dX8_seals_20 rfl (lv_at hl 1 rfl) ?_
    refine r_get (C := RX8) (T := TX8) (Nf := 10) hx hb hts hown hK hG (by decide) rfl rfl inX8 0 (by decide) qF_X8_44 rfl dX8_seals_21 ?_
    refine r_kv (r_run_V (k := 2) (As := [.ref (ad y 11)]) (rest := []) hx hb hml hown hts hK hN hG (c_X5_remember l y 11 isC_11 st2 _ hw) (by decide) rfl rfl rfl qM_X8_181 qI_X5_remember qS_X5_remember qN_X5 qC_X5_remember hd_X5_remember ⟨Nat.le_of_ble_eq_true rfl, Nat.le_of_ble_eq_true rfl⟩ hl.1 rfl (Nat.le_of_ble_eq_true rfl) dX8_seals_24) hG (fun st24 H locs hw hG => ?_)
    refine lv_aload_n hx hb dX8_seals_27 rfl (lv_at hl 1 rfl) ?_
    refine r_get (C := RX8) (T := TX8) (Nf := 10) hx hb hts hown hK hG (by decide) rfl rfl inX8 0 (by decide) qF_X8_44 rfl dX8_seals_28 ?_
    refine lv_iload_n hx hb dX8_seals_31 rfl (lv_at hl 2 rfl) ?_
    refine r_kv (r_run_V (k := 11) (As := [.int x1]) (rest := []) hx hb hml hown hts hK hN hG (c_X1_turnSeal l y 11 isC_11 x1 st24 _ hw) (isC.lt isC_11) (isC.e isC_11 y _) rfl rfl qM_X8_192 qI_X1_turnSeal qS_X1_turnSeal qN_X1 qC_X1_turnSeal hd_X1_turnSeal ⟨Nat.le_of_ble_eq_true rfl, Nat.le_of_ble_eq_true rfl⟩ hl.1 rfl (Nat.le_of_ble_eq_true rfl) dX8_seals_32) hG (fun st32 H locs hw hG => ?_)
    refine lv_aload_n hx hb dX8_seals_35 rfl (lv_at hl 1 rfl) ?_
    refine r_get (C := RX8) (T := TX8) (Nf := 10) hx hb hts hown hK hG (by decide) rfl rfl inX8 0 (by decide) qF_X8_44 rfl dX8_seals_36 ?_
    refine lv_iload_n hx hb dX8_seals_39 rfl (lv_at hl 2 rfl) ?_
    refine r_ki (r_run_V (k := 11) (As := [.int x1]) (rest := []) hx hb hml hown hts hK hN hG (c_X1_isOpen l y 11 isC_11 x1 st32 _ hw) (isC.lt isC_11) (isC.e isC_11 y _) rfl rfl qM_X8_128 qI_X1_isOpen qS_X1_isOpen qN_X1 qC_X1_isOpen hd_X1_isOpen ⟨Nat.le_of_ble_eq_true rfl, Nat.le_of_ble_eq_true rfl⟩ hl.1 rfl (Nat.le_of_ble_eq_true rfl) dX8_seals_40) hG (fun r40 st40 H locs hw hG => ?_)
    refine lv_if_eq (tgt := 50) hx hb dX8_seals_43 (by decide) (fun hc => ?_) (fun hc => ?_)
    · replace hw := hw.1 hc
      refine lv_iconst (v := 0) hx hb dX8_seals_50 (by decide) ?_
      exact r_iret hx hb hr hlk hK hG rfl hw dX8_seals_51
    · replace hw := hw.2 hc
      refine lv_iconst (v := 1) hx hb dX8_seals_46 (by decide) ?_
      refine lv_goto (tgt := 51) hx hb dX8_seals_47 (by decide) ?_
      exact r_iret hx hb hr hlk hK hG rfl hw dX8_seals_51
  · replace hw := hw.2 hc
    refine lv_aload_n hx hb dX8_seals_10 rfl (lv_at hl 1 rfl) ?_
    refine lv_iload_n hx hb dX8_seals_11 rfl (lv_at hl 0 rfl) ?_
    refine r_ki (r_run_V (k := 0) (As := [.int r2]) (rest := []) hx hb hml hown hts hK hN hG (c_X8_refused l y r2 st2 _ hw) (by decide) rfl rfl rfl qM_X8_74 qI_X8_refused qS_X8_refused qN_X8 qC_X8_refused hd_X8_refused ⟨Nat.le_of_ble_eq_true rfl, Nat.le_of_ble_eq_true rfl⟩ hl.1 rfl (Nat.le_of_ble_eq_true rfl) dX8_seals_12) hG (fun r12 st12 H locs hw hG => ?_)
    exact r_iret hx hb hr hlk hK hG rfl hw dX8_seals_15
set_option maxRecDepth 100000 in
set_option maxHeartbeats 4000000 in
theorem z_X8_weeks_b28 {p : Program} {e : Env} {s : State} {m : MethodId} {args : Array Value} {below : List Frame} {meth : Method} {c : Code} (l : Launch) (y : Sy) (x1 : Int32) (C : Sd p s m args meth c cX8_weeks 3 RX8 (some .int) y)  (K : Int32 → St → Prop)  (s0 : Int32) (s1 : Int32) (st : St) {H : Heap} {locs : List Loc} {ls : Array Slot} (hG : gH 107 enX y st s H locs) (hl : lv_has ls 3 [(0, .ref (ad y 0)), (1, .int x1)]) (hw : w_X8_weeks_b28 x1  K s0 s1 st) : W p l e (rmm 5 117) s m args below meth c H locs 0 0 (MQ below (va_Qi K (gB 107 enX y) (gA 107 y)) args s 0 0 (gA 107 y)) (F0 m 28 ls [.int s0, .int s1]) := by
  obtain ⟨hx, hb, hml, hown, hts, hr, hlk, hK, hN⟩ := id C
  unfold w_X8_weeks_b28 at hw
  refine lv_iconst (v := 0) hx hb dX8_weeks_28 (by decide) ?_
  refine r_ki (r_run_S (As := [.int s1, .int s0, .int 0]) (rest := []) hx hb hml hown hts hK hN hG (c_X8_firstOf l y s1 s0 0 st _ hw) qM_X8_71 qT_X8_firstOf qN_X8 qC_X8_firstOf hd_X8_firstOf ⟨Nat.le_of_ble_eq_true rfl, Nat.le_of_ble_eq_true rfl⟩ hl.1 rfl (Nat.le_of_ble_eq_true rfl) dX8_weeks_29) hG (fun r29 st29 H locs hw hG => ?_)
  refine lv_istore_n (lv' := [(2, .int r29), (0, .ref (ad y 0)), (1, .int x1)]) hx hb dX8_weeks_32 rfl hl (Nat.le_of_ble_eq_true rfl) rfl (fun ls hl => ?_)
  refine lv_iload_n hx hb dX8_weeks_33 rfl (lv_at hl 0 rfl) ?_
  refine lv_if_eq (tgt := 43) hx hb dX8_weeks_34 (by decide) (fun hc => ?_) (fun hc => ?_)
  · replace hw := hw.1 hc
    refine lv_aload_n hx hb dX8_weeks_43 rfl (lv_at hl 1 rfl) ?_
    refine r_get (C := RX8) (T := TX8) (Nf := 10) hx hb hts hown hK hG (by decide) rfl rfl inX8 4 (by decide) qF_X8_22 rfl dX8_weeks_44 ?_
    refine lv_aload_n hx hb dX8_weeks_47 rfl (lv_at hl 1 rfl) ?_
    refine r_get (C := RX8) (T := TX8) (Nf := 10) hx hb hts hown hK hG (by decide) rfl rfl inX8 0 (by decide) qF_X8_44 rfl dX8_weeks_48 ?_
    refine r_kv (r_run_V (k := 2) (As := [.ref (ad y 11)]) (rest := []) hx hb hml hown hts hK hN hG (c_X5_remember l y 11 isC_11 st29 _ hw) (by decide) rfl rfl rfl qM_X8_181 qI_X5_remember qS_X5_remember qN_X5 qC_X5_remember hd_X5_remember ⟨Nat.le_of_ble_eq_true rfl, Nat.le_of_ble_eq_true rfl⟩ hl.1 rfl (Nat.le_of_ble_eq_true rfl) dX8_weeks_51) hG (fun st51 H locs hw hG => ?_)
    refine lv_aload_n hx hb dX8_weeks_54 rfl (lv_at hl 1 rfl) ?_
    refine r_get (C := RX8) (T := TX8) (Nf := 10) hx hb hts hown hK hG (by decide) rfl rfl inX8 0 (by decide) qF_X8_44 rfl dX8_weeks_55 ?_
    refine lv_iload_n hx hb dX8_weeks_58 rfl (lv_at hl 2 rfl) ?_
    refine r_ki (r_run_V (k := 11) (As := [.int x1]) (rest := []) hx hb hml hown hts hK hN hG (c_X1_passWeeks l y 11 isC_11 x1 st51 _ hw) (isC.lt isC_11) (isC.e isC_11 y _) rfl rfl qM_X8_196 qI_X1_passWeeks qS_X1_passWeeks qN_X1 qC_X1_passWeeks hd_X1_passWeeks ⟨Nat.le_of_ble_eq_true rfl, Nat.le_of_ble_eq_true rfl⟩ hl.1 rfl (Nat.le_of_ble_eq_true rfl) dX8_weeks_59) hG (fun r59 st59 H locs hw hG => ?_)
    exact r_iret hx hb hr hlk hK hG rfl hw dX8_weeks_62
  · replace hw := hw.2 hc
    refine lv_aload_n hx hb dX8_weeks_37 rfl (lv_at hl 1 rfl) ?_
    refine lv_iload_n hx hb dX8_weeks_38 rfl (lv_at hl 0 rfl) ?_
    refine r_ki (r_run_V (k := 0) (As := [.int r29]) (rest := []) hx hb hml hown hts hK hN hG (c_X8_refused l y r29 st29 _ hw) (by decide) rfl rfl rfl qM_X8_74 qI_X8_refused qS_X8_refused qN_X8 qC_X8_refused hd_X8_refused ⟨Nat.le_of_ble_eq_true rfl, Nat.le_of_ble_eq_true rfl⟩ hl.1 rfl (Nat.le_of_ble_eq_true rfl) dX8_weeks_39) hG (fun r39 st39 H locs hw hG => ?_)
    exact r_iret hx hb hr hlk hK hG rfl hw dX8_weeks_42
theorem hd_X8_weeks : yX8_weeks.cls ≠ "java/lang/invoke/MethodHandle" ∧ yX8_weeks.cls ≠ "java/lang/invoke/VarHandle" ∧ (parseMethodDescriptor yX8_weeks.desc).map (fun d => d.parameters.length) = some 1 := by decide +kernel
set_option maxRecDepth 100000 in
set_option maxHeartbeats 4000000 in
theorem c_X8_weeks (l : Launch) (y : Sy) (x1 : Int32) (st : St) (K : Int32 → St → Prop) (hw : w_X8_weeks x1 st K) : Ci 107 enX l yX8_weeks cX8_weeks 3 (some .int) 5 117 y [.ref (ad y 0), .int x1] st K := by
  refine ent (by decide) (Nat.le_of_ble_eq_true rfl) ?_
  intro p e s m below meth c C hG ls hl
  have hl : lv_has ls 3 [(0, .ref (ad y 0)), (1, .int x1)] := hl
  generalize ([.ref (ad y 0), .int x1] : List Value).toArray = args at C ⊢
  have C : Sd p s m args meth c cX8_weeks 3 RX8 (some .int) y := C
  obtain ⟨hx, hb, hml, hown, hts, hr, hlk, hK, hN⟩ := id C
  generalize s.heap = H at hG ⊢
  generalize ([] : List Loc) = locs at hG ⊢
  unfold w_X8_weeks at hw
  refine lv_iload_n hx hb dX8_weeks_0 rfl (lv_at hl 1 rfl) ?_
  refine lv_iconst (v := 1) hx hb dX8_weeks_1 (by decide) ?_
  refine lv_bipush (v := 60) hx hb dX8_weeks_2 (by decide) ?_
  refine r_ki (r_run_S (As := [.int x1, .int 1, .int 60]) (rest := []) hx hb hml hown hts hK hN hG (c_X8_range l y x1 1 60 st _ hw) qM_X8_63 qT_X8_range qN_X8 qC_X8_range hd_X8_range ⟨Nat.le_of_ble_eq_true rfl, Nat.le_of_ble_eq_true rfl⟩ hl.1 rfl (Nat.le_of_ble_eq_true rfl) dX8_weeks_4) hG (fun r4 st4 H locs hw hG => ?_)
  refine lv_iload_n hx hb dX8_weeks_7 rfl (lv_at hl 1 rfl) ?_
  refine lv_sipush (v := 999) hx hb dX8_weeks_8 (by decide) ?_
  refine lv_aload_n hx hb dX8_weeks_11 rfl (lv_at hl 0 rfl) ?_
  refine r_get (C := RX8) (T := TX8) (Nf := 10) hx hb hts hown hK hG (by decide) rfl rfl inX8 0 (by decide) qF_X8_44 rfl dX8_weeks_12 ?_
  refine r_ki (r_run_V (k := 11) (As := []) (rest := [.int 999, .int x1, .int r4]) hx hb hml hown hts hK hN hG (c_X1_weekNow l y 11 isC_11 st4 _ hw) (isC.lt isC_11) (isC.e isC_11 y _) rfl rfl qM_X8_148 qI_X1_weekNow qS_X1_weekNow qN_X1 qC_X1_weekNow hd_X1_weekNow ⟨Nat.le_of_ble_eq_true rfl, Nat.le_of_ble_eq_true rfl⟩ hl.1 rfl (Nat.le_of_ble_eq_true rfl) dX8_weeks_15) hG (fun r15 st15 H locs hw hG => ?_)
  refine lv_isub hx hb dX8_weeks_18 ?_
  refine lv_icmp_le (tgt := 27) hx hb dX8_weeks_19 (by decide) (fun hc => ?_) (fun hc => ?_)
  · replace hw := hw.1 hc
    refine lv_iconst (v := 0) hx hb dX8_weeks_27 (by decide) ?_
    exact z_X8_weeks_b28 l y x1 C  K  0 r4 st15 hG (lv_sub hl [0, 1] rfl) hw
  · replace hw := hw.2 hc
    refine lv_bipush (v := (-6)) hx hb dX8_weeks_22 (by decide) ?_
    refine lv_goto (tgt := 28) hx hb dX8_weeks_24 (by decide) ?_
    exact z_X8_weeks_b28 l y x1 C  K  (-6) r4 st15 hG (lv_sub hl [0, 1] rfl) hw
theorem hd_X8_back : yX8_back.cls ≠ "java/lang/invoke/MethodHandle" ∧ yX8_back.cls ≠ "java/lang/invoke/VarHandle" ∧ (parseMethodDescriptor yX8_back.desc).map (fun d => d.parameters.length) = some 0 := by decide +kernel
set_option maxRecDepth 100000 in
set_option maxHeartbeats 4000000 in
theorem c_X8_back (l : Launch) (y : Sy)  (st : St) (K : Int32 → St → Prop) (hw : w_X8_back  st K) : Ci 107 enX l yX8_back cX8_back 1 (some .int) 4 91 y [.ref (ad y 0)] st K := by
  refine ent (by decide) (Nat.le_of_ble_eq_true rfl) ?_
  intro p e s m below meth c C hG ls hl
  have hl : lv_has ls 1 [(0, .ref (ad y 0))] := hl
  generalize ([.ref (ad y 0)] : List Value).toArray = args at C ⊢
  have C : Sd p s m args meth c cX8_back 1 RX8 (some .int) y := C
  obtain ⟨hx, hb, hml, hown, hts, hr, hlk, hK, hN⟩ := id C
  generalize s.heap = H at hG ⊢
  generalize ([] : List Loc) = locs at hG ⊢
  unfold w_X8_back at hw
  refine lv_aload_n hx hb dX8_back_0 rfl (lv_at hl 0 rfl) ?_
  refine r_get (C := RX8) (T := TX8) (Nf := 10) hx hb hts hown hK hG (by decide) rfl rfl inX8 4 (by decide) qF_X8_22 rfl dX8_back_1 ?_
  refine r_ki (r_run_V (k := 2) (As := []) (rest := []) hx hb hml hown hts hK hN hG (c_X5_size l y  st _ hw) (by decide) rfl rfl rfl qM_X8_161 qI_X5_size qS_X5_size qN_X5 qC_X5_size hd_X5_size ⟨Nat.le_of_ble_eq_true rfl, Nat.le_of_ble_eq_true rfl⟩ hl.1 rfl (Nat.le_of_ble_eq_true rfl) dX8_back_4) hG (fun r4 st4 H locs hw hG => ?_)
  refine lv_if_ne (tgt := 17) hx hb dX8_back_7 (by decide) (fun hc => ?_) (fun hc => ?_)
  · replace hw := hw.1 hc
    refine lv_aload_n hx hb dX8_back_17 rfl (lv_at hl 0 rfl) ?_
    refine r_get (C := RX8) (T := TX8) (Nf := 10) hx hb hts hown hK hG (by decide) rfl rfl inX8 4 (by decide) qF_X8_22 rfl dX8_back_18 ?_
    refine lv_aload_n hx hb dX8_back_21 rfl (lv_at hl 0 rfl) ?_
    refine r_get (C := RX8) (T := TX8) (Nf := 10) hx hb hts hown hK hG (by decide) rfl rfl inX8 0 (by decide) qF_X8_44 rfl dX8_back_22 ?_
    refine r_kv (r_run_V (k := 2) (As := [.ref (ad y 11)]) (rest := []) hx hb hml hown hts hK hN hG (c_X5_takeBack l y 11 isC_11 st4 _ hw) (by decide) rfl rfl rfl qM_X8_199 qI_X5_takeBack qS_X5_takeBack qN_X5 qC_X5_takeBack hd_X5_takeBack ⟨Nat.le_of_ble_eq_true rfl, Nat.le_of_ble_eq_true rfl⟩ hl.1 rfl (Nat.le_of_ble_eq_true rfl) dX8_back_25) hG (fun st25 H locs hw hG => ?_)
    refine lv_aload_n hx hb dX8_back_28 rfl (lv_at hl 0 rfl) ?_
    refine r_get (C := RX8) (T := TX8) (Nf := 10) hx hb hts hown hK hG (by decide) rfl rfl inX8 4 (by decide) qF_X8_22 rfl dX8_back_29 ?_
    refine r_ki (r_run_V (k := 2) (As := []) (rest := []) hx hb hml hown hts hK hN hG (c_X5_size l y  st25 _ hw) (by decide) rfl rfl rfl qM_X8_161 qI_X5_size qS_X5_size qN_X5 qC_X5_size hd_X5_size ⟨Nat.le_of_ble_eq_true rfl, Nat.le_of_ble_eq_true rfl⟩ hl.1 rfl (Nat.le_of_ble_eq_true rfl) dX8_back_32) hG (fun r32 st32 H locs hw hG => ?_)
    exact r_iret hx hb hr hlk hK hG rfl hw dX8_back_35
  · replace hw := hw.2 hc
    refine lv_aload_n hx hb dX8_back_10 rfl (lv_at hl 0 rfl) ?_
    refine lv_bipush (v := (-3)) hx hb dX8_back_11 (by decide) ?_
    refine r_ki (r_run_V (k := 0) (As := [.int (-3)]) (rest := []) hx hb hml hown hts hK hN hG (c_X8_refused l y (-3) st4 _ hw) (by decide) rfl rfl rfl qM_X8_74 qI_X8_refused qS_X8_refused qN_X8 qC_X8_refused hd_X8_refused ⟨Nat.le_of_ble_eq_true rfl, Nat.le_of_ble_eq_true rfl⟩ hl.1 rfl (Nat.le_of_ble_eq_true rfl) dX8_back_13) hG (fun r13 st13 H locs hw hG => ?_)
    exact r_iret hx hb hr hlk hK hG rfl hw dX8_back_16
theorem hd_X8_image : yX8_image.cls ≠ "java/lang/invoke/MethodHandle" ∧ yX8_image.cls ≠ "java/lang/invoke/VarHandle" ∧ (parseMethodDescriptor yX8_image.desc).map (fun d => d.parameters.length) = some 0 := by decide +kernel
set_option maxRecDepth 100000 in
set_option maxHeartbeats 4000000 in
theorem c_X8_image (l : Launch) (y : Sy)  (st : St) (K : Int32 → St → Prop) (hw : w_X8_image  st K) : Ci 107 enX l yX8_image cX8_image 1 (some .int) 3 68 y [.ref (ad y 0)] st K := by
  refine ent (by decide) (Nat.le_of_ble_eq_true rfl) ?_
  intro p e s m below meth c C hG ls hl
  have hl : lv_has ls 1 [(0, .ref (ad y 0))] := hl
  generalize ([.ref (ad y 0)] : List Value).toArray = args at C ⊢
  have C : Sd p s m args meth c cX8_image 1 RX8 (some .int) y := C
  obtain ⟨hx, hb, hml, hown, hts, hr, hlk, hK, hN⟩ := id C
  generalize s.heap = H at hG ⊢
  generalize ([] : List Loc) = locs at hG ⊢
  unfold w_X8_image at hw
  refine lv_aload_n hx hb dX8_image_0 rfl (lv_at hl 0 rfl) ?_
  refine r_get (C := RX8) (T := TX8) (Nf := 10) hx hb hts hown hK hG (by decide) rfl rfl inX8 2 (by decide) qF_X8_16 rfl dX8_image_1 ?_
  refine lv_aload_n hx hb dX8_image_4 rfl (lv_at hl 0 rfl) ?_
  refine r_get (C := RX8) (T := TX8) (Nf := 10) hx hb hts hown hK hG (by decide) rfl rfl inX8 0 (by decide) qF_X8_44 rfl dX8_image_5 ?_
  refine r_kv (r_run_V (k := 27) (As := [.ref (ad y 11)]) (rest := []) hx hb hml hown hts hK hN hG (c_X1_become l y 27 isC_27 11 isC_11 st _ hw) (isC.lt isC_27) (isC.e isC_27 y _) rfl rfl qM_X8_81 qI_X1_become qS_X1_become qN_X1 qC_X1_become hd_X1_become ⟨Nat.le_of_ble_eq_true rfl, Nat.le_of_ble_eq_true rfl⟩ hl.1 rfl (Nat.le_of_ble_eq_true rfl) dX8_image_8) hG (fun st8 H locs hw hG => ?_)
  refine lv_aload_n hx hb dX8_image_11 rfl (lv_at hl 0 rfl) ?_
  refine lv_iconst (v := 1) hx hb dX8_image_12 (by decide) ?_
  refine r_put (C := RX8) (T := TX8) (Nf := 10) hx hb hts hown hK hG (by decide) rfl rfl inX8 tyX8_ok nmX8 3 (by decide) qF_X8_202 rfl 1 rfl rfl rfl (Nat.le_of_ble_eq_true rfl) dX8_image_13 (fun H locs hG => ?_)
  refine lv_aload_n hx hb dX8_image_16 rfl (lv_at hl 0 rfl) ?_
  refine r_get (C := RX8) (T := TX8) (Nf := 10) hx hb hts hown hK hG (by decide) rfl rfl inX8 0 (by decide) qF_X8_44 rfl dX8_image_17 ?_
  refine r_ki (r_run_V (k := 11) (As := []) (rest := []) hx hb hml hown hts hK hN hG (c_X1_weekNow l y 11 isC_11 (u2 st8 0 3 1) _ hw) (isC.lt isC_11) (isC.e isC_11 y _) rfl rfl qM_X8_148 qI_X1_weekNow qS_X1_weekNow qN_X1 qC_X1_weekNow hd_X1_weekNow ⟨Nat.le_of_ble_eq_true rfl, Nat.le_of_ble_eq_true rfl⟩ hl.1 rfl (Nat.le_of_ble_eq_true rfl) dX8_image_20) hG (fun r20 st20 H locs hw hG => ?_)
  exact r_iret hx hb hr hlk hK hG rfl hw dX8_image_23
theorem hd_X8_restore : yX8_restore.cls ≠ "java/lang/invoke/MethodHandle" ∧ yX8_restore.cls ≠ "java/lang/invoke/VarHandle" ∧ (parseMethodDescriptor yX8_restore.desc).map (fun d => d.parameters.length) = some 0 := by decide +kernel
set_option maxRecDepth 100000 in
set_option maxHeartbeats 4000000 in
theorem c_X8_restore (l : Launch) (y : Sy)  (st : St) (K : Int32 → St → Prop) (hw : w_X8_restore  st K) : Ci 107 enX l yX8_restore cX8_restore 1 (some .int) 3 68 y [.ref (ad y 0)] st K := by
  refine ent (by decide) (Nat.le_of_ble_eq_true rfl) ?_
  intro p e s m below meth c C hG ls hl
  have hl : lv_has ls 1 [(0, .ref (ad y 0))] := hl
  generalize ([.ref (ad y 0)] : List Value).toArray = args at C ⊢
  have C : Sd p s m args meth c cX8_restore 1 RX8 (some .int) y := C
  obtain ⟨hx, hb, hml, hown, hts, hr, hlk, hK, hN⟩ := id C
  generalize s.heap = H at hG ⊢
  generalize ([] : List Loc) = locs at hG ⊢
  unfold w_X8_restore at hw
  refine lv_aload_n hx hb dX8_restore_0 rfl (lv_at hl 0 rfl) ?_
  refine r_get (C := RX8) (T := TX8) (Nf := 10) hx hb hts hown hK hG (by decide) rfl rfl inX8 3 (by decide) qF_X8_202 rfl dX8_restore_1 ?_
  refine lv_if_ne (tgt := 14) hx hb dX8_restore_4 (by decide) (fun hc => ?_) (fun hc => ?_)
  · replace hw := hw.1 hc
    refine lv_aload_n hx hb dX8_restore_14 rfl (lv_at hl 0 rfl) ?_
    refine r_get (C := RX8) (T := TX8) (Nf := 10) hx hb hts hown hK hG (by decide) rfl rfl inX8 0 (by decide) qF_X8_44 rfl dX8_restore_15 ?_
    refine lv_aload_n hx hb dX8_restore_18 rfl (lv_at hl 0 rfl) ?_
    refine r_get (C := RX8) (T := TX8) (Nf := 10) hx hb hts hown hK hG (by decide) rfl rfl inX8 2 (by decide) qF_X8_16 rfl dX8_restore_19 ?_
    refine r_kv (r_run_V (k := 11) (As := [.ref (ad y 27)]) (rest := []) hx hb hml hown hts hK hN hG (c_X1_become l y 11 isC_11 27 isC_27 st _ hw) (isC.lt isC_11) (isC.e isC_11 y _) rfl rfl qM_X8_81 qI_X1_become qS_X1_become qN_X1 qC_X1_become hd_X1_become ⟨Nat.le_of_ble_eq_true rfl, Nat.le_of_ble_eq_true rfl⟩ hl.1 rfl (Nat.le_of_ble_eq_true rfl) dX8_restore_22) hG (fun st22 H locs hw hG => ?_)
    refine lv_aload_n hx hb dX8_restore_25 rfl (lv_at hl 0 rfl) ?_
    refine r_get (C := RX8) (T := TX8) (Nf := 10) hx hb hts hown hK hG (by decide) rfl rfl inX8 4 (by decide) qF_X8_22 rfl dX8_restore_26 ?_
    refine r_kv (r_run_V (k := 2) (As := []) (rest := []) hx hb hml hown hts hK hN hG (c_X5_forget l y  st22 _ hw) (by decide) rfl rfl rfl qM_X8_91 qI_X5_forget qS_X5_forget qN_X5 qC_X5_forget hd_X5_forget ⟨Nat.le_of_ble_eq_true rfl, Nat.le_of_ble_eq_true rfl⟩ hl.1 rfl (Nat.le_of_ble_eq_true rfl) dX8_restore_29) hG (fun st29 H locs hw hG => ?_)
    refine lv_aload_n hx hb dX8_restore_32 rfl (lv_at hl 0 rfl) ?_
    refine r_get (C := RX8) (T := TX8) (Nf := 10) hx hb hts hown hK hG (by decide) rfl rfl inX8 0 (by decide) qF_X8_44 rfl dX8_restore_33 ?_
    refine r_ki (r_run_V (k := 11) (As := []) (rest := []) hx hb hml hown hts hK hN hG (c_X1_weekNow l y 11 isC_11 st29 _ hw) (isC.lt isC_11) (isC.e isC_11 y _) rfl rfl qM_X8_148 qI_X1_weekNow qS_X1_weekNow qN_X1 qC_X1_weekNow hd_X1_weekNow ⟨Nat.le_of_ble_eq_true rfl, Nat.le_of_ble_eq_true rfl⟩ hl.1 rfl (Nat.le_of_ble_eq_true rfl) dX8_restore_36) hG (fun r36 st36 H locs hw hG => ?_)
    exact r_iret hx hb hr hlk hK hG rfl hw dX8_restore_39
  · replace hw := hw.2 hc
    refine lv_aload_n hx hb dX8_restore_7 rfl (lv_at hl 0 rfl) ?_
    refine lv_bipush (v := (-3)) hx hb dX8_restore_8 (by decide) ?_
    refine r_ki (r_run_V (k := 0) (As := [.int (-3)]) (rest := []) hx hb hml hown hts hK hN hG (c_X8_refused l y (-3) st _ hw) (by decide) rfl rfl rfl qM_X8_74 qI_X8_refused qS_X8_refused qN_X8 qC_X8_refused hd_X8_refused ⟨Nat.le_of_ble_eq_true rfl, Nat.le_of_ble_eq_true rfl⟩ hl.1 rfl (Nat.le_of_ble_eq_true rfl) dX8_restore_10) hG (fun r10 st10 H locs hw hG => ?_)
    exact r_iret hx hb hr hlk hK hG rfl hw dX8_restore_13
set_option maxRecDepth 100000 in
set_option maxHeartbeats 4000000 in
theorem z_X8_row_b23 {p : Program} {e : Env} {s : State} {m : MethodId} {args : Array Value} {below : List Frame} {meth : Method} {c : Code} (l : Launch) (y : Sy) (x1 : Int32) (C : Sd p s m args meth c cX8_row 3 RX8 (some .int) y)  (K : Int32 → St → Prop)  (s0 : Int32) (s1 : Int32) (st : St) {H : Heap} {locs : List Loc} {ls : Array Slot} (hG : gH 107 enX y st s H locs) (hl : lv_has ls 3 [(0, .ref (ad y 0)), (1, .int x1)]) (hw : w_X8_row_b23 x1  K s0 s1 st) : W p l e (rmm 2 43) s m args below meth c H locs 0 0 (MQ below (va_Qi K (gB 107 enX y) (gA 107 y)) args s 0 0 (gA 107 y)) (F0 m 23 ls [.int s0, .int s1]) := by
  obtain ⟨hx, hb, hml, hown, hts, hr, hlk, hK, hN⟩ := id C
  unfold w_X8_row_b23 at hw
  refine lv_iconst (v := 0) hx hb dX8_row_23 (by decide) ?_
  refine r_ki (r_run_S (As := [.int s1, .int s0, .int 0]) (rest := []) hx hb hml hown hts hK hN hG (c_X8_firstOf l y s1 s0 0 st _ hw) qM_X8_71 qT_X8_firstOf qN_X8 qC_X8_firstOf hd_X8_firstOf ⟨Nat.le_of_ble_eq_true rfl, Nat.le_of_ble_eq_true rfl⟩ hl.1 rfl (Nat.le_of_ble_eq_true rfl) dX8_row_24) hG (fun r24 st24 H locs hw hG => ?_)
  refine lv_istore_n (lv' := [(2, .int r24), (0, .ref (ad y 0)), (1, .int x1)]) hx hb dX8_row_27 rfl hl (Nat.le_of_ble_eq_true rfl) rfl (fun ls hl => ?_)
  refine lv_iload_n hx hb dX8_row_28 rfl (lv_at hl 0 rfl) ?_
  refine lv_if_eq (tgt := 40) hx hb dX8_row_29 (by decide) (fun hc => ?_) (fun hc => ?_)
  · replace hw := hw.1 hc
    refine lv_aload_n hx hb dX8_row_40 rfl (lv_at hl 1 rfl) ?_
    refine r_get (C := RX8) (T := TX8) (Nf := 10) hx hb hts hown hK hG (by decide) rfl rfl inX8 6 (by decide) qF_X8_36 rfl dX8_row_41 ?_
    refine lv_iload_n hx hb dX8_row_44 rfl (lv_at hl 2 rfl) ?_
    refine r_ki (r_run_V (k := 6) (As := [.int x1]) (rest := []) hx hb hml hown hts hK hN hG (c_X6_add l y x1 st24 _ hw) (by decide) rfl rfl rfl qM_X8_207 qI_X6_add qS_X6_add qN_X6 qC_X6_add hd_X6_add ⟨Nat.le_of_ble_eq_true rfl, Nat.le_of_ble_eq_true rfl⟩ hl.1 rfl (Nat.le_of_ble_eq_true rfl) dX8_row_45) hG (fun r45 st45 H locs hw hG => ?_)
    exact r_iret hx hb hr hlk hK hG rfl hw dX8_row_48
  · replace hw := hw.2 hc
    refine lv_aload_n hx hb dX8_row_32 rfl (lv_at hl 1 rfl) ?_
    refine lv_iload_n hx hb dX8_row_33 rfl (lv_at hl 0 rfl) ?_
    refine r_ki (r_run_V (k := 0) (As := [.int r24]) (rest := []) hx hb hml hown hts hK hN hG (c_X8_refused l y r24 st24 _ hw) (by decide) rfl rfl rfl qM_X8_74 qI_X8_refused qS_X8_refused qN_X8 qC_X8_refused hd_X8_refused ⟨Nat.le_of_ble_eq_true rfl, Nat.le_of_ble_eq_true rfl⟩ hl.1 rfl (Nat.le_of_ble_eq_true rfl) dX8_row_34) hG (fun r34 st34 H locs hw hG => ?_)
    refine lv_goto (tgt := 48) hx hb dX8_row_37 (by decide) ?_
    exact r_iret hx hb hr hlk hK hG rfl hw dX8_row_48
theorem hd_X8_row : yX8_row.cls ≠ "java/lang/invoke/MethodHandle" ∧ yX8_row.cls ≠ "java/lang/invoke/VarHandle" ∧ (parseMethodDescriptor yX8_row.desc).map (fun d => d.parameters.length) = some 1 := by decide +kernel
set_option maxRecDepth 100000 in
set_option maxHeartbeats 4000000 in
theorem c_X8_row (l : Launch) (y : Sy) (x1 : Int32) (st : St) (K : Int32 → St → Prop) (hw : w_X8_row x1 st K) : Ci 107 enX l yX8_row cX8_row 3 (some .int) 2 43 y [.ref (ad y 0), .int x1] st K := by
  refine ent (by decide) (Nat.le_of_ble_eq_true rfl) ?_
  intro p e s m below meth c C hG ls hl
  have hl : lv_has ls 3 [(0, .ref (ad y 0)), (1, .int x1)] := hl
  generalize ([.ref (ad y 0), .int x1] : List Value).toArray = args at C ⊢
  have C : Sd p s m args meth c cX8_row 3 RX8 (some .int) y := C
  obtain ⟨hx, hb, hml, hown, hts, hr, hlk, hK, hN⟩ := id C
  generalize s.heap = H at hG ⊢
  generalize ([] : List Loc) = locs at hG ⊢
  unfold w_X8_row at hw
  refine lv_iload_n hx hb dX8_row_0 rfl (lv_at hl 1 rfl) ?_
  refine lv_iconst (v := 0) hx hb dX8_row_1 (by decide) ?_
  refine lv_bipush (v := 99) hx hb dX8_row_2 (by decide) ?_
  refine r_ki (r_run_S (As := [.int x1, .int 0, .int 99]) (rest := []) hx hb hml hown hts hK hN hG (c_X8_range l y x1 0 99 st _ hw) qM_X8_63 qT_X8_range qN_X8 qC_X8_range hd_X8_range ⟨Nat.le_of_ble_eq_true rfl, Nat.le_of_ble_eq_true rfl⟩ hl.1 rfl (Nat.le_of_ble_eq_true rfl) dX8_row_4) hG (fun r4 st4 H locs hw hG => ?_)
  refine lv_aload_n hx hb dX8_row_7 rfl (lv_at hl 0 rfl) ?_
  refine r_get (C := RX8) (T := TX8) (Nf := 10) hx hb hts hown hK hG (by decide) rfl rfl inX8 6 (by decide) qF_X8_36 rfl dX8_row_8 ?_
  refine r_ki (r_run_V (k := 6) (As := []) (rest := [.int r4]) hx hb hml hown hts hK hN hG (c_X6_isFull l y  st4 _ hw) (by decide) rfl rfl rfl qM_X8_206 qI_X6_isFull qS_X6_isFull qN_X6 qC_X6_isFull hd_X6_isFull ⟨Nat.le_of_ble_eq_true rfl, Nat.le_of_ble_eq_true rfl⟩ hl.1 rfl (Nat.le_of_ble_eq_true rfl) dX8_row_11) hG (fun r11 st11 H locs hw hG => ?_)
  refine lv_if_eq (tgt := 22) hx hb dX8_row_14 (by decide) (fun hc => ?_) (fun hc => ?_)
  · replace hw := hw.1 hc
    refine lv_iconst (v := 0) hx hb dX8_row_22 (by decide) ?_
    exact z_X8_row_b23 l y x1 C  K  0 r4 st11 hG (lv_sub hl [0, 1] rfl) hw
  · replace hw := hw.2 hc
    refine lv_bipush (v := (-6)) hx hb dX8_row_17 (by decide) ?_
    refine lv_goto (tgt := 23) hx hb dX8_row_19 (by decide) ?_
    exact z_X8_row_b23 l y x1 C  K  (-6) r4 st11 hG (lv_sub hl [0, 1] rfl) hw
theorem hd_X8_judge : yX8_judge.cls ≠ "java/lang/invoke/MethodHandle" ∧ yX8_judge.cls ≠ "java/lang/invoke/VarHandle" ∧ (parseMethodDescriptor yX8_judge.desc).map (fun d => d.parameters.length) = some 1 := by decide +kernel
set_option maxRecDepth 100000 in
set_option maxHeartbeats 4000000 in
theorem c_X8_judge (l : Launch) (y : Sy) (x1 : Int32) (st : St) (K : Int32 → St → Prop) (hw : w_X8_judge x1 st K) : Ci 107 enX l yX8_judge cX8_judge 4 (some .int) 4 88 y [.ref (ad y 0), .int x1] st K := by
  refine ent (by decide) (Nat.le_of_ble_eq_true rfl) ?_
  intro p e s m below meth c C hG ls hl
  have hl : lv_has ls 4 [(0, .ref (ad y 0)), (1, .int x1)] := hl
  generalize ([.ref (ad y 0), .int x1] : List Value).toArray = args at C ⊢
  have C : Sd p s m args meth c cX8_judge 4 RX8 (some .int) y := C
  obtain ⟨hx, hb, hml, hown, hts, hr, hlk, hK, hN⟩ := id C
  generalize s.heap = H at hG ⊢
  generalize ([] : List Loc) = locs at hG ⊢
  unfold w_X8_judge at hw
  refine lv_aload_n hx hb dX8_judge_0 rfl (lv_at hl 0 rfl) ?_
  refine lv_iload_n hx hb dX8_judge_1 rfl (lv_at hl 1 rfl) ?_
  refine r_ki (r_run_V (k := 0) (As := [.int x1]) (rest := []) hx hb hml hown hts hK hN hG (c_X8_keeperRefusal l y x1 st _ hw) (by decide) rfl rfl rfl qM_X8_94 qI_X8_keeperRefusal qS_X8_keeperRefusal qN_X8 qC_X8_keeperRefusal hd_X8_keeperRefusal ⟨Nat.le_of_ble_eq_true rfl, Nat.le_of_ble_eq_true rfl⟩ hl.1 rfl (Nat.le_of_ble_eq_true rfl) dX8_judge_2) hG (fun r2 st2 H locs hw hG => ?_)
  refine lv_istore_n (lv' := [(2, .int r2), (0, .ref (ad y 0)), (1, .int x1)]) hx hb dX8_judge_5 rfl hl (Nat.le_of_ble_eq_true rfl) rfl (fun ls hl => ?_)
  refine lv_iload_n hx hb dX8_judge_6 rfl (lv_at hl 0 rfl) ?_
  refine lv_if_eq (tgt := 16) hx hb dX8_judge_7 (by decide) (fun hc => ?_) (fun hc => ?_)
  · replace hw := hw.1 hc
    refine lv_aload_n hx hb dX8_judge_16 rfl (lv_at hl 1 rfl) ?_
    refine r_get (C := RX8) (T := TX8) (Nf := 10) hx hb hts hown hK hG (by decide) rfl rfl inX8 7 (by decide) qF_X8_52 rfl dX8_judge_17 ?_
    refine lv_iload_n hx hb dX8_judge_20 rfl (lv_at hl 2 rfl) ?_
    refine lv_aload_n hx hb dX8_judge_21 rfl (lv_at hl 1 rfl) ?_
    refine r_get (C := RX8) (T := TX8) (Nf := 10) hx hb hts hown hK hG (by decide) rfl rfl inX8 6 (by decide) qF_X8_36 rfl dX8_judge_22 ?_
    refine r_ki (r_run_V (k := 8) (As := [.int x1, .ref (ad y 6)]) (rest := []) hx hb hml hown hts hK hN hG (c_X3_firstMisjudged l y x1 st2 _ hw) (by decide) rfl rfl rfl qM_X8_208 qI_X3_firstMisjudged qS_X3_firstMisjudged qN_X3 qC_X3_firstMisjudged hd_X3_firstMisjudged ⟨Nat.le_of_ble_eq_true rfl, Nat.le_of_ble_eq_true rfl⟩ hl.1 rfl (Nat.le_of_ble_eq_true rfl) dX8_judge_25) hG (fun r25 st25 H locs hw hG => ?_)
    refine lv_istore_n (lv' := [(3, .int r25), (2, .int r2), (0, .ref (ad y 0)), (1, .int x1)]) hx hb dX8_judge_28 rfl hl (Nat.le_of_ble_eq_true rfl) rfl (fun ls hl => ?_)
    refine lv_aload_n hx hb dX8_judge_29 rfl (lv_at hl 2 rfl) ?_
    refine r_get (C := RX8) (T := TX8) (Nf := 10) hx hb hts hown hK hG (by decide) rfl rfl inX8 6 (by decide) qF_X8_36 rfl dX8_judge_30 ?_
    refine r_kv (r_run_V (k := 6) (As := []) (rest := []) hx hb hml hown hts hK hN hG (c_X6_empty l y  st25 _ hw) (by decide) rfl rfl rfl qM_X8_212 qI_X6_empty qS_X6_empty qN_X6 qC_X6_empty hd_X6_empty ⟨Nat.le_of_ble_eq_true rfl, Nat.le_of_ble_eq_true rfl⟩ hl.1 rfl (Nat.le_of_ble_eq_true rfl) dX8_judge_33) hG (fun st33 H locs hw hG => ?_)
    refine lv_iload_n hx hb dX8_judge_36 rfl (lv_at hl 0 rfl) ?_
    exact r_iret hx hb hr hlk hK hG rfl hw dX8_judge_37
  · replace hw := hw.2 hc
    refine lv_aload_n hx hb dX8_judge_10 rfl (lv_at hl 1 rfl) ?_
    refine lv_iload_n hx hb dX8_judge_11 rfl (lv_at hl 0 rfl) ?_
    refine r_ki (r_run_V (k := 0) (As := [.int r2]) (rest := []) hx hb hml hown hts hK hN hG (c_X8_refused l y r2 st2 _ hw) (by decide) rfl rfl rfl qM_X8_74 qI_X8_refused qS_X8_refused qN_X8 qC_X8_refused hd_X8_refused ⟨Nat.le_of_ble_eq_true rfl, Nat.le_of_ble_eq_true rfl⟩ hl.1 rfl (Nat.le_of_ble_eq_true rfl) dX8_judge_12) hG (fun r12 st12 H locs hw hG => ?_)
    exact r_iret hx hb hr hlk hK hG rfl hw dX8_judge_15
theorem hd_X8_clear : yX8_clear.cls ≠ "java/lang/invoke/MethodHandle" ∧ yX8_clear.cls ≠ "java/lang/invoke/VarHandle" ∧ (parseMethodDescriptor yX8_clear.desc).map (fun d => d.parameters.length) = some 0 := by decide +kernel
set_option maxRecDepth 100000 in
set_option maxHeartbeats 4000000 in
theorem c_X8_clear (l : Launch) (y : Sy)  (st : St) (K : Int32 → St → Prop) (hw : w_X8_clear  st K) : Ci 107 enX l yX8_clear cX8_clear 2 (some .int) 1 20 y [.ref (ad y 0)] st K := by
  refine ent (by decide) (Nat.le_of_ble_eq_true rfl) ?_
  intro p e s m below meth c C hG ls hl
  have hl : lv_has ls 2 [(0, .ref (ad y 0))] := hl
  generalize ([.ref (ad y 0)] : List Value).toArray = args at C ⊢
  have C : Sd p s m args meth c cX8_clear 2 RX8 (some .int) y := C
  obtain ⟨hx, hb, hml, hown, hts, hr, hlk, hK, hN⟩ := id C
  generalize s.heap = H at hG ⊢
  generalize ([] : List Loc) = locs at hG ⊢
  unfold w_X8_clear at hw
  refine lv_aload_n hx hb dX8_clear_0 rfl (lv_at hl 0 rfl) ?_
  refine r_get (C := RX8) (T := TX8) (Nf := 10) hx hb hts hown hK hG (by decide) rfl rfl inX8 6 (by decide) qF_X8_36 rfl dX8_clear_1 ?_
  refine r_ki (r_run_V (k := 6) (As := []) (rest := []) hx hb hml hown hts hK hN hG (c_X6_size l y  st _ hw) (by decide) rfl rfl rfl qM_X8_160 qI_X6_size qS_X6_size qN_X6 qC_X6_size hd_X6_size ⟨Nat.le_of_ble_eq_true rfl, Nat.le_of_ble_eq_true rfl⟩ hl.1 rfl (Nat.le_of_ble_eq_true rfl) dX8_clear_4) hG (fun r4 st4 H locs hw hG => ?_)
  refine lv_istore_n (lv' := [(1, .int r4), (0, .ref (ad y 0))]) hx hb dX8_clear_7 rfl hl (Nat.le_of_ble_eq_true rfl) rfl (fun ls hl => ?_)
  refine lv_aload_n hx hb dX8_clear_8 rfl (lv_at hl 1 rfl) ?_
  refine r_get (C := RX8) (T := TX8) (Nf := 10) hx hb hts hown hK hG (by decide) rfl rfl inX8 6 (by decide) qF_X8_36 rfl dX8_clear_9 ?_
  refine r_kv (r_run_V (k := 6) (As := []) (rest := []) hx hb hml hown hts hK hN hG (c_X6_empty l y  st4 _ hw) (by decide) rfl rfl rfl qM_X8_212 qI_X6_empty qS_X6_empty qN_X6 qC_X6_empty hd_X6_empty ⟨Nat.le_of_ble_eq_true rfl, Nat.le_of_ble_eq_true rfl⟩ hl.1 rfl (Nat.le_of_ble_eq_true rfl) dX8_clear_12) hG (fun st12 H locs hw hG => ?_)
  refine lv_iload_n hx hb dX8_clear_15 rfl (lv_at hl 0 rfl) ?_
  exact r_iret hx hb hr hlk hK hG rfl hw dX8_clear_16
theorem hd_X8_behind : yX8_behind.cls ≠ "java/lang/invoke/MethodHandle" ∧ yX8_behind.cls ≠ "java/lang/invoke/VarHandle" ∧ (parseMethodDescriptor yX8_behind.desc).map (fun d => d.parameters.length) = some 3 := by decide +kernel
set_option maxRecDepth 100000 in
set_option maxHeartbeats 4000000 in
theorem c_X8_behind (l : Launch) (y : Sy) (x1 : Int32) (x2 : Int32) (x3 : Int32) (st : St) (K : Int32 → St → Prop) (hw : w_X8_behind x1 x2 x3 st K) : Ci 107 enX l yX8_behind cX8_behind 5 (some .int) 6 140 y [.ref (ad y 0), .int x1, .int x2, .int x3] st K := by
  refine ent (by decide) (Nat.le_of_ble_eq_true rfl) ?_
  intro p e s m below meth c C hG ls hl
  have hl : lv_has ls 5 [(0, .ref (ad y 0)), (1, .int x1), (2, .int x2), (3, .int x3)] := hl
  generalize ([.ref (ad y 0), .int x1, .int x2, .int x3] : List Value).toArray = args at C ⊢
  have C : Sd p s m args meth c cX8_behind 5 RX8 (some .int) y := C
  obtain ⟨hx, hb, hml, hown, hts, hr, hlk, hK, hN⟩ := id C
  generalize s.heap = H at hG ⊢
  generalize ([] : List Loc) = locs at hG ⊢
  unfold w_X8_behind at hw
  refine lv_aload_n hx hb dX8_behind_0 rfl (lv_at hl 0 rfl) ?_
  refine lv_iload_n hx hb dX8_behind_1 rfl (lv_at hl 1 rfl) ?_
  refine lv_iload_n hx hb dX8_behind_2 rfl (lv_at hl 2 rfl) ?_
  refine r_ki (r_run_V (k := 0) (As := [.int x1, .int x2]) (rest := []) hx hb hml hown hts hK hN hG (c_X8_twoRefusal l y x1 x2 st _ hw) (by decide) rfl rfl rfl qM_X8_135 qI_X8_twoRefusal qS_X8_twoRefusal qN_X8 qC_X8_twoRefusal hd_X8_twoRefusal ⟨Nat.le_of_ble_eq_true rfl, Nat.le_of_ble_eq_true rfl⟩ hl.1 rfl (Nat.le_of_ble_eq_true rfl) dX8_behind_3) hG (fun r3 st3 H locs hw hG => ?_)
  refine lv_iload_n hx hb dX8_behind_6 rfl (lv_at hl 3 rfl) ?_
  refine lv_iconst (v := 0) hx hb dX8_behind_7 (by decide) ?_
  refine lv_bipush (v := 60) hx hb dX8_behind_8 (by decide) ?_
  refine r_ki (r_run_S (As := [.int x3, .int 0, .int 60]) (rest := [.int r3]) hx hb hml hown hts hK hN hG (c_X8_range l y x3 0 60 st3 _ hw) qM_X8_63 qT_X8_range qN_X8 qC_X8_range hd_X8_range ⟨Nat.le_of_ble_eq_true rfl, Nat.le_of_ble_eq_true rfl⟩ hl.1 rfl (Nat.le_of_ble_eq_true rfl) dX8_behind_10) hG (fun r10 st10 H locs hw hG => ?_)
  refine lv_iconst (v := 0) hx hb dX8_behind_13 (by decide) ?_
  refine r_ki (r_run_S (As := [.int r3, .int r10, .int 0]) (rest := []) hx hb hml hown hts hK hN hG (c_X8_firstOf l y r3 r10 0 st10 _ hw) qM_X8_71 qT_X8_firstOf qN_X8 qC_X8_firstOf hd_X8_firstOf ⟨Nat.le_of_ble_eq_true rfl, Nat.le_of_ble_eq_true rfl⟩ hl.1 rfl (Nat.le_of_ble_eq_true rfl) dX8_behind_14) hG (fun r14 st14 H locs hw hG => ?_)
  refine lv_istore (lv' := [(4, .int r14), (0, .ref (ad y 0)), (1, .int x1), (2, .int x2), (3, .int x3)]) hx hb dX8_behind_17 hl (Nat.le_of_ble_eq_true rfl) rfl (fun ls hl => ?_)
  refine lv_iload hx hb dX8_behind_19 (lv_at hl 0 rfl) ?_
  refine lv_if_eq (tgt := 33) hx hb dX8_behind_21 (by decide) (fun hc => ?_) (fun hc => ?_)
  · replace hw := hw.1 hc
    refine lv_aload_n hx hb dX8_behind_33 rfl (lv_at hl 1 rfl) ?_
    refine r_get (C := RX8) (T := TX8) (Nf := 10) hx hb hts hown hK hG (by decide) rfl rfl inX8 8 (by decide) qF_X8_59 rfl dX8_behind_34 ?_
    refine lv_iload_n hx hb dX8_behind_37 rfl (lv_at hl 2 rfl) ?_
    refine lv_iload_n hx hb dX8_behind_38 rfl (lv_at hl 3 rfl) ?_
    refine lv_iload_n hx hb dX8_behind_39 rfl (lv_at hl 4 rfl) ?_
    refine r_ki (r_run_V (k := 10) (As := [.int x1, .int x2, .int x3]) (rest := []) hx hb hml hown hts hK hN hG (c_X4_hateAfter l y x1 x2 x3 st14 _ hw) (by decide) rfl rfl rfl qM_X8_213 qI_X4_hateAfter qS_X4_hateAfter qN_X4 qC_X4_hateAfter hd_X4_hateAfter ⟨Nat.le_of_ble_eq_true rfl, Nat.le_of_ble_eq_true rfl⟩ hl.1 rfl (Nat.le_of_ble_eq_true rfl) dX8_behind_40) hG (fun r40 st40 H locs hw hG => ?_)
    exact r_iret hx hb hr hlk hK hG rfl hw dX8_behind_43
  · replace hw := hw.2 hc
    refine lv_aload_n hx hb dX8_behind_24 rfl (lv_at hl 1 rfl) ?_
    refine lv_iload hx hb dX8_behind_25 (lv_at hl 0 rfl) ?_
    refine r_ki (r_run_V (k := 0) (As := [.int r14]) (rest := []) hx hb hml hown hts hK hN hG (c_X8_refused l y r14 st14 _ hw) (by decide) rfl rfl rfl qM_X8_74 qI_X8_refused qS_X8_refused qN_X8 qC_X8_refused hd_X8_refused ⟨Nat.le_of_ble_eq_true rfl, Nat.le_of_ble_eq_true rfl⟩ hl.1 rfl (Nat.le_of_ble_eq_true rfl) dX8_behind_27) hG (fun r27 st27 H locs hw hG => ?_)
    refine lv_goto (tgt := 43) hx hb dX8_behind_30 (by decide) ?_
    exact r_iret hx hb hr hlk hK hG rfl hw dX8_behind_43
theorem hd_X8_then : yX8_then.cls ≠ "java/lang/invoke/MethodHandle" ∧ yX8_then.cls ≠ "java/lang/invoke/VarHandle" ∧ (parseMethodDescriptor yX8_then.desc).map (fun d => d.parameters.length) = some 2 := by decide +kernel
set_option maxRecDepth 100000 in
set_option maxHeartbeats 4000000 in
theorem c_X8_then (l : Launch) (y : Sy) (x1 : Int32) (x2 : Int32) (st : St) (K : Int32 → St → Prop) (hw : w_X8_then x1 x2 st K) : Ci 107 enX l yX8_then cX8_then 4 (some .int) 6 138 y [.ref (ad y 0), .int x1, .int x2] st K := by
  refine ent (by decide) (Nat.le_of_ble_eq_true rfl) ?_
  intro p e s m below meth c C hG ls hl
  have hl : lv_has ls 4 [(0, .ref (ad y 0)), (1, .int x1), (2, .int x2)] := hl
  generalize ([.ref (ad y 0), .int x1, .int x2] : List Value).toArray = args at C ⊢
  have C : Sd p s m args meth c cX8_then 4 RX8 (some .int) y := C
  obtain ⟨hx, hb, hml, hown, hts, hr, hlk, hK, hN⟩ := id C
  generalize s.heap = H at hG ⊢
  generalize ([] : List Loc) = locs at hG ⊢
  unfold w_X8_then at hw
  refine lv_iload_n hx hb dX8_then_0 rfl (lv_at hl 1 rfl) ?_
  refine lv_iconst (v := 0) hx hb dX8_then_1 (by decide) ?_
  refine lv_bipush (v := 60) hx hb dX8_then_2 (by decide) ?_
  refine r_ki (r_run_S (As := [.int x1, .int 0, .int 60]) (rest := []) hx hb hml hown hts hK hN hG (c_X8_range l y x1 0 60 st _ hw) qM_X8_63 qT_X8_range qN_X8 qC_X8_range hd_X8_range ⟨Nat.le_of_ble_eq_true rfl, Nat.le_of_ble_eq_true rfl⟩ hl.1 rfl (Nat.le_of_ble_eq_true rfl) dX8_then_4) hG (fun r4 st4 H locs hw hG => ?_)
  refine lv_iload_n hx hb dX8_then_7 rfl (lv_at hl 2 rfl) ?_
  refine lv_iconst (v := 1) hx hb dX8_then_8 (by decide) ?_
  refine r_ki (r_run_S (As := [.int x2, .int 1]) (rest := [.int r4]) hx hb hml hown hts hK hN hG (c_X8_choice l y x2 1 st4 _ hw) qM_X8_97 qT_X8_choice qN_X8 qC_X8_choice hd_X8_choice ⟨Nat.le_of_ble_eq_true rfl, Nat.le_of_ble_eq_true rfl⟩ hl.1 rfl (Nat.le_of_ble_eq_true rfl) dX8_then_9) hG (fun r9 st9 H locs hw hG => ?_)
  refine lv_iconst (v := 0) hx hb dX8_then_12 (by decide) ?_
  refine r_ki (r_run_S (As := [.int r4, .int r9, .int 0]) (rest := []) hx hb hml hown hts hK hN hG (c_X8_firstOf l y r4 r9 0 st9 _ hw) qM_X8_71 qT_X8_firstOf qN_X8 qC_X8_firstOf hd_X8_firstOf ⟨Nat.le_of_ble_eq_true rfl, Nat.le_of_ble_eq_true rfl⟩ hl.1 rfl (Nat.le_of_ble_eq_true rfl) dX8_then_13) hG (fun r13 st13 H locs hw hG => ?_)
  refine lv_istore_n (lv' := [(3, .int r13), (0, .ref (ad y 0)), (1, .int x1), (2, .int x2)]) hx hb dX8_then_16 rfl hl (Nat.le_of_ble_eq_true rfl) rfl (fun ls hl => ?_)
  refine lv_iload_n hx hb dX8_then_17 rfl (lv_at hl 0 rfl) ?_
  refine lv_if_eq (tgt := 27) hx hb dX8_then_18 (by decide) (fun hc => ?_) (fun hc => ?_)
  · replace hw := hw.1 hc
    refine lv_iload_n hx hb dX8_then_27 rfl (lv_at hl 3 rfl) ?_
    refine lv_if_ne (tgt := 42) hx hb dX8_then_28 (by decide) (fun hc => ?_) (fun hc => ?_)
    · replace hw := hw.1 hc
      refine lv_aload_n hx hb dX8_then_42 rfl (lv_at hl 1 rfl) ?_
      refine r_get (C := RX8) (T := TX8) (Nf := 10) hx hb hts hown hK hG (by decide) rfl rfl inX8 8 (by decide) qF_X8_59 rfl dX8_then_43 ?_
      refine lv_iload_n hx hb dX8_then_46 rfl (lv_at hl 2 rfl) ?_
      refine r_ki (r_run_V (k := 10) (As := [.int x1]) (rest := []) hx hb hml hown hts hK hN hG (c_X4_allHateAfter l y x1 st13 _ hw) (by decide) rfl rfl rfl qM_X8_219 qI_X4_allHateAfter qS_X4_allHateAfter qN_X4 qC_X4_allHateAfter hd_X4_allHateAfter ⟨Nat.le_of_ble_eq_true rfl, Nat.le_of_ble_eq_true rfl⟩ hl.1 rfl (Nat.le_of_ble_eq_true rfl) dX8_then_47) hG (fun r47 st47 H locs hw hG => ?_)
      exact r_iret hx hb hr hlk hK hG rfl hw dX8_then_50
    · replace hw := hw.2 hc
      refine lv_aload_n hx hb dX8_then_31 rfl (lv_at hl 1 rfl) ?_
      refine r_get (C := RX8) (T := TX8) (Nf := 10) hx hb hts hown hK hG (by decide) rfl rfl inX8 8 (by decide) qF_X8_59 rfl dX8_then_32 ?_
      refine lv_iload_n hx hb dX8_then_35 rfl (lv_at hl 2 rfl) ?_
      refine r_ki (r_run_V (k := 10) (As := [.int x1]) (rest := []) hx hb hml hown hts hK hN hG (c_X4_openBitsAfter l y x1 st13 _ hw) (by decide) rfl rfl rfl qM_X8_216 qI_X4_openBitsAfter qS_X4_openBitsAfter qN_X4 qC_X4_openBitsAfter hd_X4_openBitsAfter ⟨Nat.le_of_ble_eq_true rfl, Nat.le_of_ble_eq_true rfl⟩ hl.1 rfl (Nat.le_of_ble_eq_true rfl) dX8_then_36) hG (fun r36 st36 H locs hw hG => ?_)
      refine lv_goto (tgt := 50) hx hb dX8_then_39 (by decide) ?_
      exact r_iret hx hb hr hlk hK hG rfl hw dX8_then_50
  · replace hw := hw.2 hc
    refine lv_aload_n hx hb dX8_then_21 rfl (lv_at hl 1 rfl) ?_
    refine lv_iload_n hx hb dX8_then_22 rfl (lv_at hl 0 rfl) ?_
    refine r_ki (r_run_V (k := 0) (As := [.int r13]) (rest := []) hx hb hml hown hts hK hN hG (c_X8_refused l y r13 st13 _ hw) (by decide) rfl rfl rfl qM_X8_74 qI_X8_refused qS_X8_refused qN_X8 qC_X8_refused hd_X8_refused ⟨Nat.le_of_ble_eq_true rfl, Nat.le_of_ble_eq_true rfl⟩ hl.1 rfl (Nat.le_of_ble_eq_true rfl) dX8_then_23) hG (fun r23 st23 H locs hw hG => ?_)
    exact r_iret hx hb hr hlk hK hG rfl hw dX8_then_26
theorem hd_X8_when : yX8_when.cls ≠ "java/lang/invoke/MethodHandle" ∧ yX8_when.cls ≠ "java/lang/invoke/VarHandle" ∧ (parseMethodDescriptor yX8_when.desc).map (fun d => d.parameters.length) = some 2 := by decide +kernel
set_option maxRecDepth 100000 in
set_option maxHeartbeats 4000000 in
theorem c_X8_when (l : Launch) (y : Sy) (x1 : Int32) (x2 : Int32) (st : St) (K : Int32 → St → Prop) (hw : w_X8_when x1 x2 st K) : Ci 107 enX l yX8_when cX8_when 4 (some .int) 6 138 y [.ref (ad y 0), .int x1, .int x2] st K := by
  refine ent (by decide) (Nat.le_of_ble_eq_true rfl) ?_
  intro p e s m below meth c C hG ls hl
  have hl : lv_has ls 4 [(0, .ref (ad y 0)), (1, .int x1), (2, .int x2)] := hl
  generalize ([.ref (ad y 0), .int x1, .int x2] : List Value).toArray = args at C ⊢
  have C : Sd p s m args meth c cX8_when 4 RX8 (some .int) y := C
  obtain ⟨hx, hb, hml, hown, hts, hr, hlk, hK, hN⟩ := id C
  generalize s.heap = H at hG ⊢
  generalize ([] : List Loc) = locs at hG ⊢
  unfold w_X8_when at hw
  refine lv_aload_n hx hb dX8_when_0 rfl (lv_at hl 0 rfl) ?_
  refine lv_iload_n hx hb dX8_when_1 rfl (lv_at hl 1 rfl) ?_
  refine r_ki (r_run_V (k := 0) (As := [.int x1]) (rest := []) hx hb hml hown hts hK hN hG (c_X8_letterRefusal l y x1 st _ hw) (by decide) rfl rfl rfl qM_X8_119 qI_X8_letterRefusal qS_X8_letterRefusal qN_X8 qC_X8_letterRefusal hd_X8_letterRefusal ⟨Nat.le_of_ble_eq_true rfl, Nat.le_of_ble_eq_true rfl⟩ hl.1 rfl (Nat.le_of_ble_eq_true rfl) dX8_when_2) hG (fun r2 st2 H locs hw hG => ?_)
  refine lv_iload_n hx hb dX8_when_5 rfl (lv_at hl 2 rfl) ?_
  refine lv_iconst (v := 1) hx hb dX8_when_6 (by decide) ?_
  refine r_ki (r_run_S (As := [.int x2, .int 1]) (rest := [.int r2]) hx hb hml hown hts hK hN hG (c_X8_choice l y x2 1 st2 _ hw) qM_X8_97 qT_X8_choice qN_X8 qC_X8_choice hd_X8_choice ⟨Nat.le_of_ble_eq_true rfl, Nat.le_of_ble_eq_true rfl⟩ hl.1 rfl (Nat.le_of_ble_eq_true rfl) dX8_when_7) hG (fun r7 st7 H locs hw hG => ?_)
  refine lv_iconst (v := 0) hx hb dX8_when_10 (by decide) ?_
  refine r_ki (r_run_S (As := [.int r2, .int r7, .int 0]) (rest := []) hx hb hml hown hts hK hN hG (c_X8_firstOf l y r2 r7 0 st7 _ hw) qM_X8_71 qT_X8_firstOf qN_X8 qC_X8_firstOf hd_X8_firstOf ⟨Nat.le_of_ble_eq_true rfl, Nat.le_of_ble_eq_true rfl⟩ hl.1 rfl (Nat.le_of_ble_eq_true rfl) dX8_when_11) hG (fun r11 st11 H locs hw hG => ?_)
  refine lv_istore_n (lv' := [(3, .int r11), (0, .ref (ad y 0)), (1, .int x1), (2, .int x2)]) hx hb dX8_when_14 rfl hl (Nat.le_of_ble_eq_true rfl) rfl (fun ls hl => ?_)
  refine lv_iload_n hx hb dX8_when_15 rfl (lv_at hl 0 rfl) ?_
  refine lv_if_eq (tgt := 25) hx hb dX8_when_16 (by decide) (fun hc => ?_) (fun hc => ?_)
  · replace hw := hw.1 hc
    refine lv_iload_n hx hb dX8_when_25 rfl (lv_at hl 3 rfl) ?_
    refine lv_if_ne (tgt := 40) hx hb dX8_when_26 (by decide) (fun hc => ?_) (fun hc => ?_)
    · replace hw := hw.1 hc
      refine lv_aload_n hx hb dX8_when_40 rfl (lv_at hl 1 rfl) ?_
      refine r_get (C := RX8) (T := TX8) (Nf := 10) hx hb hts hown hK hG (by decide) rfl rfl inX8 8 (by decide) qF_X8_59 rfl dX8_when_41 ?_
      refine lv_iload_n hx hb dX8_when_44 rfl (lv_at hl 2 rfl) ?_
      refine r_ki (r_run_V (k := 10) (As := [.int x1]) (rest := []) hx hb hml hown hts hK hN hG (c_X4_openedBy l y x1 st11 _ hw) (by decide) rfl rfl rfl qM_X8_225 qI_X4_openedBy qS_X4_openedBy qN_X4 qC_X4_openedBy hd_X4_openedBy ⟨Nat.le_of_ble_eq_true rfl, Nat.le_of_ble_eq_true rfl⟩ hl.1 rfl (Nat.le_of_ble_eq_true rfl) dX8_when_45) hG (fun r45 st45 H locs hw hG => ?_)
      exact r_iret hx hb hr hlk hK hG rfl hw dX8_when_48
    · replace hw := hw.2 hc
      refine lv_aload_n hx hb dX8_when_29 rfl (lv_at hl 1 rfl) ?_
      refine r_get (C := RX8) (T := TX8) (Nf := 10) hx hb hts hown hK hG (by decide) rfl rfl inX8 8 (by decide) qF_X8_59 rfl dX8_when_30 ?_
      refine lv_iload_n hx hb dX8_when_33 rfl (lv_at hl 2 rfl) ?_
      refine r_ki (r_run_V (k := 10) (As := [.int x1]) (rest := []) hx hb hml hown hts hK hN hG (c_X4_weekOpened l y x1 st11 _ hw) (by decide) rfl rfl rfl qM_X8_222 qI_X4_weekOpened qS_X4_weekOpened qN_X4 qC_X4_weekOpened hd_X4_weekOpened ⟨Nat.le_of_ble_eq_true rfl, Nat.le_of_ble_eq_true rfl⟩ hl.1 rfl (Nat.le_of_ble_eq_true rfl) dX8_when_34) hG (fun r34 st34 H locs hw hG => ?_)
      refine lv_goto (tgt := 48) hx hb dX8_when_37 (by decide) ?_
      exact r_iret hx hb hr hlk hK hG rfl hw dX8_when_48
  · replace hw := hw.2 hc
    refine lv_aload_n hx hb dX8_when_19 rfl (lv_at hl 1 rfl) ?_
    refine lv_iload_n hx hb dX8_when_20 rfl (lv_at hl 0 rfl) ?_
    refine r_ki (r_run_V (k := 0) (As := [.int r11]) (rest := []) hx hb hml hown hts hK hN hG (c_X8_refused l y r11 st11 _ hw) (by decide) rfl rfl rfl qM_X8_74 qI_X8_refused qS_X8_refused qN_X8 qC_X8_refused hd_X8_refused ⟨Nat.le_of_ble_eq_true rfl, Nat.le_of_ble_eq_true rfl⟩ hl.1 rfl (Nat.le_of_ble_eq_true rfl) dX8_when_21) hG (fun r21 st21 H locs hw hG => ?_)
    exact r_iret hx hb hr hlk hK hG rfl hw dX8_when_24
theorem hd_X8_lasts : yX8_lasts.cls ≠ "java/lang/invoke/MethodHandle" ∧ yX8_lasts.cls ≠ "java/lang/invoke/VarHandle" ∧ (parseMethodDescriptor yX8_lasts.desc).map (fun d => d.parameters.length) = some 3 := by decide +kernel
set_option maxRecDepth 100000 in
set_option maxHeartbeats 4000000 in
theorem c_X8_lasts (l : Launch) (y : Sy) (x1 : Int32) (x2 : Int32) (x3 : Int32) (st : St) (K : Int32 → St → Prop) (hw : w_X8_lasts x1 x2 x3 st K) : Ci 107 enX l yX8_lasts cX8_lasts 5 (some .int) 5 119 y [.ref (ad y 0), .int x1, .int x2, .int x3] st K := by
  refine ent (by decide) (Nat.le_of_ble_eq_true rfl) ?_
  intro p e s m below meth c C hG ls hl
  have hl : lv_has ls 5 [(0, .ref (ad y 0)), (1, .int x1), (2, .int x2), (3, .int x3)] := hl
  generalize ([.ref (ad y 0), .int x1, .int x2, .int x3] : List Value).toArray = args at C ⊢
  have C : Sd p s m args meth c cX8_lasts 5 RX8 (some .int) y := C
  obtain ⟨hx, hb, hml, hown, hts, hr, hlk, hK, hN⟩ := id C
  generalize s.heap = H at hG ⊢
  generalize ([] : List Loc) = locs at hG ⊢
  unfold w_X8_lasts at hw
  refine lv_aload_n hx hb dX8_lasts_0 rfl (lv_at hl 0 rfl) ?_
  refine lv_iload_n hx hb dX8_lasts_1 rfl (lv_at hl 1 rfl) ?_
  refine lv_iload_n hx hb dX8_lasts_2 rfl (lv_at hl 2 rfl) ?_
  refine r_ki (r_run_V (k := 0) (As := [.int x1, .int x2]) (rest := []) hx hb hml hown hts hK hN hG (c_X8_twoRefusal l y x1 x2 st _ hw) (by decide) rfl rfl rfl qM_X8_135 qI_X8_twoRefusal qS_X8_twoRefusal qN_X8 qC_X8_twoRefusal hd_X8_twoRefusal ⟨Nat.le_of_ble_eq_true rfl, Nat.le_of_ble_eq_true rfl⟩ hl.1 rfl (Nat.le_of_ble_eq_true rfl) dX8_lasts_3) hG (fun r3 st3 H locs hw hG => ?_)
  refine lv_iload_n hx hb dX8_lasts_6 rfl (lv_at hl 3 rfl) ?_
  refine lv_iconst (v := 0) hx hb dX8_lasts_7 (by decide) ?_
  refine lv_bipush (v := 99) hx hb dX8_lasts_8 (by decide) ?_
  refine r_ki (r_run_S (As := [.int x3, .int 0, .int 99]) (rest := [.int r3]) hx hb hml hown hts hK hN hG (c_X8_range l y x3 0 99 st3 _ hw) qM_X8_63 qT_X8_range qN_X8 qC_X8_range hd_X8_range ⟨Nat.le_of_ble_eq_true rfl, Nat.le_of_ble_eq_true rfl⟩ hl.1 rfl (Nat.le_of_ble_eq_true rfl) dX8_lasts_10) hG (fun r10 st10 H locs hw hG => ?_)
  refine lv_iconst (v := 0) hx hb dX8_lasts_13 (by decide) ?_
  refine r_ki (r_run_S (As := [.int r3, .int r10, .int 0]) (rest := []) hx hb hml hown hts hK hN hG (c_X8_firstOf l y r3 r10 0 st10 _ hw) qM_X8_71 qT_X8_firstOf qN_X8 qC_X8_firstOf hd_X8_firstOf ⟨Nat.le_of_ble_eq_true rfl, Nat.le_of_ble_eq_true rfl⟩ hl.1 rfl (Nat.le_of_ble_eq_true rfl) dX8_lasts_14) hG (fun r14 st14 H locs hw hG => ?_)
  refine lv_istore (lv' := [(4, .int r14), (0, .ref (ad y 0)), (1, .int x1), (2, .int x2), (3, .int x3)]) hx hb dX8_lasts_17 hl (Nat.le_of_ble_eq_true rfl) rfl (fun ls hl => ?_)
  refine lv_iload hx hb dX8_lasts_19 (lv_at hl 0 rfl) ?_
  refine lv_if_eq (tgt := 33) hx hb dX8_lasts_21 (by decide) (fun hc => ?_) (fun hc => ?_)
  · replace hw := hw.1 hc
    refine lv_aload_n hx hb dX8_lasts_33 rfl (lv_at hl 1 rfl) ?_
    refine r_get (C := RX8) (T := TX8) (Nf := 10) hx hb hts hown hK hG (by decide) rfl rfl inX8 8 (by decide) qF_X8_59 rfl dX8_lasts_34 ?_
    refine lv_iload_n hx hb dX8_lasts_37 rfl (lv_at hl 2 rfl) ?_
    refine lv_iload_n hx hb dX8_lasts_38 rfl (lv_at hl 3 rfl) ?_
    refine lv_iload_n hx hb dX8_lasts_39 rfl (lv_at hl 4 rfl) ?_
    refine r_ki (r_run_V (k := 10) (As := [.int x1, .int x2, .int x3]) (rest := []) hx hb hml hown hts hK hN hG (c_X4_weekBelow l y x1 x2 x3 st14 _ hw) (by decide) rfl rfl rfl qM_X8_228 qI_X4_weekBelow qS_X4_weekBelow qN_X4 qC_X4_weekBelow hd_X4_weekBelow ⟨Nat.le_of_ble_eq_true rfl, Nat.le_of_ble_eq_true rfl⟩ hl.1 rfl (Nat.le_of_ble_eq_true rfl) dX8_lasts_40) hG (fun r40 st40 H locs hw hG => ?_)
    exact r_iret hx hb hr hlk hK hG rfl hw dX8_lasts_43
  · replace hw := hw.2 hc
    refine lv_aload_n hx hb dX8_lasts_24 rfl (lv_at hl 1 rfl) ?_
    refine lv_iload hx hb dX8_lasts_25 (lv_at hl 0 rfl) ?_
    refine r_ki (r_run_V (k := 0) (As := [.int r14]) (rest := []) hx hb hml hown hts hK hN hG (c_X8_refused l y r14 st14 _ hw) (by decide) rfl rfl rfl qM_X8_74 qI_X8_refused qS_X8_refused qN_X8 qC_X8_refused hd_X8_refused ⟨Nat.le_of_ble_eq_true rfl, Nat.le_of_ble_eq_true rfl⟩ hl.1 rfl (Nat.le_of_ble_eq_true rfl) dX8_lasts_27) hG (fun r27 st27 H locs hw hG => ?_)
    refine lv_goto (tgt := 43) hx hb dX8_lasts_30 (by decide) ?_
    exact r_iret hx hb hr hlk hK hG rfl hw dX8_lasts_43
theorem hd_X8_never : yX8_never.cls ≠ "java/lang/invoke/MethodHandle" ∧ yX8_never.cls ≠ "java/lang/invoke/VarHandle" ∧ (parseMethodDescriptor yX8_never.desc).map (fun d => d.parameters.length) = some 1 := by decide +kernel
set_option maxRecDepth 100000 in
set_option maxHeartbeats 4000000 in
theorem c_X8_never (l : Launch) (y : Sy) (x1 : Int32) (st : St) (K : Int32 → St → Prop) (hw : w_X8_never x1 st K) : Ci 107 enX l yX8_never cX8_never 3 (some .int) 7 158 y [.ref (ad y 0), .int x1] st K := by
  refine ent (by decide) (Nat.le_of_ble_eq_true rfl) ?_
  intro p e s m below meth c C hG ls hl
  have hl : lv_has ls 3 [(0, .ref (ad y 0)), (1, .int x1)] := hl
  generalize ([.ref (ad y 0), .int x1] : List Value).toArray = args at C ⊢
  have C : Sd p s m args meth c cX8_never 3 RX8 (some .int) y := C
  obtain ⟨hx, hb, hml, hown, hts, hr, hlk, hK, hN⟩ := id C
  generalize s.heap = H at hG ⊢
  generalize ([] : List Loc) = locs at hG ⊢
  unfold w_X8_never at hw
  refine lv_iload_n hx hb dX8_never_0 rfl (lv_at hl 1 rfl) ?_
  refine lv_iconst (v := 1) hx hb dX8_never_1 (by decide) ?_
  refine r_ki (r_run_S (As := [.int x1, .int 1]) (rest := []) hx hb hml hown hts hK hN hG (c_X8_choice l y x1 1 st _ hw) qM_X8_97 qT_X8_choice qN_X8 qC_X8_choice hd_X8_choice ⟨Nat.le_of_ble_eq_true rfl, Nat.le_of_ble_eq_true rfl⟩ hl.1 rfl (Nat.le_of_ble_eq_true rfl) dX8_never_2) hG (fun r2 st2 H locs hw hG => ?_)
  refine lv_istore_n (lv' := [(2, .int r2), (0, .ref (ad y 0)), (1, .int x1)]) hx hb dX8_never_5 rfl hl (Nat.le_of_ble_eq_true rfl) rfl (fun ls hl => ?_)
  refine lv_iload_n hx hb dX8_never_6 rfl (lv_at hl 0 rfl) ?_
  refine lv_if_eq (tgt := 16) hx hb dX8_never_7 (by decide) (fun hc => ?_) (fun hc => ?_)
  · replace hw := hw.1 hc
    refine lv_iload_n hx hb dX8_never_16 rfl (lv_at hl 2 rfl) ?_
    refine lv_if_ne (tgt := 30) hx hb dX8_never_17 (by decide) (fun hc => ?_) (fun hc => ?_)
    · replace hw := hw.1 hc
      refine lv_aload_n hx hb dX8_never_30 rfl (lv_at hl 1 rfl) ?_
      refine r_get (C := RX8) (T := TX8) (Nf := 10) hx hb hts hown hK hG (by decide) rfl rfl inX8 8 (by decide) qF_X8_59 rfl dX8_never_31 ?_
      refine r_ki (r_run_V (k := 10) (As := []) (rest := []) hx hb hml hown hts hK hN hG (c_X4_firstOpened l y  st2 _ hw) (by decide) rfl rfl rfl qM_X8_234 qI_X4_firstOpened qS_X4_firstOpened qN_X4 qC_X4_firstOpened hd_X4_firstOpened ⟨Nat.le_of_ble_eq_true rfl, Nat.le_of_ble_eq_true rfl⟩ hl.1 rfl (Nat.le_of_ble_eq_true rfl) dX8_never_34) hG (fun r34 st34 H locs hw hG => ?_)
      exact r_iret hx hb hr hlk hK hG rfl hw dX8_never_37
    · replace hw := hw.2 hc
      refine lv_aload_n hx hb dX8_never_20 rfl (lv_at hl 1 rfl) ?_
      refine r_get (C := RX8) (T := TX8) (Nf := 10) hx hb hts hown hK hG (by decide) rfl rfl inX8 8 (by decide) qF_X8_59 rfl dX8_never_21 ?_
      refine r_ki (r_run_V (k := 10) (As := []) (rest := []) hx hb hml hown hts hK hN hG (c_X4_sealedFar l y  st2 _ hw) (by decide) rfl rfl rfl qM_X8_231 qI_X4_sealedFar qS_X4_sealedFar qN_X4 qC_X4_sealedFar hd_X4_sealedFar ⟨Nat.le_of_ble_eq_true rfl, Nat.le_of_ble_eq_true rfl⟩ hl.1 rfl (Nat.le_of_ble_eq_true rfl) dX8_never_24) hG (fun r24 st24 H locs hw hG => ?_)
      refine lv_goto (tgt := 37) hx hb dX8_never_27 (by decide) ?_
      exact r_iret hx hb hr hlk hK hG rfl hw dX8_never_37
  · replace hw := hw.2 hc
    refine lv_aload_n hx hb dX8_never_10 rfl (lv_at hl 1 rfl) ?_
    refine lv_iload_n hx hb dX8_never_11 rfl (lv_at hl 0 rfl) ?_
    refine r_ki (r_run_V (k := 0) (As := [.int r2]) (rest := []) hx hb hml hown hts hK hN hG (c_X8_refused l y r2 st2 _ hw) (by decide) rfl rfl rfl qM_X8_74 qI_X8_refused qS_X8_refused qN_X8 qC_X8_refused hd_X8_refused ⟨Nat.le_of_ble_eq_true rfl, Nat.le_of_ble_eq_true rfl⟩ hl.1 rfl (Nat.le_of_ble_eq_true rfl) dX8_never_12) hG (fun r12 st12 H locs hw hG => ?_)
    exact r_iret hx hb hr hlk hK hG rfl hw dX8_never_15
set_option maxRecDepth 100000 in
set_option maxHeartbeats 4000000 in
theorem z_X8_insult_b17 {p : Program} {e : Env} {s : State} {m : MethodId} {args : Array Value} {below : List Frame} {meth : Method} {c : Code} (l : Launch) (y : Sy) (x1 : Int32) (x2 : Int32) (x3 : Int32) (C : Sd p s m args meth c cX8_insult 6 RX8 (some .int) y)  (K : Int32 → St → Prop)  (s0 : Int32) (st : St) {H : Heap} {locs : List Loc} {ls : Array Slot} (hG : gH 107 enX y st s H locs) (hl : lv_has ls 6 [(0, .ref (ad y 0)), (1, .int x1), (2, .int x2), (3, .int x3)]) (hw : w_X8_insult_b17 x1 x2 x3  K s0 st) : W p l e (rmm 5 119) s m args below meth c H locs 0 0 (MQ below (va_Qi K (gB 107 enX y) (gA 107 y)) args s 0 0 (gA 107 y)) (F0 m 17 ls [.int s0]) := by
  obtain ⟨hx, hb, hml, hown, hts, hr, hlk, hK, hN⟩ := id C
  unfold w_X8_insult_b17 at hw
  refine lv_istore (lv' := [(4, .int s0), (0, .ref (ad y 0)), (1, .int x1), (2, .int x2), (3, .int x3)]) hx hb dX8_insult_17 hl (Nat.le_of_ble_eq_true rfl) rfl (fun ls hl => ?_)
  refine lv_aload_n hx hb dX8_insult_19 rfl (lv_at hl 1 rfl) ?_
  refine lv_iload_n hx hb dX8_insult_20 rfl (lv_at hl 2 rfl) ?_
  refine lv_iload_n hx hb dX8_insult_21 rfl (lv_at hl 3 rfl) ?_
  refine r_ki (r_run_V (k := 0) (As := [.int x1, .int x2]) (rest := []) hx hb hml hown hts hK hN hG (c_X8_twoRefusal l y x1 x2 st _ hw) (by decide) rfl rfl rfl qM_X8_135 qI_X8_twoRefusal qS_X8_twoRefusal qN_X8 qC_X8_twoRefusal hd_X8_twoRefusal ⟨Nat.le_of_ble_eq_true rfl, Nat.le_of_ble_eq_true rfl⟩ hl.1 rfl (Nat.le_of_ble_eq_true rfl) dX8_insult_22) hG (fun r22 st22 H locs hw hG => ?_)
  refine lv_aload_n hx hb dX8_insult_25 rfl (lv_at hl 1 rfl) ?_
  refine lv_iload_n hx hb dX8_insult_26 rfl (lv_at hl 4 rfl) ?_
  refine r_ki (r_run_V (k := 0) (As := [.int x3]) (rest := [.int r22]) hx hb hml hown hts hK hN hG (c_X8_letterRefusal l y x3 st22 _ hw) (by decide) rfl rfl rfl qM_X8_119 qI_X8_letterRefusal qS_X8_letterRefusal qN_X8 qC_X8_letterRefusal hd_X8_letterRefusal ⟨Nat.le_of_ble_eq_true rfl, Nat.le_of_ble_eq_true rfl⟩ hl.1 rfl (Nat.le_of_ble_eq_true rfl) dX8_insult_27) hG (fun r27 st27 H locs hw hG => ?_)
  refine lv_iload hx hb dX8_insult_30 (lv_at hl 0 rfl) ?_
  refine r_ki (r_run_S (As := [.int r22, .int r27, .int s0]) (rest := []) hx hb hml hown hts hK hN hG (c_X8_firstOf l y r22 r27 s0 st27 _ hw) qM_X8_71 qT_X8_firstOf qN_X8 qC_X8_firstOf hd_X8_firstOf ⟨Nat.le_of_ble_eq_true rfl, Nat.le_of_ble_eq_true rfl⟩ hl.1 rfl (Nat.le_of_ble_eq_true rfl) dX8_insult_32) hG (fun r32 st32 H locs hw hG => ?_)
  refine lv_istore (lv' := [(5, .int r32), (4, .int s0), (0, .ref (ad y 0)), (1, .int x1), (2, .int x2), (3, .int x3)]) hx hb dX8_insult_35 hl (Nat.le_of_ble_eq_true rfl) rfl (fun ls hl => ?_)
  refine lv_iload hx hb dX8_insult_37 (lv_at hl 0 rfl) ?_
  refine lv_if_eq (tgt := 51) hx hb dX8_insult_39 (by decide) (fun hc => ?_) (fun hc => ?_)
  · replace hw := hw.1 hc
    refine lv_aload_n hx hb dX8_insult_51 rfl (lv_at hl 2 rfl) ?_
    refine r_get (C := RX8) (T := TX8) (Nf := 10) hx hb hts hown hK hG (by decide) rfl rfl inX8 8 (by decide) qF_X8_59 rfl dX8_insult_52 ?_
    refine lv_iload_n hx hb dX8_insult_55 rfl (lv_at hl 3 rfl) ?_
    refine lv_iload_n hx hb dX8_insult_56 rfl (lv_at hl 4 rfl) ?_
    refine lv_iload_n hx hb dX8_insult_57 rfl (lv_at hl 5 rfl) ?_
    refine r_ki (r_run_V (k := 10) (As := [.int x1, .int x2, .int x3]) (rest := []) hx hb hml hown hts hK hN hG (c_X4_leastInsult l y x1 x2 x3 st32 _ hw) (by decide) rfl rfl rfl qM_X8_237 qI_X4_leastInsult qS_X4_leastInsult qN_X4 qC_X4_leastInsult hd_X4_leastInsult ⟨Nat.le_of_ble_eq_true rfl, Nat.le_of_ble_eq_true rfl⟩ hl.1 rfl (Nat.le_of_ble_eq_true rfl) dX8_insult_58) hG (fun r58 st58 H locs hw hG => ?_)
    exact r_iret hx hb hr hlk hK hG rfl hw dX8_insult_61
  · replace hw := hw.2 hc
    refine lv_aload_n hx hb dX8_insult_42 rfl (lv_at hl 2 rfl) ?_
    refine lv_iload hx hb dX8_insult_43 (lv_at hl 0 rfl) ?_
    refine r_ki (r_run_V (k := 0) (As := [.int r32]) (rest := []) hx hb hml hown hts hK hN hG (c_X8_refused l y r32 st32 _ hw) (by decide) rfl rfl rfl qM_X8_74 qI_X8_refused qS_X8_refused qN_X8 qC_X8_refused hd_X8_refused ⟨Nat.le_of_ble_eq_true rfl, Nat.le_of_ble_eq_true rfl⟩ hl.1 rfl (Nat.le_of_ble_eq_true rfl) dX8_insult_45) hG (fun r45 st45 H locs hw hG => ?_)
    refine lv_goto (tgt := 61) hx hb dX8_insult_48 (by decide) ?_
    exact r_iret hx hb hr hlk hK hG rfl hw dX8_insult_61
theorem hd_X8_insult : yX8_insult.cls ≠ "java/lang/invoke/MethodHandle" ∧ yX8_insult.cls ≠ "java/lang/invoke/VarHandle" ∧ (parseMethodDescriptor yX8_insult.desc).map (fun d => d.parameters.length) = some 3 := by decide +kernel
set_option maxRecDepth 100000 in
set_option maxHeartbeats 4000000 in
theorem c_X8_insult (l : Launch) (y : Sy) (x1 : Int32) (x2 : Int32) (x3 : Int32) (st : St) (K : Int32 → St → Prop) (hw : w_X8_insult x1 x2 x3 st K) : Ci 107 enX l yX8_insult cX8_insult 6 (some .int) 5 119 y [.ref (ad y 0), .int x1, .int x2, .int x3] st K := by
  refine ent (by decide) (Nat.le_of_ble_eq_true rfl) ?_
  intro p e s m below meth c C hG ls hl
  have hl : lv_has ls 6 [(0, .ref (ad y 0)), (1, .int x1), (2, .int x2), (3, .int x3)] := hl
  generalize ([.ref (ad y 0), .int x1, .int x2, .int x3] : List Value).toArray = args at C ⊢
  have C : Sd p s m args meth c cX8_insult 6 RX8 (some .int) y := C
  obtain ⟨hx, hb, hml, hown, hts, hr, hlk, hK, hN⟩ := id C
  generalize s.heap = H at hG ⊢
  generalize ([] : List Loc) = locs at hG ⊢
  unfold w_X8_insult at hw
  refine lv_aload_n hx hb dX8_insult_0 rfl (lv_at hl 0 rfl) ?_
  refine r_get (C := RX8) (T := TX8) (Nf := 10) hx hb hts hown hK hG (by decide) rfl rfl inX8 0 (by decide) qF_X8_44 rfl dX8_insult_1 ?_
  refine lv_iload_n hx hb dX8_insult_4 rfl (lv_at hl 3 rfl) ?_
  refine r_ki (r_run_V (k := 11) (As := [.int x3]) (rest := []) hx hb hml hown hts hK hN hG (c_X1_isOpen l y 11 isC_11 x3 st _ hw) (isC.lt isC_11) (isC.e isC_11 y _) rfl rfl qM_X8_128 qI_X1_isOpen qS_X1_isOpen qN_X1 qC_X1_isOpen hd_X1_isOpen ⟨Nat.le_of_ble_eq_true rfl, Nat.le_of_ble_eq_true rfl⟩ hl.1 rfl (Nat.le_of_ble_eq_true rfl) dX8_insult_5) hG (fun r5 st5 H locs hw hG => ?_)
  refine lv_if_eq (tgt := 16) hx hb dX8_insult_8 (by decide) (fun hc => ?_) (fun hc => ?_)
  · replace hw := hw.1 hc
    refine lv_iconst (v := 0) hx hb dX8_insult_16 (by decide) ?_
    exact z_X8_insult_b17 l y x1 x2 x3 C  K  0 st5 hG (lv_sub hl [0, 1, 2, 3] rfl) hw
  · replace hw := hw.2 hc
    refine lv_bipush (v := (-3)) hx hb dX8_insult_11 (by decide) ?_
    refine lv_goto (tgt := 17) hx hb dX8_insult_13 (by decide) ?_
    exact z_X8_insult_b17 l y x1 x2 x3 C  K  (-3) st5 hG (lv_sub hl [0, 1, 2, 3] rfl) hw
theorem hd_X8_used : yX8_used.cls ≠ "java/lang/invoke/MethodHandle" ∧ yX8_used.cls ≠ "java/lang/invoke/VarHandle" ∧ (parseMethodDescriptor yX8_used.desc).map (fun d => d.parameters.length) = some 3 := by decide +kernel
set_option maxRecDepth 100000 in
set_option maxHeartbeats 4000000 in
theorem c_X8_used (l : Launch) (y : Sy) (x1 : Int32) (x2 : Int32) (x3 : Int32) (st : St) (K : Int32 → St → Prop) (hw : w_X8_used x1 x2 x3 st K) : Ci 107 enX l yX8_used cX8_used 5 (some .int) 6 140 y [.ref (ad y 0), .int x1, .int x2, .int x3] st K := by
  refine ent (by decide) (Nat.le_of_ble_eq_true rfl) ?_
  intro p e s m below meth c C hG ls hl
  have hl : lv_has ls 5 [(0, .ref (ad y 0)), (1, .int x1), (2, .int x2), (3, .int x3)] := hl
  generalize ([.ref (ad y 0), .int x1, .int x2, .int x3] : List Value).toArray = args at C ⊢
  have C : Sd p s m args meth c cX8_used 5 RX8 (some .int) y := C
  obtain ⟨hx, hb, hml, hown, hts, hr, hlk, hK, hN⟩ := id C
  generalize s.heap = H at hG ⊢
  generalize ([] : List Loc) = locs at hG ⊢
  unfold w_X8_used at hw
  refine lv_aload_n hx hb dX8_used_0 rfl (lv_at hl 0 rfl) ?_
  refine lv_iload_n hx hb dX8_used_1 rfl (lv_at hl 1 rfl) ?_
  refine lv_iload_n hx hb dX8_used_2 rfl (lv_at hl 2 rfl) ?_
  refine r_ki (r_run_V (k := 0) (As := [.int x1, .int x2]) (rest := []) hx hb hml hown hts hK hN hG (c_X8_twoRefusal l y x1 x2 st _ hw) (by decide) rfl rfl rfl qM_X8_135 qI_X8_twoRefusal qS_X8_twoRefusal qN_X8 qC_X8_twoRefusal hd_X8_twoRefusal ⟨Nat.le_of_ble_eq_true rfl, Nat.le_of_ble_eq_true rfl⟩ hl.1 rfl (Nat.le_of_ble_eq_true rfl) dX8_used_3) hG (fun r3 st3 H locs hw hG => ?_)
  refine lv_iload_n hx hb dX8_used_6 rfl (lv_at hl 3 rfl) ?_
  refine lv_iconst (v := 0) hx hb dX8_used_7 (by decide) ?_
  refine lv_bipush (v := 60) hx hb dX8_used_8 (by decide) ?_
  refine r_ki (r_run_S (As := [.int x3, .int 0, .int 60]) (rest := [.int r3]) hx hb hml hown hts hK hN hG (c_X8_range l y x3 0 60 st3 _ hw) qM_X8_63 qT_X8_range qN_X8 qC_X8_range hd_X8_range ⟨Nat.le_of_ble_eq_true rfl, Nat.le_of_ble_eq_true rfl⟩ hl.1 rfl (Nat.le_of_ble_eq_true rfl) dX8_used_10) hG (fun r10 st10 H locs hw hG => ?_)
  refine lv_iconst (v := 0) hx hb dX8_used_13 (by decide) ?_
  refine r_ki (r_run_S (As := [.int r3, .int r10, .int 0]) (rest := []) hx hb hml hown hts hK hN hG (c_X8_firstOf l y r3 r10 0 st10 _ hw) qM_X8_71 qT_X8_firstOf qN_X8 qC_X8_firstOf hd_X8_firstOf ⟨Nat.le_of_ble_eq_true rfl, Nat.le_of_ble_eq_true rfl⟩ hl.1 rfl (Nat.le_of_ble_eq_true rfl) dX8_used_14) hG (fun r14 st14 H locs hw hG => ?_)
  refine lv_istore (lv' := [(4, .int r14), (0, .ref (ad y 0)), (1, .int x1), (2, .int x2), (3, .int x3)]) hx hb dX8_used_17 hl (Nat.le_of_ble_eq_true rfl) rfl (fun ls hl => ?_)
  refine lv_iload hx hb dX8_used_19 (lv_at hl 0 rfl) ?_
  refine lv_if_eq (tgt := 34) hx hb dX8_used_21 (by decide) (fun hc => ?_) (fun hc => ?_)
  · replace hw := hw.1 hc
    refine lv_aload_n hx hb dX8_used_34 rfl (lv_at hl 1 rfl) ?_
    refine r_get (C := RX8) (T := TX8) (Nf := 10) hx hb hts hown hK hG (by decide) rfl rfl inX8 0 (by decide) qF_X8_44 rfl dX8_used_35 ?_
    refine lv_iload_n hx hb dX8_used_38 rfl (lv_at hl 2 rfl) ?_
    refine lv_iload_n hx hb dX8_used_39 rfl (lv_at hl 3 rfl) ?_
    refine r_ki (r_run_V (k := 11) (As := [.int x1, .int x2]) (rest := []) hx hb hml hown hts hK hN hG (c_X1_hateOf l y 11 isC_11 x1 x2 st14 _ hw) (isC.lt isC_11) (isC.e isC_11 y _) rfl rfl qM_X8_138 qI_X1_hateOf qS_X1_hateOf qN_X1 qC_X1_hateOf hd_X1_hateOf ⟨Nat.le_of_ble_eq_true rfl, Nat.le_of_ble_eq_true rfl⟩ hl.1 rfl (Nat.le_of_ble_eq_true rfl) dX8_used_40) hG (fun r40 st40 H locs hw hG => ?_)
    refine lv_aload_n hx hb dX8_used_43 rfl (lv_at hl 1 rfl) ?_
    refine r_get (C := RX8) (T := TX8) (Nf := 10) hx hb hts hown hK hG (by decide) rfl rfl inX8 8 (by decide) qF_X8_59 rfl dX8_used_44 ?_
    refine lv_iload_n hx hb dX8_used_47 rfl (lv_at hl 2 rfl) ?_
    refine lv_iload_n hx hb dX8_used_48 rfl (lv_at hl 3 rfl) ?_
    refine lv_iload_n hx hb dX8_used_49 rfl (lv_at hl 4 rfl) ?_
    refine r_ki (r_run_V (k := 10) (As := [.int x1, .int x2, .int x3]) (rest := [.int r40]) hx hb hml hown hts hK hN hG (c_X4_hateAfter l y x1 x2 x3 st40 _ hw) (by decide) rfl rfl rfl qM_X8_213 qI_X4_hateAfter qS_X4_hateAfter qN_X4 qC_X4_hateAfter hd_X4_hateAfter ⟨Nat.le_of_ble_eq_true rfl, Nat.le_of_ble_eq_true rfl⟩ hl.1 rfl (Nat.le_of_ble_eq_true rfl) dX8_used_50) hG (fun r50 st50 H locs hw hG => ?_)
    refine lv_isub hx hb dX8_used_53 ?_
    exact r_iret hx hb hr hlk hK hG rfl hw dX8_used_54
  · replace hw := hw.2 hc
    refine lv_ldc (v := 1000000000) hx hb hown (hts _ qK_X8_240) dX8_used_24 ?_
    refine lv_aload_n hx hb dX8_used_26 rfl (lv_at hl 1 rfl) ?_
    refine lv_iload hx hb dX8_used_27 (lv_at hl 0 rfl) ?_
    refine r_ki (r_run_V (k := 0) (As := [.int r14]) (rest := [.int 1000000000]) hx hb hml hown hts hK hN hG (c_X8_refused l y r14 st14 _ hw) (by decide) rfl rfl rfl qM_X8_74 qI_X8_refused qS_X8_refused qN_X8 qC_X8_refused hd_X8_refused ⟨Nat.le_of_ble_eq_true rfl, Nat.le_of_ble_eq_true rfl⟩ hl.1 rfl (Nat.le_of_ble_eq_true rfl) dX8_used_29) hG (fun r29 st29 H locs hw hG => ?_)
    refine lv_isub hx hb dX8_used_32 ?_
    exact r_iret hx hb hr hlk hK hG rfl hw dX8_used_33
theorem hd_X8_apart : yX8_apart.cls ≠ "java/lang/invoke/MethodHandle" ∧ yX8_apart.cls ≠ "java/lang/invoke/VarHandle" ∧ (parseMethodDescriptor yX8_apart.desc).map (fun d => d.parameters.length) = some 1 := by decide +kernel
set_option maxRecDepth 100000 in
set_option maxHeartbeats 4000000 in
theorem c_X8_apart (l : Launch) (y : Sy) (x1 : Int32) (st : St) (K : Int32 → St → Prop) (hw : w_X8_apart x1 st K) : Ci 107 enX l yX8_apart cX8_apart 3 (some .int) 5 118 y [.ref (ad y 0), .int x1] st K := by
  refine ent (by decide) (Nat.le_of_ble_eq_true rfl) ?_
  intro p e s m below meth c C hG ls hl
  have hl : lv_has ls 3 [(0, .ref (ad y 0)), (1, .int x1)] := hl
  generalize ([.ref (ad y 0), .int x1] : List Value).toArray = args at C ⊢
  have C : Sd p s m args meth c cX8_apart 3 RX8 (some .int) y := C
  obtain ⟨hx, hb, hml, hown, hts, hr, hlk, hK, hN⟩ := id C
  generalize s.heap = H at hG ⊢
  generalize ([] : List Loc) = locs at hG ⊢
  unfold w_X8_apart at hw
  refine lv_iload_n hx hb dX8_apart_0 rfl (lv_at hl 1 rfl) ?_
  refine lv_iconst (v := 0) hx hb dX8_apart_1 (by decide) ?_
  refine lv_bipush (v := 60) hx hb dX8_apart_2 (by decide) ?_
  refine r_ki (r_run_S (As := [.int x1, .int 0, .int 60]) (rest := []) hx hb hml hown hts hK hN hG (c_X8_range l y x1 0 60 st _ hw) qM_X8_63 qT_X8_range qN_X8 qC_X8_range hd_X8_range ⟨Nat.le_of_ble_eq_true rfl, Nat.le_of_ble_eq_true rfl⟩ hl.1 rfl (Nat.le_of_ble_eq_true rfl) dX8_apart_4) hG (fun r4 st4 H locs hw hG => ?_)
  refine lv_istore_n (lv' := [(2, .int r4), (0, .ref (ad y 0)), (1, .int x1)]) hx hb dX8_apart_7 rfl hl (Nat.le_of_ble_eq_true rfl) rfl (fun ls hl => ?_)
  refine lv_iload_n hx hb dX8_apart_8 rfl (lv_at hl 0 rfl) ?_
  refine lv_if_eq (tgt := 20) hx hb dX8_apart_9 (by decide) (fun hc => ?_) (fun hc => ?_)
  · replace hw := hw.1 hc
    refine lv_aload_n hx hb dX8_apart_20 rfl (lv_at hl 1 rfl) ?_
    refine r_get (C := RX8) (T := TX8) (Nf := 10) hx hb hts hown hK hG (by decide) rfl rfl inX8 8 (by decide) qF_X8_59 rfl dX8_apart_21 ?_
    refine lv_iload_n hx hb dX8_apart_24 rfl (lv_at hl 2 rfl) ?_
    refine r_ki (r_run_V (k := 10) (As := [.int x1]) (rest := []) hx hb hml hown hts hK hN hG (c_X4_idleWeeks l y x1 st4 _ hw) (by decide) rfl rfl rfl qM_X8_241 qI_X4_idleWeeks qS_X4_idleWeeks qN_X4 qC_X4_idleWeeks hd_X4_idleWeeks ⟨Nat.le_of_ble_eq_true rfl, Nat.le_of_ble_eq_true rfl⟩ hl.1 rfl (Nat.le_of_ble_eq_true rfl) dX8_apart_25) hG (fun r25 st25 H locs hw hG => ?_)
    exact r_iret hx hb hr hlk hK hG rfl hw dX8_apart_28
  · replace hw := hw.2 hc
    refine lv_aload_n hx hb dX8_apart_12 rfl (lv_at hl 1 rfl) ?_
    refine lv_iload_n hx hb dX8_apart_13 rfl (lv_at hl 0 rfl) ?_
    refine r_ki (r_run_V (k := 0) (As := [.int r4]) (rest := []) hx hb hml hown hts hK hN hG (c_X8_refused l y r4 st4 _ hw) (by decide) rfl rfl rfl qM_X8_74 qI_X8_refused qS_X8_refused qN_X8 qC_X8_refused hd_X8_refused ⟨Nat.le_of_ble_eq_true rfl, Nat.le_of_ble_eq_true rfl⟩ hl.1 rfl (Nat.le_of_ble_eq_true rfl) dX8_apart_14) hG (fun r14 st14 H locs hw hG => ?_)
    refine lv_goto (tgt := 28) hx hb dX8_apart_17 (by decide) ?_
    exact r_iret hx hb hr hlk hK hG rfl hw dX8_apart_28
