/-! the constructors -/
def cW (y : Sy) (a : Nat → Nat) : va_W := [(a 0, .inr (0, [.ref (a 1), .ref (a 2), .ref (a 3), .ref (a 4), .ref (a 5), .ref (a 6), .ref (a 7), .int 0, .int 0, .int 0, .int 0])), (a 1, eA y 6 zr), (a 2, eA y 6 zr), (a 3, eA y 6 zr), (a 4, eA y 36 zr), (a 5, eA y 6 zr), (a 6, eA y 6 zr), (a 7, eA y 6 zr)]
def pW (y : Sy) (b : Nat → Nat → Nat) : Nat → va_W
  | 0 => []
  | i + 1 => pW y b i ++ cW y (b i)
theorem pW_cg {y : Sy} {b b2 : Nat → Nat → Nat} : ∀ i : Nat, (∀ j, j < i → b j = b2 j) → pW y b i = pW y b2 i
  | 0, _ => rfl
  | i + 1, h => by
    show pW y b i ++ cW y (b i) = pW y b2 i ++ cW y (b2 i)
    rw [pW_cg i (fun j hj => h j (by omega)), h i (by omega)]
def mW (y : Sy) (a : Nat → Nat) : va_W := [(a 0, .inr (7, [.ref (a 1), .ref (a 2), .ref (a 3), .ref (a 4), .ref (a 5), .ref (a 6), .ref (a 7), .ref (a 8), .int 0, .int 0, .int 0, .int 0, .ref (a 9), .ref (a 10), .ref (a 11), .ref (a 12), .int 0, .int 0, .int 0, .ref (a 13), .int 0, .int 0, .int 0, .int 0, .ref (a 14), .int 0, .int 0, .ref (a 15), .ref (a 16), .int 0, .int 0])), (a 1, eA y 7 zr), (a 2, eA y 6 zr), (a 3, eA y 6 zr), (a 4, eA y 6 zr), (a 5, eA y 36 zr), (a 6, eA y 6 zr), (a 7, eA y 6 zr), (a 8, eA y 6 zr), (a 9, eA y 96 zr), (a 10, eA y 48 zr), (a 11, eA y 48 zr), (a 12, eA y 144 zr), (a 13, eA y 825 zr), (a 14, eA y 6 zr), (a 15, eA y 64 zr), (a 16, eA y 12 zr)]
theorem hd_X1_init : yX1_init.cls ≠ "java/lang/invoke/MethodHandle" ∧ yX1_init.cls ≠ "java/lang/invoke/VarHandle" ∧ (parseMethodDescriptor yX1_init.desc).map (fun d => d.parameters.length) = some 0 := by decide +kernel
theorem hd_X3_init : yX3_init.cls ≠ "java/lang/invoke/MethodHandle" ∧ yX3_init.cls ≠ "java/lang/invoke/VarHandle" ∧ (parseMethodDescriptor yX3_init.desc).map (fun d => d.parameters.length) = some 1 := by decide +kernel
theorem hd_X4_init : yX4_init.cls ≠ "java/lang/invoke/MethodHandle" ∧ yX4_init.cls ≠ "java/lang/invoke/VarHandle" ∧ (parseMethodDescriptor yX4_init.desc).map (fun d => d.parameters.length) = some 1 := by decide +kernel
theorem hd_X5_init : yX5_init.cls ≠ "java/lang/invoke/MethodHandle" ∧ yX5_init.cls ≠ "java/lang/invoke/VarHandle" ∧ (parseMethodDescriptor yX5_init.desc).map (fun d => d.parameters.length) = some 0 := by decide +kernel
theorem hd_X6_init : yX6_init.cls ≠ "java/lang/invoke/MethodHandle" ∧ yX6_init.cls ≠ "java/lang/invoke/VarHandle" ∧ (parseMethodDescriptor yX6_init.desc).map (fun d => d.parameters.length) = some 0 := by decide +kernel
theorem hd_X7_init : yX7_init.cls ≠ "java/lang/invoke/MethodHandle" ∧ yX7_init.cls ≠ "java/lang/invoke/VarHandle" ∧ (parseMethodDescriptor yX7_init.desc).map (fun d => d.parameters.length) = some 0 := by decide +kernel
theorem hd_X8_init : yX8_init.cls ≠ "java/lang/invoke/MethodHandle" ∧ yX8_init.cls ≠ "java/lang/invoke/VarHandle" ∧ (parseMethodDescriptor yX8_init.desc).map (fun d => d.parameters.length) = some 0 := by decide +kernel
theorem hd_X9_init : yX9_init.cls ≠ "java/lang/invoke/MethodHandle" ∧ yX9_init.cls ≠ "java/lang/invoke/VarHandle" ∧ (parseMethodDescriptor yX9_init.desc).map (fun d => d.parameters.length) = some 0 := by decide +kernel
set_option maxRecDepth 100000 in
set_option maxHeartbeats 4000000 in
theorem c_X1_init (l : Launch) (y : Sy) (h0 sz : Nat) : CN l yX1_init cX1_init 1 1 12 7 72 y sz [.ref h0] [(h0, .inr (0, [.null, .null, .null, .null, .null, .null, .null, .int 0, .int 0, .int 0, .int 0]))] (fun w => ∃ a : Nat → Nat, a 0 = h0 ∧ w = cW y a) := by
  refine entN (by decide) rfl (Nat.le_of_ble_eq_true rfl) ?_
  intro p e s m below meth c hz C hG ls hl
  have hl : lv_has ls 1 [(0, .ref h0)] := hl
  generalize ([.ref h0] : List Value).toArray = args at C ⊢
  generalize va_A [(h0, .inr (0, [.null, .null, .null, .null, .null, .null, .null, .int 0, .int 0, .int 0, .int 0]))] sz = A at C hG ⊢
  have C : Sn p s m args meth c cX1_init 1 RX1 y A := C
  obtain ⟨hx, hb, hml, hown, hts, hr, hlk, hK, hN⟩ := id C.1
  refine lv_aload_n hx hb dX1_init_0 rfl (lv_at hl 0 rfl) ?_
  refine n_obj C hl.1 qM_X1_3 dX1_init_1 (Nat.le_of_ble_eq_true rfl) (Nat.le_of_ble_eq_true rfl) ?_
  refine lv_aload_n hx hb dX1_init_4 rfl (lv_at hl 0 rfl) ?_
  refine lv_bipush (v := 6) hx hb dX1_init_5 (by decide) ?_
  refine n_newi C hG (N' := 6) (by decide) (by decide) (Nat.le_of_ble_eq_true rfl) (Nat.le_of_ble_eq_true rfl) (Nat.le_of_ble_eq_true rfl) dX1_init_7 (fun q1 H hG => ?_)
  refine n_putF (T := TX1) (Nf := 11) (ci := 0) C hG inX1 tyX1 tyX1_ok nmX1 0 rfl rfl 0 (by decide) qF_X1_9 rfl rfl rfl rfl rfl (Nat.le_of_ble_eq_true rfl) dX1_init_9 (fun H locs hG => ?_)
  have hG : gN y A ((h0, .inr (0, [.ref q1, .null, .null, .null, .null, .null, .null, .int 0, .int 0, .int 0, .int 0])) :: [(q1, eA y 6 zr)]) s H locs := hG
  refine lv_aload_n hx hb dX1_init_12 rfl (lv_at hl 0 rfl) ?_
  refine lv_bipush (v := 6) hx hb dX1_init_13 (by decide) ?_
  refine n_newi C hG (N' := 6) (by decide) (by decide) (Nat.le_of_ble_eq_true rfl) (Nat.le_of_ble_eq_true rfl) (Nat.le_of_ble_eq_true rfl) dX1_init_15 (fun q2 H hG => ?_)
  refine n_putF (T := TX1) (Nf := 11) (ci := 0) C hG inX1 tyX1 tyX1_ok nmX1 0 rfl rfl 1 (by decide) qF_X1_15 rfl rfl rfl rfl rfl (Nat.le_of_ble_eq_true rfl) dX1_init_17 (fun H locs hG => ?_)
  have hG : gN y A ((h0, .inr (0, [.ref q1, .ref q2, .null, .null, .null, .null, .null, .int 0, .int 0, .int 0, .int 0])) :: [(q1, eA y 6 zr), (q2, eA y 6 zr)]) s H locs := hG
  refine lv_aload_n hx hb dX1_init_20 rfl (lv_at hl 0 rfl) ?_
  refine lv_bipush (v := 6) hx hb dX1_init_21 (by decide) ?_
  refine n_newi C hG (N' := 6) (by decide) (by decide) (Nat.le_of_ble_eq_true rfl) (Nat.le_of_ble_eq_true rfl) (Nat.le_of_ble_eq_true rfl) dX1_init_23 (fun q3 H hG => ?_)
  refine n_putF (T := TX1) (Nf := 11) (ci := 0) C hG inX1 tyX1 tyX1_ok nmX1 0 rfl rfl 2 (by decide) qF_X1_18 rfl rfl rfl rfl rfl (Nat.le_of_ble_eq_true rfl) dX1_init_25 (fun H locs hG => ?_)
  have hG : gN y A ((h0, .inr (0, [.ref q1, .ref q2, .ref q3, .null, .null, .null, .null, .int 0, .int 0, .int 0, .int 0])) :: [(q1, eA y 6 zr), (q2, eA y 6 zr), (q3, eA y 6 zr)]) s H locs := hG
  refine lv_aload_n hx hb dX1_init_28 rfl (lv_at hl 0 rfl) ?_
  refine lv_bipush (v := 36) hx hb dX1_init_29 (by decide) ?_
  refine n_newi C hG (N' := 36) (by decide) (by decide) (Nat.le_of_ble_eq_true rfl) (Nat.le_of_ble_eq_true rfl) (Nat.le_of_ble_eq_true rfl) dX1_init_31 (fun q4 H hG => ?_)
  refine n_putF (T := TX1) (Nf := 11) (ci := 0) C hG inX1 tyX1 tyX1_ok nmX1 0 rfl rfl 3 (by decide) qF_X1_21 rfl rfl rfl rfl rfl (Nat.le_of_ble_eq_true rfl) dX1_init_33 (fun H locs hG => ?_)
  have hG : gN y A ((h0, .inr (0, [.ref q1, .ref q2, .ref q3, .ref q4, .null, .null, .null, .int 0, .int 0, .int 0, .int 0])) :: [(q1, eA y 6 zr), (q2, eA y 6 zr), (q3, eA y 6 zr), (q4, eA y 36 zr)]) s H locs := hG
  refine lv_aload_n hx hb dX1_init_36 rfl (lv_at hl 0 rfl) ?_
  refine lv_bipush (v := 6) hx hb dX1_init_37 (by decide) ?_
  refine n_newi C hG (N' := 6) (by decide) (by decide) (Nat.le_of_ble_eq_true rfl) (Nat.le_of_ble_eq_true rfl) (Nat.le_of_ble_eq_true rfl) dX1_init_39 (fun q5 H hG => ?_)
  refine n_putF (T := TX1) (Nf := 11) (ci := 0) C hG inX1 tyX1 tyX1_ok nmX1 0 rfl rfl 4 (by decide) qF_X1_24 rfl rfl rfl rfl rfl (Nat.le_of_ble_eq_true rfl) dX1_init_41 (fun H locs hG => ?_)
  have hG : gN y A ((h0, .inr (0, [.ref q1, .ref q2, .ref q3, .ref q4, .ref q5, .null, .null, .int 0, .int 0, .int 0, .int 0])) :: [(q1, eA y 6 zr), (q2, eA y 6 zr), (q3, eA y 6 zr), (q4, eA y 36 zr), (q5, eA y 6 zr)]) s H locs := hG
  refine lv_aload_n hx hb dX1_init_44 rfl (lv_at hl 0 rfl) ?_
  refine lv_bipush (v := 6) hx hb dX1_init_45 (by decide) ?_
  refine n_newi C hG (N' := 6) (by decide) (by decide) (Nat.le_of_ble_eq_true rfl) (Nat.le_of_ble_eq_true rfl) (Nat.le_of_ble_eq_true rfl) dX1_init_47 (fun q6 H hG => ?_)
  refine n_putF (T := TX1) (Nf := 11) (ci := 0) C hG inX1 tyX1 tyX1_ok nmX1 0 rfl rfl 5 (by decide) qF_X1_27 rfl rfl rfl rfl rfl (Nat.le_of_ble_eq_true rfl) dX1_init_49 (fun H locs hG => ?_)
  have hG : gN y A ((h0, .inr (0, [.ref q1, .ref q2, .ref q3, .ref q4, .ref q5, .ref q6, .null, .int 0, .int 0, .int 0, .int 0])) :: [(q1, eA y 6 zr), (q2, eA y 6 zr), (q3, eA y 6 zr), (q4, eA y 36 zr), (q5, eA y 6 zr), (q6, eA y 6 zr)]) s H locs := hG
  refine lv_aload_n hx hb dX1_init_52 rfl (lv_at hl 0 rfl) ?_
  refine lv_bipush (v := 6) hx hb dX1_init_53 (by decide) ?_
  refine n_newi C hG (N' := 6) (by decide) (by decide) (Nat.le_of_ble_eq_true rfl) (Nat.le_of_ble_eq_true rfl) (Nat.le_of_ble_eq_true rfl) dX1_init_55 (fun q7 H hG => ?_)
  refine n_putF (T := TX1) (Nf := 11) (ci := 0) C hG inX1 tyX1 tyX1_ok nmX1 0 rfl rfl 6 (by decide) qF_X1_30 rfl rfl rfl rfl rfl (Nat.le_of_ble_eq_true rfl) dX1_init_57 (fun H locs hG => ?_)
  have hG : gN y A ((h0, .inr (0, [.ref q1, .ref q2, .ref q3, .ref q4, .ref q5, .ref q6, .ref q7, .int 0, .int 0, .int 0, .int 0])) :: [(q1, eA y 6 zr), (q2, eA y 6 zr), (q3, eA y 6 zr), (q4, eA y 36 zr), (q5, eA y 6 zr), (q6, eA y 6 zr), (q7, eA y 6 zr)]) s H locs := hG
  exact n_ret C hG ⟨fun k => ([h0, q1, q2, q3, q4, q5, q6, q7] : List Nat).getD k 0, rfl, rfl⟩ dX1_init_60
set_option maxRecDepth 100000 in
set_option maxHeartbeats 4000000 in
theorem c_X3_init (l : Launch) (y : Sy) (h0 c0 sz : Nat) : CN l yX3_init cX3_init 2 1 13 1 64 y sz [.ref h0, .ref c0] [(h0, .inr (1, [.null, .null]))] (fun w => ∃ q : Nat, w = [(h0, .inr (1, [.ref c0, .ref q])), (q, eA y 64 zr)]) := by
  refine entN (by decide) rfl (Nat.le_of_ble_eq_true rfl) ?_
  intro p e s m below meth c hz C hG ls hl
  have hl : lv_has ls 2 [(0, .ref h0), (1, .ref c0)] := hl
  generalize ([.ref h0, .ref c0] : List Value).toArray = args at C ⊢
  generalize va_A [(h0, .inr (1, [.null, .null]))] sz = A at C hG ⊢
  have C : Sn p s m args meth c cX3_init 2 RX3 y A := C
  obtain ⟨hx, hb, hml, hown, hts, hr, hlk, hK, hN⟩ := id C.1
  refine lv_aload_n hx hb dX3_init_0 rfl (lv_at hl 0 rfl) ?_
  refine n_obj C hl.1 qM_X3_3 dX3_init_1 (Nat.le_of_ble_eq_true rfl) (Nat.le_of_ble_eq_true rfl) ?_
  refine lv_aload_n hx hb dX3_init_4 rfl (lv_at hl 0 rfl) ?_
  refine lv_bipush (v := 64) hx hb dX3_init_5 (by decide) ?_
  refine n_newi C hG (N' := 64) (by decide) (by decide) (Nat.le_of_ble_eq_true rfl) (Nat.le_of_ble_eq_true rfl) (Nat.le_of_ble_eq_true rfl) dX3_init_7 (fun q1 H hG => ?_)
  refine n_putF (T := TX3) (Nf := 2) (ci := 1) C hG inX3 tyX3 tyX3_ok nmX3 0 rfl rfl 1 (by decide) qF_X3_9 rfl rfl rfl rfl rfl (Nat.le_of_ble_eq_true rfl) dX3_init_9 (fun H locs hG => ?_)
  have hG : gN y A ([(h0, .inr (1, [.null, .ref q1])), (q1, eA y 64 zr)]) s H locs := hG
  refine lv_aload_n hx hb dX3_init_12 rfl (lv_at hl 0 rfl) ?_
  refine lv_aload_n hx hb dX3_init_13 rfl (lv_at hl 1 rfl) ?_
  refine n_putF (T := TX3) (Nf := 2) (ci := 1) C hG inX3 tyX3 tyX3_ok nmX3 0 rfl rfl 0 (by decide) qF_X3_15 rfl rfl rfl rfl rfl (Nat.le_of_ble_eq_true rfl) dX3_init_14 (fun H locs hG => ?_)
  have hG : gN y A ([(h0, .inr (1, [.ref c0, .ref q1])), (q1, eA y 64 zr)]) s H locs := hG
  exact n_ret C hG ⟨q1, rfl⟩ dX3_init_17
set_option maxRecDepth 100000 in
set_option maxHeartbeats 4000000 in
theorem c_X4_init (l : Launch) (y : Sy) (h0 c0 sz : Nat) : CN l yX4_init cX4_init 2 2 34 8 83 y sz [.ref h0, .ref c0] [(h0, .inr (2, [.null, .null]))] (fun w => ∃ a : Nat → Nat, w = (h0, .inr (2, [.ref c0, .ref (a 0)])) :: cW y a) := by
  refine entN (by decide) rfl (Nat.le_of_ble_eq_true rfl) ?_
  intro p e s m below meth c hz C hG ls hl
  have hl : lv_has ls 2 [(0, .ref h0), (1, .ref c0)] := hl
  generalize ([.ref h0, .ref c0] : List Value).toArray = args at C ⊢
  generalize va_A [(h0, .inr (2, [.null, .null]))] sz = A at C hG ⊢
  have C : Sn p s m args meth c cX4_init 2 RX4 y A := C
  obtain ⟨hx, hb, hml, hown, hts, hr, hlk, hK, hN⟩ := id C.1
  refine lv_aload_n hx hb dX4_init_0 rfl (lv_at hl 0 rfl) ?_
  refine n_obj C hl.1 qM_X4_3 dX4_init_1 (Nat.le_of_ble_eq_true rfl) (Nat.le_of_ble_eq_true rfl) ?_
  refine lv_aload_n hx hb dX4_init_4 rfl (lv_at hl 0 rfl) ?_
  refine n_new (CN := RX1) (T := TX1) (Nf := 11) (ci := 0) (fs := [.null, .null, .null, .null, .null, .null, .null, .int 0, .int 0, .int 0, .int 0]) C hG inX1 tyX1 tyX1_ok qL_X4_9 qB_X1 qN_X1 rfl (fun j hj => by rcases (show j = 0 ∨ j = 1 ∨ j = 2 ∨ j = 3 ∨ j = 4 ∨ j = 5 ∨ j = 6 ∨ j = 7 ∨ j = 8 ∨ j = 9 ∨ j = 10 by omega) with rfl | rfl | rfl | rfl | rfl | rfl | rfl | rfl | rfl | rfl | rfl <;> rfl) (Nat.le_of_ble_eq_true rfl) (Nat.le_of_ble_eq_true rfl) dX4_init_5 (fun q1 H hG => ?_)
  refine lv_dup hx hb dX4_init_8 rfl ?_
  refine n_callN (As := []) (rest := [.ref q1, .ref h0]) C hG (c_X1_init l y q1 H.size) qM_X4_11 qI_X1_init qN_X1 qC_X1_init rfl hd_X1_init ⟨(Nat.le_of_ble_eq_true rfl), (Nat.le_of_ble_eq_true rfl)⟩ hl.1 rfl (Nat.le_of_ble_eq_true rfl) dX4_init_9 ⟨(Nat.le_of_ble_eq_true rfl), (Nat.le_of_ble_eq_true rfl)⟩ (fun w1 H locs hw hG => ?_)
  obtain ⟨a, ha, rfl⟩ := hw
  rw [← ha]
  refine n_putF (T := TX4) (Nf := 2) (ci := 2) C hG inX4 tyX4 tyX4_ok nmX4 0 rfl rfl 1 (by decide) qF_X4_12 rfl rfl rfl rfl rfl (Nat.le_of_ble_eq_true rfl) dX4_init_12 (fun H locs hG => ?_)
  have hG : gN y A ((h0, .inr (2, [.null, .ref (a 0)])) :: cW y a) s H locs := hG
  refine lv_aload_n hx hb dX4_init_15 rfl (lv_at hl 0 rfl) ?_
  refine lv_aload_n hx hb dX4_init_16 rfl (lv_at hl 1 rfl) ?_
  refine n_putF (T := TX4) (Nf := 2) (ci := 2) C hG inX4 tyX4 tyX4_ok nmX4 0 rfl rfl 0 (by decide) qF_X4_18 rfl rfl rfl rfl rfl (Nat.le_of_ble_eq_true rfl) dX4_init_17 (fun H locs hG => ?_)
  have hG : gN y A ((h0, .inr (2, [.ref c0, .ref (a 0)])) :: cW y a) s H locs := hG
  exact n_ret C hG ⟨a, rfl⟩ dX4_init_20
set_option maxRecDepth 100000 in
set_option maxHeartbeats 4000000 in
theorem c_X5_init (l : Launch) (y : Sy) (h0 sz : Nat) : CN l yX5_init cX5_init 2 2 36 65 672 y sz [.ref h0] [(h0, .inr (3, [.null, .int 0, .int 0]))] (fun w => ∃ (e : Nat) (b : Nat → Nat → Nat), w = (h0, .inr (3, [.ref e, .int 0, .int 0])) :: (e, .inl (y.2.2.1, 8, .inr (.inr (.inr (.inr (fun j => some (b j 0))))))) :: pW y b 8) := by
  refine entN (by decide) rfl (Nat.le_of_ble_eq_true rfl) ?_
  intro p e s m below meth c hz C hG ls hl
  have hl : lv_has ls 2 [(0, .ref h0)] := hl
  generalize ([.ref h0] : List Value).toArray = args at C ⊢
  generalize va_A [(h0, .inr (3, [.null, .int 0, .int 0]))] sz = A at C hG ⊢
  have C : Sn p s m args meth c cX5_init 2 RX5 y A := C
  obtain ⟨hx, hb, hml, hown, hts, hr, hlk, hK, hN⟩ := id C.1
  refine lv_aload_n hx hb dX5_init_0 rfl (lv_at hl 0 rfl) ?_
  refine n_obj C hl.1 qM_X5_1 dX5_init_1 (Nat.le_of_ble_eq_true rfl) (Nat.le_of_ble_eq_true rfl) ?_
  refine lv_aload_n hx hb dX5_init_4 rfl (lv_at hl 0 rfl) ?_
  refine lv_bipush (v := 8) hx hb dX5_init_5 (by decide) ?_
  refine n_newq C hG (N' := 8) qL_X5_9 (by decide) (by decide) (Nat.le_of_ble_eq_true rfl) (Nat.le_of_ble_eq_true rfl) (Nat.le_of_ble_eq_true rfl) dX5_init_7 (fun eq H hG => ?_)
  refine n_putF (T := TX5) (Nf := 3) (ci := 3) C hG inX5 tyX5 tyX5_ok nmX5 0 rfl rfl 0 (by decide) qF_X5_11 rfl rfl rfl rfl rfl (Nat.le_of_ble_eq_true rfl) dX5_init_10 (fun H locs hG => ?_)
  have hG : gN y A ((h0, .inr (3, [.ref eq, .int 0, .int 0])) :: [(eq, .inl (y.2.2.1, 8, .inr (.inr (.inr (.inr (fun _ => none))))))]) s H locs := hG
  refine lv_iconst (v := 0) hx hb dX5_init_13 (by decide) ?_
  refine lv_istore_n (lv' := [(1, .int 0), (0, .ref h0)]) hx hb dX5_init_14 rfl hl (Nat.le_of_ble_eq_true rfl) rfl (fun ls hl => ?_)
  have loop : ∀ (n i : Nat), i ≤ 8 → 9 ≤ i + n → ∀ (b : Nat → Nat → Nat) (f : Nat → Option Nat), (∀ j, j < i → f j = some (b j 0)) → ∀ (H : Heap) (locs : List Loc) (ls : Array Slot), gN y A ((h0, .inr (3, [.ref eq, .int 0, .int 0])) :: (eq, .inl (y.2.2.1, 8, .inr (.inr (.inr (.inr (f)))))) :: pW y b i) s H locs → lv_has ls 2 [(1, .int (nI i)), (0, .ref h0)] →
      W p l e (rmN 2 36 65 672) s m args below meth c H locs (1 + 8 * i) (8 + 83 * i) (MQ below (va_Qv (fun w => ∃ (e : Nat) (b : Nat → Nat → Nat), w = (h0, .inr (3, [.ref e, .int 0, .int 0])) :: (e, .inl (y.2.2.1, 8, .inr (.inr (.inr (.inr (fun j => some (b j 0))))))) :: pW y b 8) (nB y A) A) args s 65 672 A) (F0 m 15 ls []) := by
    intro n
    induction n with
    | zero => intro i h1 h2; omega
    | succ n ih =>
      intro i h1 h2 b f hf H locs ls hG hl
      refine lv_iload_n hx hb dX5_init_15 rfl (lv_at hl 0 rfl) ?_
      refine lv_bipush (v := 8) hx hb dX5_init_16 (by decide) ?_
      refine lv_icmp_ge (tgt := 40) hx hb dX5_init_18 (by decide) (fun c1 => ?_) (fun c1 => ?_)
      · have e8 : i = 8 := by
          rcases Nat.lt_or_ge i 8 with h | h
          · exact absurd c1 (nI_ge (b := 8) h (by decide))
          · omega
        subst e8
        have hv : va_at y.1 vwCl (eq, .inl (y.2.2.1, 8, .inr (.inr (.inr (.inr (fun j => some (b j 0))))))) H := by
          have h1 : H[eq]? = some (vp_cell y.2.2.1 (8, .inr (.inr (.inr (.inr f))))) := hG.1 1 _ rfl
          show H[eq]? = some (vp_cell y.2.2.1 (8, .inr (.inr (.inr (.inr (fun j => some (b j 0)))))))
          rw [h1, vp_cell_q, vp_cell_q]
          exact congrArg some (arrV_cg fun j hj => by rw [hf j hj])
        have hG : gN y A ((h0, .inr (3, [.ref eq, .int 0, .int 0])) :: (eq, .inl (y.2.2.1, 8, .inr (.inr (.inr (.inr (fun j => some (b j 0))))))) :: pW y b 8) s H locs := ⟨hG.1.set hG.2.1 (p := 1) rfl hv (fun _ _ => rfl), hG.2.1.set (p := 1) rfl, hG.2.2⟩
        exact n_ret C hG ⟨eq, b, rfl⟩ dX5_init_40
      · have hi : i < 8 := by
          rcases Nat.lt_or_ge i 8 with h | h
          · exact h
          · exact absurd (nI_le (a := 8) h (by omega)) c1
        refine lv_aload_n hx hb dX5_init_21 rfl (lv_at hl 1 rfl) ?_
        refine va_get (D := y.1) (ci := 3) (C := RX5) (T := TX5) (N := 3) hx hb hts inX5 hown hK hG.1 0 rfl rfl 0 (by decide) (hts _ qF_X5_11) (fun _ h => h) rfl dX5_init_22 ?_
        refine lv_iload_n hx hb dX5_init_25 rfl (lv_at hl 0 rfl) ?_
        refine n_new (CN := RX1) (T := TX1) (Nf := 11) (ci := 0) (fs := [.null, .null, .null, .null, .null, .null, .null, .int 0, .int 0, .int 0, .int 0]) C hG inX1 tyX1 tyX1_ok qL_X5_9 qB_X1 qN_X1 rfl (fun j hj => by rcases (show j = 0 ∨ j = 1 ∨ j = 2 ∨ j = 3 ∨ j = 4 ∨ j = 5 ∨ j = 6 ∨ j = 7 ∨ j = 8 ∨ j = 9 ∨ j = 10 by omega) with rfl | rfl | rfl | rfl | rfl | rfl | rfl | rfl | rfl | rfl | rfl <;> rfl) (by show _ ≤ 65; omega) (by show _ ≤ 672; omega) dX5_init_26 (fun q1 H hG => ?_)
        refine lv_dup hx hb dX5_init_29 rfl ?_
        refine n_callN (As := []) (rest := [.ref q1, .int (nI i), .ref eq]) C hG (c_X1_init l y q1 H.size) qM_X5_15 qI_X1_init qN_X1 qC_X1_init rfl hd_X1_init ⟨(Nat.le_of_ble_eq_true rfl), (Nat.le_of_ble_eq_true rfl)⟩ hl.1 rfl (Nat.le_of_ble_eq_true rfl) dX5_init_30 ⟨(by show _ ≤ 65; omega), (by show _ ≤ 672; omega)⟩ (fun w1 H locs hw hG => ?_)
        obtain ⟨a, ha, rfl⟩ := hw
        rw [← ha]
        refine va_astq (r := (RX1, TX1, 11)) hx hb hK hG.1 hG.2.1 hG.2.2 1 1 _ 0 rfl rfl nn_last rfl (vp_in_nI hi (by decide)) dX5_init_33 (fun H locs k1 k2 k3 => ?_)
        rw [nI_clamp (show i < 2 ^ 31 by omega)] at k1 k2
        have hG : gN y A ((h0, .inr (3, [.ref eq, .int 0, .int 0])) :: (eq, .inl (y.2.2.1, 8, .inr (.inr (.inr (.inr (va_up f i (some (a 0)))))))) :: (pW y b i ++ cW y a)) s H locs := ⟨k1, k2, k3⟩
        have e1 : pW y b i ++ cW y a = pW y (fun j => if j = i then a else b j) (i + 1) := by
          show _ = pW y (fun j => if j = i then a else b j) i ++ cW y (if i = i then a else b i)
          rw [if_pos rfl, pW_cg i (fun j hj => by show b j = if j = i then a else b j; rw [if_neg (by omega)])]
        rw [e1] at hG
        refine lv_iinc (v := (nI i + 1)) (lv' := [(1, .int (nI i + 1)), (0, .ref h0)]) hx hb dX5_init_34 hl (k := 0) rfl rfl (Nat.le_of_ble_eq_true rfl) rfl (fun ls hl => ?_)
        rw [nI_1] at hl
        refine lv_goto (tgt := 15) hx hb dX5_init_37 (by decide) ?_
        refine W.widen (k := 1 + 8 * (i + 1)) (n := 8 + 83 * (i + 1)) (by omega) (by omega) ?_
        refine ih (i + 1) (by omega) (by omega) _ _ (fun j hj => ?_) H locs ls hG hl
        by_cases hji : j = i
        · subst hji
          rw [va_up_self]
          show some (a 0) = some ((if j = j then a else b j) 0)
          rw [if_pos rfl]
        · rw [va_up_ne _ _ hji, hf j (by omega)]
          show some (b j 0) = some ((if j = i then a else b j) 0)
          rw [if_neg hji]
  exact loop 9 0 (by omega) (by omega) (fun _ _ => 0) (fun _ => none) (fun j hj => absurd hj (Nat.not_lt_zero j)) H locs ls hG hl
set_option maxRecDepth 100000 in
set_option maxHeartbeats 4000000 in
theorem c_X6_init (l : Launch) (y : Sy) (h0 sz : Nat) : CN l yX6_init cX6_init 1 1 12 1 12 y sz [.ref h0] [(h0, .inr (4, [.null, .int 0]))] (fun w => ∃ q : Nat, w = [(h0, .inr (4, [.ref q, .int 0])), (q, eA y 12 zr)]) := by
  refine entN (by decide) rfl (Nat.le_of_ble_eq_true rfl) ?_
  intro p e s m below meth c hz C hG ls hl
  have hl : lv_has ls 1 [(0, .ref h0)] := hl
  generalize ([.ref h0] : List Value).toArray = args at C ⊢
  generalize va_A [(h0, .inr (4, [.null, .int 0]))] sz = A at C hG ⊢
  have C : Sn p s m args meth c cX6_init 1 RX6 y A := C
  obtain ⟨hx, hb, hml, hown, hts, hr, hlk, hK, hN⟩ := id C.1
  refine lv_aload_n hx hb dX6_init_0 rfl (lv_at hl 0 rfl) ?_
  refine n_obj C hl.1 qM_X6_1 dX6_init_1 (Nat.le_of_ble_eq_true rfl) (Nat.le_of_ble_eq_true rfl) ?_
  refine lv_aload_n hx hb dX6_init_4 rfl (lv_at hl 0 rfl) ?_
  refine lv_bipush (v := 12) hx hb dX6_init_5 (by decide) ?_
  refine n_newi C hG (N' := 12) (by decide) (by decide) (Nat.le_of_ble_eq_true rfl) (Nat.le_of_ble_eq_true rfl) (Nat.le_of_ble_eq_true rfl) dX6_init_7 (fun q1 H hG => ?_)
  refine n_putF (T := TX6) (Nf := 2) (ci := 4) C hG inX6 tyX6 tyX6_ok nmX6 0 rfl rfl 0 (by decide) qF_X6_9 rfl rfl rfl rfl rfl (Nat.le_of_ble_eq_true rfl) dX6_init_9 (fun H locs hG => ?_)
  have hG : gN y A ([(h0, .inr (4, [.ref q1, .int 0])), (q1, eA y 12 zr)]) s H locs := hG
  exact n_ret C hG ⟨q1, rfl⟩ dX6_init_12
set_option maxRecDepth 100000 in
set_option maxHeartbeats 4000000 in
theorem c_X7_init (l : Launch) (y : Sy) (h0 sz : Nat) : CN l yX7_init cX7_init 1 1 12 1 96 y sz [.ref h0] [(h0, .inr (5, [.null, .int 0]))] (fun w => ∃ q : Nat, w = [(h0, .inr (5, [.ref q, .int 0])), (q, eA y 96 zr)]) := by
  refine entN (by decide) rfl (Nat.le_of_ble_eq_true rfl) ?_
  intro p e s m below meth c hz C hG ls hl
  have hl : lv_has ls 1 [(0, .ref h0)] := hl
  generalize ([.ref h0] : List Value).toArray = args at C ⊢
  generalize va_A [(h0, .inr (5, [.null, .int 0]))] sz = A at C hG ⊢
  have C : Sn p s m args meth c cX7_init 1 RX7 y A := C
  obtain ⟨hx, hb, hml, hown, hts, hr, hlk, hK, hN⟩ := id C.1
  refine lv_aload_n hx hb dX7_init_0 rfl (lv_at hl 0 rfl) ?_
  refine n_obj C hl.1 qM_X7_3 dX7_init_1 (Nat.le_of_ble_eq_true rfl) (Nat.le_of_ble_eq_true rfl) ?_
  refine lv_aload_n hx hb dX7_init_4 rfl (lv_at hl 0 rfl) ?_
  refine lv_bipush (v := 96) hx hb dX7_init_5 (by decide) ?_
  refine n_newi C hG (N' := 96) (by decide) (by decide) (Nat.le_of_ble_eq_true rfl) (Nat.le_of_ble_eq_true rfl) (Nat.le_of_ble_eq_true rfl) dX7_init_7 (fun q1 H hG => ?_)
  refine n_putF (T := TX7) (Nf := 2) (ci := 5) C hG inX7 tyX7 tyX7_ok nmX7 0 rfl rfl 0 (by decide) qF_X7_11 rfl rfl rfl rfl rfl (Nat.le_of_ble_eq_true rfl) dX7_init_9 (fun H locs hG => ?_)
  have hG : gN y A ([(h0, .inr (5, [.ref q1, .int 0])), (q1, eA y 96 zr)]) s H locs := hG
  exact n_ret C hG ⟨q1, rfl⟩ dX7_init_12
def xT (y : Sy) (a1 a2 a7 a9 : Nat → Nat) (q3 eq q4 q41 q5 q51 q6 q8 q81 q9 : Nat) (b : Nat → Nat → Nat) : va_W := ((((((((cW y a1 ++ cW y a2) ++ ((q3, .inr (3, [.ref eq, .int 0, .int 0])) :: (eq, .inl (y.2.2.1, 8, .inr (.inr (.inr (.inr (fun j => some (b j 0))))))) :: pW y b 8)) ++ [(q4, .inr (5, [.ref q41, .int 0])), (q41, eA y 96 zr)]) ++ [(q5, .inr (4, [.ref q51, .int 0])), (q51, eA y 12 zr)]) ++ [(q6, eA y 7 zr)]) ++ cW y a7) ++ [(q8, .inr (1, [.ref (a7 0), .ref q81])), (q81, eA y 64 zr)]) ++ ((q9, .inr (2, [.ref (a7 0), .ref (a9 0)])) :: cW y a9))
def xW (y : Sy) (h0 : Nat) (a1 a2 a7 a9 : Nat → Nat) (q3 eq q4 q41 q5 q51 q6 q8 q81 q9 : Nat) (b : Nat → Nat → Nat) : va_W := (h0, .inr (6, [.ref (a7 0), .ref (a1 0), .ref (a2 0), .int 0, .ref q3, .ref q4, .ref q5, .ref q8, .ref q9, .ref q6])) :: xT y a1 a2 a7 a9 q3 eq q4 q41 q5 q51 q6 q8 q81 q9 b
set_option maxRecDepth 100000 in
set_option maxHeartbeats 4000000 in
theorem c_X8_init (l : Launch) (y : Sy) (h0 sz : Nat) : CN l yX8_init cX8_init 2 3 60 106 1194 y sz [.ref h0] [(h0, .inr (6, [.null, .null, .null, .int 0, .null, .null, .null, .null, .null, .null]))] (fun w => ∃ (a1 a2 a7 a9 : Nat → Nat) (q3 eq q4 q41 q5 q51 q6 q8 q81 q9 : Nat) (b : Nat → Nat → Nat), w = xW y h0 a1 a2 a7 a9 q3 eq q4 q41 q5 q51 q6 q8 q81 q9 b) := by
  refine entN (by decide) rfl (Nat.le_of_ble_eq_true rfl) ?_
  intro p e s m below meth c hz C hG ls hl
  have hl : lv_has ls 2 [(0, .ref h0)] := hl
  generalize ([.ref h0] : List Value).toArray = args at C ⊢
  generalize va_A [(h0, .inr (6, [.null, .null, .null, .int 0, .null, .null, .null, .null, .null, .null]))] sz = A at C hG ⊢
  have C : Sn p s m args meth c cX8_init 2 RX8 y A := C
  obtain ⟨hx, hb, hml, hown, hts, hr, hlk, hK, hN⟩ := id C.1
  refine lv_aload_n hx hb dX8_init_0 rfl (lv_at hl 0 rfl) ?_
  refine n_obj C hl.1 qM_X8_1 dX8_init_1 (Nat.le_of_ble_eq_true rfl) (Nat.le_of_ble_eq_true rfl) ?_
  refine lv_aload_n hx hb dX8_init_4 rfl (lv_at hl 0 rfl) ?_
  refine n_new (CN := RX1) (T := TX1) (Nf := 11) (ci := 0) (fs := [.null, .null, .null, .null, .null, .null, .null, .int 0, .int 0, .int 0, .int 0]) C hG inX1 tyX1 tyX1_ok qL_X8_7 qB_X1 qN_X1 rfl (fun j hj => by rcases (show j = 0 ∨ j = 1 ∨ j = 2 ∨ j = 3 ∨ j = 4 ∨ j = 5 ∨ j = 6 ∨ j = 7 ∨ j = 8 ∨ j = 9 ∨ j = 10 by omega) with rfl | rfl | rfl | rfl | rfl | rfl | rfl | rfl | rfl | rfl | rfl <;> rfl) (Nat.le_of_ble_eq_true rfl) (Nat.le_of_ble_eq_true rfl) dX8_init_5 (fun q1 H hG => ?_)
  refine lv_dup hx hb dX8_init_8 rfl ?_
  refine n_callN (As := []) (rest := [.ref q1, .ref h0]) C hG (c_X1_init l y q1 H.size) qM_X8_9 qI_X1_init qN_X1 qC_X1_init rfl hd_X1_init ⟨(Nat.le_of_ble_eq_true rfl), (Nat.le_of_ble_eq_true rfl)⟩ hl.1 rfl (Nat.le_of_ble_eq_true rfl) dX8_init_9 ⟨(Nat.le_of_ble_eq_true rfl), (Nat.le_of_ble_eq_true rfl)⟩ (fun w1 H locs hw hG => ?_)
  obtain ⟨a1, ha, rfl⟩ := hw
  rw [← ha]
  refine n_putF (T := TX8) (Nf := 10) (ci := 6) C hG inX8 tyX8 tyX8_ok nmX8 0 rfl rfl 1 (by decide) qF_X8_10 rfl rfl rfl rfl rfl (Nat.le_of_ble_eq_true rfl) dX8_init_12 (fun H locs hG => ?_)
  have hG : gN y A ((h0, .inr (6, [.null, .ref (a1 0), .null, .int 0, .null, .null, .null, .null, .null, .null])) :: cW y a1) s H locs := hG
  refine lv_aload_n hx hb dX8_init_15 rfl (lv_at hl 0 rfl) ?_
  refine n_new (CN := RX1) (T := TX1) (Nf := 11) (ci := 0) (fs := [.null, .null, .null, .null, .null, .null, .null, .int 0, .int 0, .int 0, .int 0]) C hG inX1 tyX1 tyX1_ok qL_X8_7 qB_X1 qN_X1 rfl (fun j hj => by rcases (show j = 0 ∨ j = 1 ∨ j = 2 ∨ j = 3 ∨ j = 4 ∨ j = 5 ∨ j = 6 ∨ j = 7 ∨ j = 8 ∨ j = 9 ∨ j = 10 by omega) with rfl | rfl | rfl | rfl | rfl | rfl | rfl | rfl | rfl | rfl | rfl <;> rfl) (Nat.le_of_ble_eq_true rfl) (Nat.le_of_ble_eq_true rfl) dX8_init_16 (fun q2 H hG => ?_)
  refine lv_dup hx hb dX8_init_19 rfl ?_
  refine n_callN (As := []) (rest := [.ref q2, .ref h0]) C hG (c_X1_init l y q2 H.size) qM_X8_9 qI_X1_init qN_X1 qC_X1_init rfl hd_X1_init ⟨(Nat.le_of_ble_eq_true rfl), (Nat.le_of_ble_eq_true rfl)⟩ hl.1 rfl (Nat.le_of_ble_eq_true rfl) dX8_init_20 ⟨(Nat.le_of_ble_eq_true rfl), (Nat.le_of_ble_eq_true rfl)⟩ (fun w1 H locs hw hG => ?_)
  obtain ⟨a2, ha, rfl⟩ := hw
  rw [← ha]
  refine n_putF (T := TX8) (Nf := 10) (ci := 6) C hG inX8 tyX8 tyX8_ok nmX8 0 rfl rfl 2 (by decide) qF_X8_16 rfl rfl rfl rfl rfl (Nat.le_of_ble_eq_true rfl) dX8_init_23 (fun H locs hG => ?_)
  have hG : gN y A ((h0, .inr (6, [.null, .ref (a1 0), .ref (a2 0), .int 0, .null, .null, .null, .null, .null, .null])) :: (cW y a1 ++ cW y a2)) s H locs := hG
  refine lv_aload_n hx hb dX8_init_26 rfl (lv_at hl 0 rfl) ?_
  refine n_new (CN := RX5) (T := TX5) (Nf := 3) (ci := 3) (fs := [.null, .int 0, .int 0]) C hG inX5 tyX5 tyX5_ok qL_X8_19 qB_X5 qN_X5 rfl (fun j hj => by rcases (show j = 0 ∨ j = 1 ∨ j = 2 by omega) with rfl | rfl | rfl <;> rfl) (Nat.le_of_ble_eq_true rfl) (Nat.le_of_ble_eq_true rfl) dX8_init_27 (fun q3 H hG => ?_)
  refine lv_dup hx hb dX8_init_30 rfl ?_
  refine n_callI (As := []) (rest := [.ref q3, .ref h0]) C hG (c_X5_init l y q3 H.size) qM_X8_21 qI_X5_init qN_X5 qC_X5_init rfl hd_X5_init ⟨(Nat.le_of_ble_eq_true rfl), (Nat.le_of_ble_eq_true rfl)⟩ hl.1 rfl (Nat.le_of_ble_eq_true rfl) dX8_init_31 ⟨(Nat.le_of_ble_eq_true rfl), (Nat.le_of_ble_eq_true rfl)⟩ (fun w1 H locs hw hG => ?_)
  obtain ⟨eq, b, rfl⟩ := hw
  refine n_putF (T := TX8) (Nf := 10) (ci := 6) C hG inX8 tyX8 tyX8_ok nmX8 0 rfl rfl 4 (by decide) qF_X8_22 rfl rfl rfl rfl rfl (Nat.le_of_ble_eq_true rfl) dX8_init_34 (fun H locs hG => ?_)
  have hG : gN y A ((h0, .inr (6, [.null, .ref (a1 0), .ref (a2 0), .int 0, .ref q3, .null, .null, .null, .null, .null])) :: ((cW y a1 ++ cW y a2) ++ ((q3, .inr (3, [.ref eq, .int 0, .int 0])) :: (eq, .inl (y.2.2.1, 8, .inr (.inr (.inr (.inr (fun j => some (b j 0))))))) :: pW y b 8))) s H locs := hG
  refine lv_aload_n hx hb dX8_init_37 rfl (lv_at hl 0 rfl) ?_
  refine n_new (CN := RX7) (T := TX7) (Nf := 2) (ci := 5) (fs := [.null, .int 0]) C hG inX7 tyX7 tyX7_ok qL_X8_26 qB_X7 qN_X7 rfl (fun j hj => by rcases (show j = 0 ∨ j = 1 by omega) with rfl | rfl <;> rfl) (Nat.le_of_ble_eq_true rfl) (Nat.le_of_ble_eq_true rfl) dX8_init_38 (fun q4 H hG => ?_)
  refine lv_dup hx hb dX8_init_41 rfl ?_
  refine n_callN (As := []) (rest := [.ref q4, .ref h0]) C hG (c_X7_init l y q4 H.size) qM_X8_28 qI_X7_init qN_X7 qC_X7_init rfl hd_X7_init ⟨(Nat.le_of_ble_eq_true rfl), (Nat.le_of_ble_eq_true rfl)⟩ hl.1 rfl (Nat.le_of_ble_eq_true rfl) dX8_init_42 ⟨(Nat.le_of_ble_eq_true rfl), (Nat.le_of_ble_eq_true rfl)⟩ (fun w1 H locs hw hG => ?_)
  obtain ⟨q41, rfl⟩ := hw
  refine n_putF (T := TX8) (Nf := 10) (ci := 6) C hG inX8 tyX8 tyX8_ok nmX8 0 rfl rfl 5 (by decide) qF_X8_29 rfl rfl rfl rfl rfl (Nat.le_of_ble_eq_true rfl) dX8_init_45 (fun H locs hG => ?_)
  have hG : gN y A ((h0, .inr (6, [.null, .ref (a1 0), .ref (a2 0), .int 0, .ref q3, .ref q4, .null, .null, .null, .null])) :: (((cW y a1 ++ cW y a2) ++ ((q3, .inr (3, [.ref eq, .int 0, .int 0])) :: (eq, .inl (y.2.2.1, 8, .inr (.inr (.inr (.inr (fun j => some (b j 0))))))) :: pW y b 8)) ++ [(q4, .inr (5, [.ref q41, .int 0])), (q41, eA y 96 zr)])) s H locs := hG
  refine lv_aload_n hx hb dX8_init_48 rfl (lv_at hl 0 rfl) ?_
  refine n_new (CN := RX6) (T := TX6) (Nf := 2) (ci := 4) (fs := [.null, .int 0]) C hG inX6 tyX6 tyX6_ok qL_X8_33 qB_X6 qN_X6 rfl (fun j hj => by rcases (show j = 0 ∨ j = 1 by omega) with rfl | rfl <;> rfl) (Nat.le_of_ble_eq_true rfl) (Nat.le_of_ble_eq_true rfl) dX8_init_49 (fun q5 H hG => ?_)
  refine lv_dup hx hb dX8_init_52 rfl ?_
  refine n_callN (As := []) (rest := [.ref q5, .ref h0]) C hG (c_X6_init l y q5 H.size) qM_X8_35 qI_X6_init qN_X6 qC_X6_init rfl hd_X6_init ⟨(Nat.le_of_ble_eq_true rfl), (Nat.le_of_ble_eq_true rfl)⟩ hl.1 rfl (Nat.le_of_ble_eq_true rfl) dX8_init_53 ⟨(Nat.le_of_ble_eq_true rfl), (Nat.le_of_ble_eq_true rfl)⟩ (fun w1 H locs hw hG => ?_)
  obtain ⟨q51, rfl⟩ := hw
  refine n_putF (T := TX8) (Nf := 10) (ci := 6) C hG inX8 tyX8 tyX8_ok nmX8 0 rfl rfl 6 (by decide) qF_X8_36 rfl rfl rfl rfl rfl (Nat.le_of_ble_eq_true rfl) dX8_init_56 (fun H locs hG => ?_)
  have hG : gN y A ((h0, .inr (6, [.null, .ref (a1 0), .ref (a2 0), .int 0, .ref q3, .ref q4, .ref q5, .null, .null, .null])) :: ((((cW y a1 ++ cW y a2) ++ ((q3, .inr (3, [.ref eq, .int 0, .int 0])) :: (eq, .inl (y.2.2.1, 8, .inr (.inr (.inr (.inr (fun j => some (b j 0))))))) :: pW y b 8)) ++ [(q4, .inr (5, [.ref q41, .int 0])), (q41, eA y 96 zr)]) ++ [(q5, .inr (4, [.ref q51, .int 0])), (q51, eA y 12 zr)])) s H locs := hG
  refine lv_aload_n hx hb dX8_init_59 rfl (lv_at hl 0 rfl) ?_
  refine lv_bipush (v := 7) hx hb dX8_init_60 (by decide) ?_
  refine n_newi C hG (N' := 7) (by decide) (by decide) (Nat.le_of_ble_eq_true rfl) (Nat.le_of_ble_eq_true rfl) (Nat.le_of_ble_eq_true rfl) dX8_init_62 (fun q6 H hG => ?_)
  refine n_putF (T := TX8) (Nf := 10) (ci := 6) C hG inX8 tyX8 tyX8_ok nmX8 0 rfl rfl 9 (by decide) qF_X8_40 rfl rfl rfl rfl rfl (Nat.le_of_ble_eq_true rfl) dX8_init_64 (fun H locs hG => ?_)
  have hG : gN y A ((h0, .inr (6, [.null, .ref (a1 0), .ref (a2 0), .int 0, .ref q3, .ref q4, .ref q5, .null, .null, .ref q6])) :: (((((cW y a1 ++ cW y a2) ++ ((q3, .inr (3, [.ref eq, .int 0, .int 0])) :: (eq, .inl (y.2.2.1, 8, .inr (.inr (.inr (.inr (fun j => some (b j 0))))))) :: pW y b 8)) ++ [(q4, .inr (5, [.ref q41, .int 0])), (q41, eA y 96 zr)]) ++ [(q5, .inr (4, [.ref q51, .int 0])), (q51, eA y 12 zr)]) ++ [(q6, eA y 7 zr)])) s H locs := hG
  refine n_new (CN := RX1) (T := TX1) (Nf := 11) (ci := 0) (fs := [.null, .null, .null, .null, .null, .null, .null, .int 0, .int 0, .int 0, .int 0]) C hG inX1 tyX1 tyX1_ok qL_X8_7 qB_X1 qN_X1 rfl (fun j hj => by rcases (show j = 0 ∨ j = 1 ∨ j = 2 ∨ j = 3 ∨ j = 4 ∨ j = 5 ∨ j = 6 ∨ j = 7 ∨ j = 8 ∨ j = 9 ∨ j = 10 by omega) with rfl | rfl | rfl | rfl | rfl | rfl | rfl | rfl | rfl | rfl | rfl <;> rfl) (Nat.le_of_ble_eq_true rfl) (Nat.le_of_ble_eq_true rfl) dX8_init_67 (fun q7 H hG => ?_)
  refine lv_dup hx hb dX8_init_70 rfl ?_
  refine n_callN (As := []) (rest := [.ref q7]) C hG (c_X1_init l y q7 H.size) qM_X8_9 qI_X1_init qN_X1 qC_X1_init rfl hd_X1_init ⟨(Nat.le_of_ble_eq_true rfl), (Nat.le_of_ble_eq_true rfl)⟩ hl.1 rfl (Nat.le_of_ble_eq_true rfl) dX8_init_71 ⟨(Nat.le_of_ble_eq_true rfl), (Nat.le_of_ble_eq_true rfl)⟩ (fun w1 H locs hw hG => ?_)
  obtain ⟨a7, ha, rfl⟩ := hw
  rw [← ha]
  have hG : gN y A ((h0, .inr (6, [.null, .ref (a1 0), .ref (a2 0), .int 0, .ref q3, .ref q4, .ref q5, .null, .null, .ref q6])) :: ((((((cW y a1 ++ cW y a2) ++ ((q3, .inr (3, [.ref eq, .int 0, .int 0])) :: (eq, .inl (y.2.2.1, 8, .inr (.inr (.inr (.inr (fun j => some (b j 0))))))) :: pW y b 8)) ++ [(q4, .inr (5, [.ref q41, .int 0])), (q41, eA y 96 zr)]) ++ [(q5, .inr (4, [.ref q51, .int 0])), (q51, eA y 12 zr)]) ++ [(q6, eA y 7 zr)]) ++ cW y a7)) s H locs := hG
  refine lv_astore_n (lv' := [(1, .ref (a7 0)), (0, .ref h0)]) hx hb dX8_init_74 rfl hl (Nat.le_of_ble_eq_true rfl) rfl (fun ls hl => ?_)
  refine lv_aload_n hx hb dX8_init_75 rfl (lv_at hl 1 rfl) ?_
  refine lv_aload_n hx hb dX8_init_76 rfl (lv_at hl 0 rfl) ?_
  refine n_putF (T := TX8) (Nf := 10) (ci := 6) C hG inX8 tyX8 tyX8_ok nmX8 0 rfl rfl 0 (by decide) qF_X8_44 rfl rfl rfl rfl rfl (Nat.le_of_ble_eq_true rfl) dX8_init_77 (fun H locs hG => ?_)
  have hG : gN y A ((h0, .inr (6, [.ref (a7 0), .ref (a1 0), .ref (a2 0), .int 0, .ref q3, .ref q4, .ref q5, .null, .null, .ref q6])) :: ((((((cW y a1 ++ cW y a2) ++ ((q3, .inr (3, [.ref eq, .int 0, .int 0])) :: (eq, .inl (y.2.2.1, 8, .inr (.inr (.inr (.inr (fun j => some (b j 0))))))) :: pW y b 8)) ++ [(q4, .inr (5, [.ref q41, .int 0])), (q41, eA y 96 zr)]) ++ [(q5, .inr (4, [.ref q51, .int 0])), (q51, eA y 12 zr)]) ++ [(q6, eA y 7 zr)]) ++ cW y a7)) s H locs := hG
  refine lv_aload_n hx hb dX8_init_80 rfl (lv_at hl 1 rfl) ?_
  refine n_new (CN := RX3) (T := TX3) (Nf := 2) (ci := 1) (fs := [.null, .null]) C hG inX3 tyX3 tyX3_ok qL_X8_47 qB_X3 qN_X3 rfl (fun j hj => by rcases (show j = 0 ∨ j = 1 by omega) with rfl | rfl <;> rfl) (Nat.le_of_ble_eq_true rfl) (Nat.le_of_ble_eq_true rfl) dX8_init_81 (fun q8 H hG => ?_)
  refine lv_dup hx hb dX8_init_84 rfl ?_
  refine lv_aload_n hx hb dX8_init_85 rfl (lv_at hl 0 rfl) ?_
  refine n_callI (As := [.ref (a7 0)]) (rest := [.ref q8, .ref h0]) C hG (c_X3_init l y q8 (a7 0) H.size) qM_X8_49 qI_X3_init qN_X3 qC_X3_init rfl hd_X3_init ⟨(Nat.le_of_ble_eq_true rfl), (Nat.le_of_ble_eq_true rfl)⟩ hl.1 rfl (Nat.le_of_ble_eq_true rfl) dX8_init_86 ⟨(Nat.le_of_ble_eq_true rfl), (Nat.le_of_ble_eq_true rfl)⟩ (fun w1 H locs hw hG => ?_)
  obtain ⟨q81, rfl⟩ := hw
  refine n_putF (T := TX8) (Nf := 10) (ci := 6) C hG inX8 tyX8 tyX8_ok nmX8 0 rfl rfl 7 (by decide) qF_X8_52 rfl rfl rfl rfl rfl (Nat.le_of_ble_eq_true rfl) dX8_init_89 (fun H locs hG => ?_)
  have hG : gN y A ((h0, .inr (6, [.ref (a7 0), .ref (a1 0), .ref (a2 0), .int 0, .ref q3, .ref q4, .ref q5, .ref q8, .null, .ref q6])) :: (((((((cW y a1 ++ cW y a2) ++ ((q3, .inr (3, [.ref eq, .int 0, .int 0])) :: (eq, .inl (y.2.2.1, 8, .inr (.inr (.inr (.inr (fun j => some (b j 0))))))) :: pW y b 8)) ++ [(q4, .inr (5, [.ref q41, .int 0])), (q41, eA y 96 zr)]) ++ [(q5, .inr (4, [.ref q51, .int 0])), (q51, eA y 12 zr)]) ++ [(q6, eA y 7 zr)]) ++ cW y a7) ++ [(q8, .inr (1, [.ref (a7 0), .ref q81])), (q81, eA y 64 zr)])) s H locs := hG
  refine lv_aload_n hx hb dX8_init_92 rfl (lv_at hl 1 rfl) ?_
  refine n_new (CN := RX4) (T := TX4) (Nf := 2) (ci := 2) (fs := [.null, .null]) C hG inX4 tyX4 tyX4_ok qL_X8_56 qB_X4 qN_X4 rfl (fun j hj => by rcases (show j = 0 ∨ j = 1 by omega) with rfl | rfl <;> rfl) (Nat.le_of_ble_eq_true rfl) (Nat.le_of_ble_eq_true rfl) dX8_init_93 (fun q9 H hG => ?_)
  refine lv_dup hx hb dX8_init_96 rfl ?_
  refine lv_aload_n hx hb dX8_init_97 rfl (lv_at hl 0 rfl) ?_
  refine n_callI (As := [.ref (a7 0)]) (rest := [.ref q9, .ref h0]) C hG (c_X4_init l y q9 (a7 0) H.size) qM_X8_58 qI_X4_init qN_X4 qC_X4_init rfl hd_X4_init ⟨(Nat.le_of_ble_eq_true rfl), (Nat.le_of_ble_eq_true rfl)⟩ hl.1 rfl (Nat.le_of_ble_eq_true rfl) dX8_init_98 ⟨(Nat.le_of_ble_eq_true rfl), (Nat.le_of_ble_eq_true rfl)⟩ (fun w1 H locs hw hG => ?_)
  obtain ⟨a9, rfl⟩ := hw
  refine n_putF (T := TX8) (Nf := 10) (ci := 6) C hG inX8 tyX8 tyX8_ok nmX8 0 rfl rfl 8 (by decide) qF_X8_59 rfl rfl rfl rfl rfl (Nat.le_of_ble_eq_true rfl) dX8_init_101 (fun H locs hG => ?_)
  have hG : gN y A ((h0, .inr (6, [.ref (a7 0), .ref (a1 0), .ref (a2 0), .int 0, .ref q3, .ref q4, .ref q5, .ref q8, .ref q9, .ref q6])) :: ((((((((cW y a1 ++ cW y a2) ++ ((q3, .inr (3, [.ref eq, .int 0, .int 0])) :: (eq, .inl (y.2.2.1, 8, .inr (.inr (.inr (.inr (fun j => some (b j 0))))))) :: pW y b 8)) ++ [(q4, .inr (5, [.ref q41, .int 0])), (q41, eA y 96 zr)]) ++ [(q5, .inr (4, [.ref q51, .int 0])), (q51, eA y 12 zr)]) ++ [(q6, eA y 7 zr)]) ++ cW y a7) ++ [(q8, .inr (1, [.ref (a7 0), .ref q81])), (q81, eA y 64 zr)]) ++ ((q9, .inr (2, [.ref (a7 0), .ref (a9 0)])) :: cW y a9))) s H locs := hG
  exact n_ret C hG ⟨a1, a2, a7, a9, q3, eq, q4, q41, q5, q51, q6, q8, q81, q9, b, rfl⟩ dX8_init_104
set_option maxRecDepth 100000 in
set_option maxHeartbeats 4000000 in
theorem c_X9_init (l : Launch) (y : Sy) (h0 sz : Nat) : CN l yX9_init cX9_init 1 1 12 16 1322 y sz [.ref h0] [(h0, .inr (7, [.null, .null, .null, .null, .null, .null, .null, .null, .int 0, .int 0, .int 0, .int 0, .null, .null, .null, .null, .int 0, .int 0, .int 0, .null, .int 0, .int 0, .int 0, .int 0, .null, .int 0, .int 0, .null, .null, .int 0, .int 0]))] (fun w => ∃ a : Nat → Nat, a 0 = h0 ∧ w = mW y a) := by
  refine entN (by decide) rfl (Nat.le_of_ble_eq_true rfl) ?_
  intro p e s m below meth c hz C hG ls hl
  have hl : lv_has ls 1 [(0, .ref h0)] := hl
  generalize ([.ref h0] : List Value).toArray = args at C ⊢
  generalize va_A [(h0, .inr (7, [.null, .null, .null, .null, .null, .null, .null, .null, .int 0, .int 0, .int 0, .int 0, .null, .null, .null, .null, .int 0, .int 0, .int 0, .null, .int 0, .int 0, .int 0, .int 0, .null, .int 0, .int 0, .null, .null, .int 0, .int 0]))] sz = A at C hG ⊢
  have C : Sn p s m args meth c cX9_init 1 RX9 y A := C
  obtain ⟨hx, hb, hml, hown, hts, hr, hlk, hK, hN⟩ := id C.1
  refine lv_aload_n hx hb dX9_init_0 rfl (lv_at hl 0 rfl) ?_
  refine n_obj C hl.1 qM_X9_1 dX9_init_1 (Nat.le_of_ble_eq_true rfl) (Nat.le_of_ble_eq_true rfl) ?_
  refine lv_aload_n hx hb dX9_init_4 rfl (lv_at hl 0 rfl) ?_
  refine lv_bipush (v := 7) hx hb dX9_init_5 (by decide) ?_
  refine n_newi C hG (N' := 7) (by decide) (by decide) (Nat.le_of_ble_eq_true rfl) (Nat.le_of_ble_eq_true rfl) (Nat.le_of_ble_eq_true rfl) dX9_init_7 (fun q1 H hG => ?_)
  refine n_putF (T := TX9) (Nf := 31) (ci := 7) C hG inX9 tyX9 tyX9_ok nmX9 0 rfl rfl 0 (by decide) qF_X9_7 rfl rfl rfl rfl rfl (Nat.le_of_ble_eq_true rfl) dX9_init_9 (fun H locs hG => ?_)
  have hG : gN y A ((h0, .inr (7, [.ref q1, .null, .null, .null, .null, .null, .null, .null, .int 0, .int 0, .int 0, .int 0, .null, .null, .null, .null, .int 0, .int 0, .int 0, .null, .int 0, .int 0, .int 0, .int 0, .null, .int 0, .int 0, .null, .null, .int 0, .int 0])) :: [(q1, eA y 7 zr)]) s H locs := hG
  refine lv_aload_n hx hb dX9_init_12 rfl (lv_at hl 0 rfl) ?_
  refine lv_bipush (v := 6) hx hb dX9_init_13 (by decide) ?_
  refine n_newi C hG (N' := 6) (by decide) (by decide) (Nat.le_of_ble_eq_true rfl) (Nat.le_of_ble_eq_true rfl) (Nat.le_of_ble_eq_true rfl) dX9_init_15 (fun q2 H hG => ?_)
  refine n_putF (T := TX9) (Nf := 31) (ci := 7) C hG inX9 tyX9 tyX9_ok nmX9 0 rfl rfl 1 (by decide) qF_X9_13 rfl rfl rfl rfl rfl (Nat.le_of_ble_eq_true rfl) dX9_init_17 (fun H locs hG => ?_)
  have hG : gN y A ((h0, .inr (7, [.ref q1, .ref q2, .null, .null, .null, .null, .null, .null, .int 0, .int 0, .int 0, .int 0, .null, .null, .null, .null, .int 0, .int 0, .int 0, .null, .int 0, .int 0, .int 0, .int 0, .null, .int 0, .int 0, .null, .null, .int 0, .int 0])) :: [(q1, eA y 7 zr), (q2, eA y 6 zr)]) s H locs := hG
  refine lv_aload_n hx hb dX9_init_20 rfl (lv_at hl 0 rfl) ?_
  refine lv_bipush (v := 6) hx hb dX9_init_21 (by decide) ?_
  refine n_newi C hG (N' := 6) (by decide) (by decide) (Nat.le_of_ble_eq_true rfl) (Nat.le_of_ble_eq_true rfl) (Nat.le_of_ble_eq_true rfl) dX9_init_23 (fun q3 H hG => ?_)
  refine n_putF (T := TX9) (Nf := 31) (ci := 7) C hG inX9 tyX9 tyX9_ok nmX9 0 rfl rfl 2 (by decide) qF_X9_16 rfl rfl rfl rfl rfl (Nat.le_of_ble_eq_true rfl) dX9_init_25 (fun H locs hG => ?_)
  have hG : gN y A ((h0, .inr (7, [.ref q1, .ref q2, .ref q3, .null, .null, .null, .null, .null, .int 0, .int 0, .int 0, .int 0, .null, .null, .null, .null, .int 0, .int 0, .int 0, .null, .int 0, .int 0, .int 0, .int 0, .null, .int 0, .int 0, .null, .null, .int 0, .int 0])) :: [(q1, eA y 7 zr), (q2, eA y 6 zr), (q3, eA y 6 zr)]) s H locs := hG
  refine lv_aload_n hx hb dX9_init_28 rfl (lv_at hl 0 rfl) ?_
  refine lv_bipush (v := 6) hx hb dX9_init_29 (by decide) ?_
  refine n_newi C hG (N' := 6) (by decide) (by decide) (Nat.le_of_ble_eq_true rfl) (Nat.le_of_ble_eq_true rfl) (Nat.le_of_ble_eq_true rfl) dX9_init_31 (fun q4 H hG => ?_)
  refine n_putF (T := TX9) (Nf := 31) (ci := 7) C hG inX9 tyX9 tyX9_ok nmX9 0 rfl rfl 3 (by decide) qF_X9_19 rfl rfl rfl rfl rfl (Nat.le_of_ble_eq_true rfl) dX9_init_33 (fun H locs hG => ?_)
  have hG : gN y A ((h0, .inr (7, [.ref q1, .ref q2, .ref q3, .ref q4, .null, .null, .null, .null, .int 0, .int 0, .int 0, .int 0, .null, .null, .null, .null, .int 0, .int 0, .int 0, .null, .int 0, .int 0, .int 0, .int 0, .null, .int 0, .int 0, .null, .null, .int 0, .int 0])) :: [(q1, eA y 7 zr), (q2, eA y 6 zr), (q3, eA y 6 zr), (q4, eA y 6 zr)]) s H locs := hG
  refine lv_aload_n hx hb dX9_init_36 rfl (lv_at hl 0 rfl) ?_
  refine lv_bipush (v := 36) hx hb dX9_init_37 (by decide) ?_
  refine n_newi C hG (N' := 36) (by decide) (by decide) (Nat.le_of_ble_eq_true rfl) (Nat.le_of_ble_eq_true rfl) (Nat.le_of_ble_eq_true rfl) dX9_init_39 (fun q5 H hG => ?_)
  refine n_putF (T := TX9) (Nf := 31) (ci := 7) C hG inX9 tyX9 tyX9_ok nmX9 0 rfl rfl 4 (by decide) qF_X9_22 rfl rfl rfl rfl rfl (Nat.le_of_ble_eq_true rfl) dX9_init_41 (fun H locs hG => ?_)
  have hG : gN y A ((h0, .inr (7, [.ref q1, .ref q2, .ref q3, .ref q4, .ref q5, .null, .null, .null, .int 0, .int 0, .int 0, .int 0, .null, .null, .null, .null, .int 0, .int 0, .int 0, .null, .int 0, .int 0, .int 0, .int 0, .null, .int 0, .int 0, .null, .null, .int 0, .int 0])) :: [(q1, eA y 7 zr), (q2, eA y 6 zr), (q3, eA y 6 zr), (q4, eA y 6 zr), (q5, eA y 36 zr)]) s H locs := hG
  refine lv_aload_n hx hb dX9_init_44 rfl (lv_at hl 0 rfl) ?_
  refine lv_bipush (v := 6) hx hb dX9_init_45 (by decide) ?_
  refine n_newi C hG (N' := 6) (by decide) (by decide) (Nat.le_of_ble_eq_true rfl) (Nat.le_of_ble_eq_true rfl) (Nat.le_of_ble_eq_true rfl) dX9_init_47 (fun q6 H hG => ?_)
  refine n_putF (T := TX9) (Nf := 31) (ci := 7) C hG inX9 tyX9 tyX9_ok nmX9 0 rfl rfl 5 (by decide) qF_X9_25 rfl rfl rfl rfl rfl (Nat.le_of_ble_eq_true rfl) dX9_init_49 (fun H locs hG => ?_)
  have hG : gN y A ((h0, .inr (7, [.ref q1, .ref q2, .ref q3, .ref q4, .ref q5, .ref q6, .null, .null, .int 0, .int 0, .int 0, .int 0, .null, .null, .null, .null, .int 0, .int 0, .int 0, .null, .int 0, .int 0, .int 0, .int 0, .null, .int 0, .int 0, .null, .null, .int 0, .int 0])) :: [(q1, eA y 7 zr), (q2, eA y 6 zr), (q3, eA y 6 zr), (q4, eA y 6 zr), (q5, eA y 36 zr), (q6, eA y 6 zr)]) s H locs := hG
  refine lv_aload_n hx hb dX9_init_52 rfl (lv_at hl 0 rfl) ?_
  refine lv_bipush (v := 6) hx hb dX9_init_53 (by decide) ?_
  refine n_newi C hG (N' := 6) (by decide) (by decide) (Nat.le_of_ble_eq_true rfl) (Nat.le_of_ble_eq_true rfl) (Nat.le_of_ble_eq_true rfl) dX9_init_55 (fun q7 H hG => ?_)
  refine n_putF (T := TX9) (Nf := 31) (ci := 7) C hG inX9 tyX9 tyX9_ok nmX9 0 rfl rfl 6 (by decide) qF_X9_28 rfl rfl rfl rfl rfl (Nat.le_of_ble_eq_true rfl) dX9_init_57 (fun H locs hG => ?_)
  have hG : gN y A ((h0, .inr (7, [.ref q1, .ref q2, .ref q3, .ref q4, .ref q5, .ref q6, .ref q7, .null, .int 0, .int 0, .int 0, .int 0, .null, .null, .null, .null, .int 0, .int 0, .int 0, .null, .int 0, .int 0, .int 0, .int 0, .null, .int 0, .int 0, .null, .null, .int 0, .int 0])) :: [(q1, eA y 7 zr), (q2, eA y 6 zr), (q3, eA y 6 zr), (q4, eA y 6 zr), (q5, eA y 36 zr), (q6, eA y 6 zr), (q7, eA y 6 zr)]) s H locs := hG
  refine lv_aload_n hx hb dX9_init_60 rfl (lv_at hl 0 rfl) ?_
  refine lv_bipush (v := 6) hx hb dX9_init_61 (by decide) ?_
  refine n_newi C hG (N' := 6) (by decide) (by decide) (Nat.le_of_ble_eq_true rfl) (Nat.le_of_ble_eq_true rfl) (Nat.le_of_ble_eq_true rfl) dX9_init_63 (fun q8 H hG => ?_)
  refine n_putF (T := TX9) (Nf := 31) (ci := 7) C hG inX9 tyX9 tyX9_ok nmX9 0 rfl rfl 7 (by decide) qF_X9_31 rfl rfl rfl rfl rfl (Nat.le_of_ble_eq_true rfl) dX9_init_65 (fun H locs hG => ?_)
  have hG : gN y A ((h0, .inr (7, [.ref q1, .ref q2, .ref q3, .ref q4, .ref q5, .ref q6, .ref q7, .ref q8, .int 0, .int 0, .int 0, .int 0, .null, .null, .null, .null, .int 0, .int 0, .int 0, .null, .int 0, .int 0, .int 0, .int 0, .null, .int 0, .int 0, .null, .null, .int 0, .int 0])) :: [(q1, eA y 7 zr), (q2, eA y 6 zr), (q3, eA y 6 zr), (q4, eA y 6 zr), (q5, eA y 36 zr), (q6, eA y 6 zr), (q7, eA y 6 zr), (q8, eA y 6 zr)]) s H locs := hG
  refine lv_aload_n hx hb dX9_init_68 rfl (lv_at hl 0 rfl) ?_
  refine lv_bipush (v := 96) hx hb dX9_init_69 (by decide) ?_
  refine n_newi C hG (N' := 96) (by decide) (by decide) (Nat.le_of_ble_eq_true rfl) (Nat.le_of_ble_eq_true rfl) (Nat.le_of_ble_eq_true rfl) dX9_init_71 (fun q9 H hG => ?_)
  refine n_putF (T := TX9) (Nf := 31) (ci := 7) C hG inX9 tyX9 tyX9_ok nmX9 0 rfl rfl 12 (by decide) qF_X9_34 rfl rfl rfl rfl rfl (Nat.le_of_ble_eq_true rfl) dX9_init_73 (fun H locs hG => ?_)
  have hG : gN y A ((h0, .inr (7, [.ref q1, .ref q2, .ref q3, .ref q4, .ref q5, .ref q6, .ref q7, .ref q8, .int 0, .int 0, .int 0, .int 0, .ref q9, .null, .null, .null, .int 0, .int 0, .int 0, .null, .int 0, .int 0, .int 0, .int 0, .null, .int 0, .int 0, .null, .null, .int 0, .int 0])) :: [(q1, eA y 7 zr), (q2, eA y 6 zr), (q3, eA y 6 zr), (q4, eA y 6 zr), (q5, eA y 36 zr), (q6, eA y 6 zr), (q7, eA y 6 zr), (q8, eA y 6 zr), (q9, eA y 96 zr)]) s H locs := hG
  refine lv_aload_n hx hb dX9_init_76 rfl (lv_at hl 0 rfl) ?_
  refine lv_bipush (v := 48) hx hb dX9_init_77 (by decide) ?_
  refine n_newi C hG (N' := 48) (by decide) (by decide) (Nat.le_of_ble_eq_true rfl) (Nat.le_of_ble_eq_true rfl) (Nat.le_of_ble_eq_true rfl) dX9_init_79 (fun q10 H hG => ?_)
  refine n_putF (T := TX9) (Nf := 31) (ci := 7) C hG inX9 tyX9 tyX9_ok nmX9 0 rfl rfl 13 (by decide) qF_X9_37 rfl rfl rfl rfl rfl (Nat.le_of_ble_eq_true rfl) dX9_init_81 (fun H locs hG => ?_)
  have hG : gN y A ((h0, .inr (7, [.ref q1, .ref q2, .ref q3, .ref q4, .ref q5, .ref q6, .ref q7, .ref q8, .int 0, .int 0, .int 0, .int 0, .ref q9, .ref q10, .null, .null, .int 0, .int 0, .int 0, .null, .int 0, .int 0, .int 0, .int 0, .null, .int 0, .int 0, .null, .null, .int 0, .int 0])) :: [(q1, eA y 7 zr), (q2, eA y 6 zr), (q3, eA y 6 zr), (q4, eA y 6 zr), (q5, eA y 36 zr), (q6, eA y 6 zr), (q7, eA y 6 zr), (q8, eA y 6 zr), (q9, eA y 96 zr), (q10, eA y 48 zr)]) s H locs := hG
  refine lv_aload_n hx hb dX9_init_84 rfl (lv_at hl 0 rfl) ?_
  refine lv_bipush (v := 48) hx hb dX9_init_85 (by decide) ?_
  refine n_newi C hG (N' := 48) (by decide) (by decide) (Nat.le_of_ble_eq_true rfl) (Nat.le_of_ble_eq_true rfl) (Nat.le_of_ble_eq_true rfl) dX9_init_87 (fun q11 H hG => ?_)
  refine n_putF (T := TX9) (Nf := 31) (ci := 7) C hG inX9 tyX9 tyX9_ok nmX9 0 rfl rfl 14 (by decide) qF_X9_40 rfl rfl rfl rfl rfl (Nat.le_of_ble_eq_true rfl) dX9_init_89 (fun H locs hG => ?_)
  have hG : gN y A ((h0, .inr (7, [.ref q1, .ref q2, .ref q3, .ref q4, .ref q5, .ref q6, .ref q7, .ref q8, .int 0, .int 0, .int 0, .int 0, .ref q9, .ref q10, .ref q11, .null, .int 0, .int 0, .int 0, .null, .int 0, .int 0, .int 0, .int 0, .null, .int 0, .int 0, .null, .null, .int 0, .int 0])) :: [(q1, eA y 7 zr), (q2, eA y 6 zr), (q3, eA y 6 zr), (q4, eA y 6 zr), (q5, eA y 36 zr), (q6, eA y 6 zr), (q7, eA y 6 zr), (q8, eA y 6 zr), (q9, eA y 96 zr), (q10, eA y 48 zr), (q11, eA y 48 zr)]) s H locs := hG
  refine lv_aload_n hx hb dX9_init_92 rfl (lv_at hl 0 rfl) ?_
  refine lv_sipush (v := 144) hx hb dX9_init_93 (by decide) ?_
  refine n_newi C hG (N' := 144) (by decide) (by decide) (Nat.le_of_ble_eq_true rfl) (Nat.le_of_ble_eq_true rfl) (Nat.le_of_ble_eq_true rfl) dX9_init_96 (fun q12 H hG => ?_)
  refine n_putF (T := TX9) (Nf := 31) (ci := 7) C hG inX9 tyX9 tyX9_ok nmX9 0 rfl rfl 15 (by decide) qF_X9_43 rfl rfl rfl rfl rfl (Nat.le_of_ble_eq_true rfl) dX9_init_98 (fun H locs hG => ?_)
  have hG : gN y A ((h0, .inr (7, [.ref q1, .ref q2, .ref q3, .ref q4, .ref q5, .ref q6, .ref q7, .ref q8, .int 0, .int 0, .int 0, .int 0, .ref q9, .ref q10, .ref q11, .ref q12, .int 0, .int 0, .int 0, .null, .int 0, .int 0, .int 0, .int 0, .null, .int 0, .int 0, .null, .null, .int 0, .int 0])) :: [(q1, eA y 7 zr), (q2, eA y 6 zr), (q3, eA y 6 zr), (q4, eA y 6 zr), (q5, eA y 36 zr), (q6, eA y 6 zr), (q7, eA y 6 zr), (q8, eA y 6 zr), (q9, eA y 96 zr), (q10, eA y 48 zr), (q11, eA y 48 zr), (q12, eA y 144 zr)]) s H locs := hG
  refine lv_aload_n hx hb dX9_init_101 rfl (lv_at hl 0 rfl) ?_
  refine lv_sipush (v := 825) hx hb dX9_init_102 (by decide) ?_
  refine n_newi C hG (N' := 825) (by decide) (by decide) (Nat.le_of_ble_eq_true rfl) (Nat.le_of_ble_eq_true rfl) (Nat.le_of_ble_eq_true rfl) dX9_init_105 (fun q13 H hG => ?_)
  refine n_putF (T := TX9) (Nf := 31) (ci := 7) C hG inX9 tyX9 tyX9_ok nmX9 0 rfl rfl 19 (by decide) qF_X9_46 rfl rfl rfl rfl rfl (Nat.le_of_ble_eq_true rfl) dX9_init_107 (fun H locs hG => ?_)
  have hG : gN y A ((h0, .inr (7, [.ref q1, .ref q2, .ref q3, .ref q4, .ref q5, .ref q6, .ref q7, .ref q8, .int 0, .int 0, .int 0, .int 0, .ref q9, .ref q10, .ref q11, .ref q12, .int 0, .int 0, .int 0, .ref q13, .int 0, .int 0, .int 0, .int 0, .null, .int 0, .int 0, .null, .null, .int 0, .int 0])) :: [(q1, eA y 7 zr), (q2, eA y 6 zr), (q3, eA y 6 zr), (q4, eA y 6 zr), (q5, eA y 36 zr), (q6, eA y 6 zr), (q7, eA y 6 zr), (q8, eA y 6 zr), (q9, eA y 96 zr), (q10, eA y 48 zr), (q11, eA y 48 zr), (q12, eA y 144 zr), (q13, eA y 825 zr)]) s H locs := hG
  refine lv_aload_n hx hb dX9_init_110 rfl (lv_at hl 0 rfl) ?_
  refine lv_bipush (v := 6) hx hb dX9_init_111 (by decide) ?_
  refine n_newi C hG (N' := 6) (by decide) (by decide) (Nat.le_of_ble_eq_true rfl) (Nat.le_of_ble_eq_true rfl) (Nat.le_of_ble_eq_true rfl) dX9_init_113 (fun q14 H hG => ?_)
  refine n_putF (T := TX9) (Nf := 31) (ci := 7) C hG inX9 tyX9 tyX9_ok nmX9 0 rfl rfl 24 (by decide) qF_X9_49 rfl rfl rfl rfl rfl (Nat.le_of_ble_eq_true rfl) dX9_init_115 (fun H locs hG => ?_)
  have hG : gN y A ((h0, .inr (7, [.ref q1, .ref q2, .ref q3, .ref q4, .ref q5, .ref q6, .ref q7, .ref q8, .int 0, .int 0, .int 0, .int 0, .ref q9, .ref q10, .ref q11, .ref q12, .int 0, .int 0, .int 0, .ref q13, .int 0, .int 0, .int 0, .int 0, .ref q14, .int 0, .int 0, .null, .null, .int 0, .int 0])) :: [(q1, eA y 7 zr), (q2, eA y 6 zr), (q3, eA y 6 zr), (q4, eA y 6 zr), (q5, eA y 36 zr), (q6, eA y 6 zr), (q7, eA y 6 zr), (q8, eA y 6 zr), (q9, eA y 96 zr), (q10, eA y 48 zr), (q11, eA y 48 zr), (q12, eA y 144 zr), (q13, eA y 825 zr), (q14, eA y 6 zr)]) s H locs := hG
  refine lv_aload_n hx hb dX9_init_118 rfl (lv_at hl 0 rfl) ?_
  refine lv_bipush (v := 64) hx hb dX9_init_119 (by decide) ?_
  refine n_newi C hG (N' := 64) (by decide) (by decide) (Nat.le_of_ble_eq_true rfl) (Nat.le_of_ble_eq_true rfl) (Nat.le_of_ble_eq_true rfl) dX9_init_121 (fun q15 H hG => ?_)
  refine n_putF (T := TX9) (Nf := 31) (ci := 7) C hG inX9 tyX9 tyX9_ok nmX9 0 rfl rfl 27 (by decide) qF_X9_52 rfl rfl rfl rfl rfl (Nat.le_of_ble_eq_true rfl) dX9_init_123 (fun H locs hG => ?_)
  have hG : gN y A ((h0, .inr (7, [.ref q1, .ref q2, .ref q3, .ref q4, .ref q5, .ref q6, .ref q7, .ref q8, .int 0, .int 0, .int 0, .int 0, .ref q9, .ref q10, .ref q11, .ref q12, .int 0, .int 0, .int 0, .ref q13, .int 0, .int 0, .int 0, .int 0, .ref q14, .int 0, .int 0, .ref q15, .null, .int 0, .int 0])) :: [(q1, eA y 7 zr), (q2, eA y 6 zr), (q3, eA y 6 zr), (q4, eA y 6 zr), (q5, eA y 36 zr), (q6, eA y 6 zr), (q7, eA y 6 zr), (q8, eA y 6 zr), (q9, eA y 96 zr), (q10, eA y 48 zr), (q11, eA y 48 zr), (q12, eA y 144 zr), (q13, eA y 825 zr), (q14, eA y 6 zr), (q15, eA y 64 zr)]) s H locs := hG
  refine lv_aload_n hx hb dX9_init_126 rfl (lv_at hl 0 rfl) ?_
  refine lv_bipush (v := 12) hx hb dX9_init_127 (by decide) ?_
  refine n_newi C hG (N' := 12) (by decide) (by decide) (Nat.le_of_ble_eq_true rfl) (Nat.le_of_ble_eq_true rfl) (Nat.le_of_ble_eq_true rfl) dX9_init_129 (fun q16 H hG => ?_)
  refine n_putF (T := TX9) (Nf := 31) (ci := 7) C hG inX9 tyX9 tyX9_ok nmX9 0 rfl rfl 28 (by decide) qF_X9_55 rfl rfl rfl rfl rfl (Nat.le_of_ble_eq_true rfl) dX9_init_131 (fun H locs hG => ?_)
  have hG : gN y A ((h0, .inr (7, [.ref q1, .ref q2, .ref q3, .ref q4, .ref q5, .ref q6, .ref q7, .ref q8, .int 0, .int 0, .int 0, .int 0, .ref q9, .ref q10, .ref q11, .ref q12, .int 0, .int 0, .int 0, .ref q13, .int 0, .int 0, .int 0, .int 0, .ref q14, .int 0, .int 0, .ref q15, .ref q16, .int 0, .int 0])) :: [(q1, eA y 7 zr), (q2, eA y 6 zr), (q3, eA y 6 zr), (q4, eA y 6 zr), (q5, eA y 36 zr), (q6, eA y 6 zr), (q7, eA y 6 zr), (q8, eA y 6 zr), (q9, eA y 96 zr), (q10, eA y 48 zr), (q11, eA y 48 zr), (q12, eA y 144 zr), (q13, eA y 825 zr), (q14, eA y 6 zr), (q15, eA y 64 zr), (q16, eA y 12 zr)]) s H locs := hG
  refine lv_aload_n hx hb dX9_init_134 rfl (lv_at hl 0 rfl) ?_
  refine lv_iconst (v := 0) hx hb dX9_init_135 (by decide) ?_
  refine va_put (D := y.1) (ci := 7) (v := .int 0) (ty := .int) (C := RX9) (T := TX9) (N := 31) hx hb hts inX9 tyX9 tyX9_ok nmX9 hown hK hG.1 hG.2.1 hG.2.2 0 rfl rfl 9 (by decide) (hts _ qF_X9_58) (fun _ h => h) rfl (by decide +kernel) rfl rfl (Nat.le_of_ble_eq_true rfl) dX9_init_136 (fun H locs k1 k2 k3 => ?_)
  have hG : gN y A ((h0, .inr (7, [.ref q1, .ref q2, .ref q3, .ref q4, .ref q5, .ref q6, .ref q7, .ref q8, .int 0, .int 0, .int 0, .int 0, .ref q9, .ref q10, .ref q11, .ref q12, .int 0, .int 0, .int 0, .ref q13, .int 0, .int 0, .int 0, .int 0, .ref q14, .int 0, .int 0, .ref q15, .ref q16, .int 0, .int 0])) :: [(q1, eA y 7 zr), (q2, eA y 6 zr), (q3, eA y 6 zr), (q4, eA y 6 zr), (q5, eA y 36 zr), (q6, eA y 6 zr), (q7, eA y 6 zr), (q8, eA y 6 zr), (q9, eA y 96 zr), (q10, eA y 48 zr), (q11, eA y 48 zr), (q12, eA y 144 zr), (q13, eA y 825 zr), (q14, eA y 6 zr), (q15, eA y 64 zr), (q16, eA y 12 zr)]) s H locs := ⟨k1, k2, k3⟩
  exact n_ret C hG ⟨fun k => ([h0, q1, q2, q3, q4, q5, q6, q7, q8, q9, q10, q11, q12, q13, q14, q15, q16] : List Nat).getD k 0, rfl, rfl⟩ dX9_init_139
