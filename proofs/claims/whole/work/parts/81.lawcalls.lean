/-! from the law: two worlds side by side, and calls on either -/
def gL (yx ym : Sy) (st mt : St) (s : State) (H : Heap) (locs : List Loc) : Prop := va_P yx.1 vwCl (gW 107 enX yx st) H ∧ va_P ym.1 vwCl (gW 17 enM ym mt) H ∧ va_D (fun q => s.heap.size ≤ q) (gW 107 enX yx st) ∧ va_D (fun q => s.heap.size ≤ q) (gW 17 enM ym mt) ∧ (∀ i j, i < 107 → j < 17 → ad yx i ≠ ad ym j) ∧ va_S (fun q => s.heap.size ≤ q) s.heap H locs
def Lw (p : Program) (s : State) (m : MethodId) (meth : Method) (c : Code) (b L : Nat) (xs : Nat → Int32) (yx ym : Sy) : Prop :=
  p.tables.exec = Jvm.exec ∧ c.code = code ∧ meth.sig.returnType = ret ∧ c.maxLocals = 4 ∧ s.vm.findClass RL = some m.cls ∧ (∀ w ∈ lw_g, w.before #[Value.ref b] s = true) ∧ va_X b L xs s s.heap ∧ b < s.heap.size ∧ meth.locks = false ∧ va_K yx.1 vwCl (gT yx) s ∧ va_K ym.1 vwCl (gT ym) s ∧ nW s
theorem gW_own {N : Nat} {en : En} {y : Sy} {st : St} {A : Nat → Prop} (h : va_D A (gW N en y st)) : va_D (gA N y) (gW N en y st) := h.weaken fun k q hk _ => by
  obtain ⟨h1, rfl⟩ := gW_get hk
  exact ⟨k, h1, rfl⟩
theorem gW_in {N : Nat} {en : En} {y : Sy} {st : St} {A : Nat → Prop} (h : va_D A (gW N en y st)) : ∀ q, gA N y q → A q := fun q hq => by
  obtain ⟨k, hk, rfl⟩ := hq
  exact h.2 k _ (gW_at hk)
theorem gW_re {N : Nat} {en : En} {y : Sy} {st st' : St} {A : Nat → Prop} (h : va_D A (gW N en y st)) (h' : va_D (gA N y) (gW N en y st')) : va_D A (gW N en y st') := h'.weaken fun _ q _ hq => gW_in h q.1 hq
theorem gL_x {yx ym : Sy} {st st' mt : St} {s t : State} {H H1 : Heap} {locs locs1 : List Loc} (hG : gL yx ym st mt s H locs) (ht : t.heap = H1) (hB : gB 107 enX yx st' t) (hk : ∀ q : Nat, q < H.size → ¬ gA 107 yx q → H1[q]? = H[q]?) (hS : va_S (fun q => s.heap.size ≤ q) s.heap H1 locs1) : gL yx ym st' mt s H1 locs1 := by
  obtain ⟨g1, g2, g3, g4, g5, g6⟩ := hG
  obtain ⟨h1, -, h3⟩ := hB
  rw [ht] at h1
  refine ⟨h1, g2.kept fun k q hq => hk q.1 (g2 k q hq).lt fun hA => ?_, gW_re g3 h3, g4, g5, hS⟩
  obtain ⟨i, hi, e⟩ := hA
  obtain ⟨hj, rfl⟩ := gW_get hq
  exact g5 i k hi hj e.symm
theorem gL_m {yx ym : Sy} {st mt mt' : St} {s t : State} {H H1 : Heap} {locs locs1 : List Loc} (hG : gL yx ym st mt s H locs) (ht : t.heap = H1) (hB : gB 17 enM ym mt' t) (hk : ∀ q : Nat, q < H.size → ¬ gA 17 ym q → H1[q]? = H[q]?) (hS : va_S (fun q => s.heap.size ≤ q) s.heap H1 locs1) : gL yx ym st mt' s H1 locs1 := by
  obtain ⟨g1, g2, g3, g4, g5, g6⟩ := hG
  obtain ⟨h1, -, h3⟩ := hB
  rw [ht] at h1
  refine ⟨g1.kept fun k q hq => hk q.1 (g1 k q hq).lt fun hA => ?_, h1, g3, gW_re g4 h3, g5, hS⟩
  obtain ⟨j, hj, e⟩ := hA
  obtain ⟨hi, rfl⟩ := gW_get hq
  exact g5 k j hi hj e
section LawRows
variable {p : Program} {l : Launch} {e : Env} {s : State} {m : MethodId} {below : List Frame} {meth : Method} {c : Code} {H : Heap} {locs : List Loc} {Q : State → Prop} {pc : Nat} {ls : Array Slot} {rest stk As : List Value} {yx ym : Sy} {st mt : St} {b L : Nat} {xs : Nat → Int32}
variable {Y : MethodName} {bb : ByteArray} {nY idx fr lo N k ci : Nat} {rt : Option FieldType} {en : En} {y : Sy} {q : vw_C} {fs : List Value} {A : Nat → Prop} {Qc : Array Value → State → Outcome → State → Prop}
theorem l_run (C : Lw p s m meth c b L xs yx ym) (hK : va_K y.1 vwCl (gT y) s) (hP : va_P y.1 vwCl (gW N en y st) H) (hD : va_D A (gW N en y st)) (hM : Met l Y (cw Y bb nY rt) (rmm fr lo) (va_Pc (.ref (ad y k) :: As) (gP N en y st)) Qc 0 0 (gA N y)) (hk : k < N) (he : en y k (st k) = .inr (ci, fs)) (hc : vwCl[ci]? = some q) (hq : q.1 = Y.cls)
    (q1 : Cond.methodLink RL idx Y ∈ lw_g) (q2 : Cond.instanceMethod Y ∈ lw_g) (q3 : Cond.selects Y.cls Y Y ∈ lw_g) (q4 : Cond.initialized Y.cls ∈ lw_g) (q5 : Cond.code Y bb nY rt ∈ lw_g)
    (hd : Y.cls ≠ "java/lang/invoke/MethodHandle" ∧ Y.cls ≠ "java/lang/invoke/VarHandle" ∧ (parseMethodDescriptor Y.desc).map (fun d => d.parameters.length) = some As.length) (hR : fr + 1 ≤ room_1.frames ∧ 8 + (nY + 11) + lo ≤ room_1.locals)
    (hsize : ls.size = 4) (hstk : stk = As.reverse ++ .ref (ad y k) :: rest) (hW : (rest.map fun v => v.category).sum ≤ 8) (d : decode cL_law pc = .ok (.invokevirtual idx, 3)) :
    va_Run p l e room_1 s m #[Value.ref b] below meth c H locs 600000 7302250 0 0 (F0 m pc ls stk) rest (Qc (Value.ref (ad y k) :: As).toArray) (gA N y) := by
  obtain ⟨hx, hb, hr, hml, hown, hts, hX, hbl, hlk, -, -, hN⟩ := C
  exact va_runV (As := As) (rest := rest) ⟨hx, hb, hml, hown, hts⟩ hM
    (cwV (C := Y.cls) As.length hts (lw_gi (by
      intro w hw
      simp only [wsV, List.mem_append, List.mem_cons, List.not_mem_nil, or_false, cw] at hw
      rcases hw with (rfl | rfl | rfl | rfl) | (rfl | h)
      · exact q1
      · exact q2
      · exact q3
      · exact q4
      · exact q5
      · exact h)) rfl rfl rfl ⟨rfl, hd⟩ hR)
    ⟨gB_blind, by rw [← hq]; exact va_recv hK hP (ci := ci) (q0 := k) hc (by rw [gW_at hk, he]), fun U hU hW => ⟨rfl, ⟨by rw [hU]; exact hP, va_K.moved hW.alike hK, gW_own hD⟩, hN.warm hW⟩⟩ rfl rfl hsize hstk (lv_room hW) d ⟨Nat.le_of_ble_eq_true rfl, Nat.le_of_ble_eq_true rfl⟩
theorem l_xi {K : Int32 → St → Prop} (C : Lw p s m meth c b L xs yx ym) (hG : gL yx ym st mt s H locs) (hM : Ci 107 enX l Y bb nY rt fr lo yx (.ref (ad yx 0) :: As) st K) (hq : RX8 = Y.cls)
    (q1 : Cond.methodLink RL idx Y ∈ lw_g) (q2 : Cond.instanceMethod Y ∈ lw_g) (q3 : Cond.selects Y.cls Y Y ∈ lw_g) (q4 : Cond.initialized Y.cls ∈ lw_g) (q5 : Cond.code Y bb nY rt ∈ lw_g)
    (hd : Y.cls ≠ "java/lang/invoke/MethodHandle" ∧ Y.cls ≠ "java/lang/invoke/VarHandle" ∧ (parseMethodDescriptor Y.desc).map (fun d => d.parameters.length) = some As.length) (hR : fr + 1 ≤ room_1.frames ∧ 8 + (nY + 11) + lo ≤ room_1.locals)
    (hsize : ls.size = 4) (hstk : stk = As.reverse ++ .ref (ad yx 0) :: rest) (hW : (rest.map fun v => v.category).sum ≤ 8) (d : decode cL_law pc = .ok (.invokevirtual idx, 3))
    (kk : ∀ (r : Int32) (st' : St) (H1 : Heap) (locs1 : List Loc), K r st' → gL yx ym st' mt s H1 locs1 → W p l e room_1 s m #[Value.ref b] below meth c H1 locs1 600000 7302250 Q (F0 m (pc + 3) ls (.int r :: rest))) : W p l e room_1 s m #[Value.ref b] below meth c H locs 600000 7302250 Q (F0 m pc ls stk) := by
  have hC := C
  obtain ⟨hx, hb, hr, hml, hown, hts, hX, hbl, hlk, hKx, hKm, hN⟩ := C
  have hG' := hG
  obtain ⟨g1, g2, g3, g4, g5, g6⟩ := hG'
  exact va_calli (l_run hC hKx g1 g3 hM (by decide) rfl (ci := 6) rfl hq q1 q2 q3 q4 q5 hd hR hsize hstk hW d) g6 (fun q _ h => gW_in g3 q h) (gW_in g3) fun r u t H1 locs1 ht _ hp hB _ hk hS => kk r u H1 locs1 hp (gL_x hG ht hB hk hS)
theorem l_mi {K : Int32 → St → Prop} (C : Lw p s m meth c b L xs yx ym) (hG : gL yx ym st mt s H locs) (hM : Ci 17 enM l Y bb nY rt fr lo ym (.ref (ad ym 0) :: As) mt K) (hq : RX9 = Y.cls)
    (q1 : Cond.methodLink RL idx Y ∈ lw_g) (q2 : Cond.instanceMethod Y ∈ lw_g) (q3 : Cond.selects Y.cls Y Y ∈ lw_g) (q4 : Cond.initialized Y.cls ∈ lw_g) (q5 : Cond.code Y bb nY rt ∈ lw_g)
    (hd : Y.cls ≠ "java/lang/invoke/MethodHandle" ∧ Y.cls ≠ "java/lang/invoke/VarHandle" ∧ (parseMethodDescriptor Y.desc).map (fun d => d.parameters.length) = some As.length) (hR : fr + 1 ≤ room_1.frames ∧ 8 + (nY + 11) + lo ≤ room_1.locals)
    (hsize : ls.size = 4) (hstk : stk = As.reverse ++ .ref (ad ym 0) :: rest) (hW : (rest.map fun v => v.category).sum ≤ 8) (d : decode cL_law pc = .ok (.invokevirtual idx, 3))
    (kk : ∀ (r : Int32) (mt' : St) (H1 : Heap) (locs1 : List Loc), K r mt' → gL yx ym st mt' s H1 locs1 → W p l e room_1 s m #[Value.ref b] below meth c H1 locs1 600000 7302250 Q (F0 m (pc + 3) ls (.int r :: rest))) : W p l e room_1 s m #[Value.ref b] below meth c H locs 600000 7302250 Q (F0 m pc ls stk) := by
  have hC := C
  obtain ⟨hx, hb, hr, hml, hown, hts, hX, hbl, hlk, hKx, hKm, hN⟩ := C
  have hG' := hG
  obtain ⟨g1, g2, g3, g4, g5, g6⟩ := hG'
  exact va_calli (l_run hC hKm g2 g4 hM (by decide) rfl (ci := 7) rfl hq q1 q2 q3 q4 q5 hd hR hsize hstk hW d) g6 (fun q _ h => gW_in g4 q h) (gW_in g4) fun r u t H1 locs1 ht _ hp hB _ hk hS => kk r u H1 locs1 hp (gL_m hG ht hB hk hS)
theorem l_xl {K : Int64 → St → Prop} (C : Lw p s m meth c b L xs yx ym) (hG : gL yx ym st mt s H locs) (hM : Cl 107 enX l Y bb nY rt fr lo yx (.ref (ad yx 0) :: As) st K) (hq : RX8 = Y.cls)
    (q1 : Cond.methodLink RL idx Y ∈ lw_g) (q2 : Cond.instanceMethod Y ∈ lw_g) (q3 : Cond.selects Y.cls Y Y ∈ lw_g) (q4 : Cond.initialized Y.cls ∈ lw_g) (q5 : Cond.code Y bb nY rt ∈ lw_g)
    (hd : Y.cls ≠ "java/lang/invoke/MethodHandle" ∧ Y.cls ≠ "java/lang/invoke/VarHandle" ∧ (parseMethodDescriptor Y.desc).map (fun d => d.parameters.length) = some As.length) (hR : fr + 1 ≤ room_1.frames ∧ 8 + (nY + 11) + lo ≤ room_1.locals)
    (hsize : ls.size = 4) (hstk : stk = As.reverse ++ .ref (ad yx 0) :: rest) (hW : (rest.map fun v => v.category).sum ≤ 8) (d : decode cL_law pc = .ok (.invokevirtual idx, 3))
    (kk : ∀ (r : Int64) (st' : St) (H1 : Heap) (locs1 : List Loc), K r st' → gL yx ym st' mt s H1 locs1 → W p l e room_1 s m #[Value.ref b] below meth c H1 locs1 600000 7302250 Q (F0 m (pc + 3) ls (.long r :: rest))) : W p l e room_1 s m #[Value.ref b] below meth c H locs 600000 7302250 Q (F0 m pc ls stk) := by
  have hC := C
  obtain ⟨hx, hb, hr, hml, hown, hts, hX, hbl, hlk, hKx, hKm, hN⟩ := C
  have hG' := hG
  obtain ⟨g1, g2, g3, g4, g5, g6⟩ := hG'
  exact va_calll (l_run hC hKx g1 g3 hM (by decide) rfl (ci := 6) rfl hq q1 q2 q3 q4 q5 hd hR hsize hstk hW d) g6 (fun q _ h => gW_in g3 q h) (gW_in g3) fun r u t H1 locs1 ht _ hp hB _ hk hS => kk r u H1 locs1 hp (gL_x hG ht hB hk hS)
theorem l_ml {K : Int64 → St → Prop} (C : Lw p s m meth c b L xs yx ym) (hG : gL yx ym st mt s H locs) (hM : Cl 17 enM l Y bb nY rt fr lo ym (.ref (ad ym 0) :: As) mt K) (hq : RX9 = Y.cls)
    (q1 : Cond.methodLink RL idx Y ∈ lw_g) (q2 : Cond.instanceMethod Y ∈ lw_g) (q3 : Cond.selects Y.cls Y Y ∈ lw_g) (q4 : Cond.initialized Y.cls ∈ lw_g) (q5 : Cond.code Y bb nY rt ∈ lw_g)
    (hd : Y.cls ≠ "java/lang/invoke/MethodHandle" ∧ Y.cls ≠ "java/lang/invoke/VarHandle" ∧ (parseMethodDescriptor Y.desc).map (fun d => d.parameters.length) = some As.length) (hR : fr + 1 ≤ room_1.frames ∧ 8 + (nY + 11) + lo ≤ room_1.locals)
    (hsize : ls.size = 4) (hstk : stk = As.reverse ++ .ref (ad ym 0) :: rest) (hW : (rest.map fun v => v.category).sum ≤ 8) (d : decode cL_law pc = .ok (.invokevirtual idx, 3))
    (kk : ∀ (r : Int64) (mt' : St) (H1 : Heap) (locs1 : List Loc), K r mt' → gL yx ym st mt' s H1 locs1 → W p l e room_1 s m #[Value.ref b] below meth c H1 locs1 600000 7302250 Q (F0 m (pc + 3) ls (.long r :: rest))) : W p l e room_1 s m #[Value.ref b] below meth c H locs 600000 7302250 Q (F0 m pc ls stk) := by
  have hC := C
  obtain ⟨hx, hb, hr, hml, hown, hts, hX, hbl, hlk, hKx, hKm, hN⟩ := C
  have hG' := hG
  obtain ⟨g1, g2, g3, g4, g5, g6⟩ := hG'
  exact va_calll (l_run hC hKm g2 g4 hM (by decide) rfl (ci := 7) rfl hq q1 q2 q3 q4 q5 hd hR hsize hstk hW d) g6 (fun q _ h => gW_in g4 q h) (gW_in g4) fun r u t H1 locs1 ht _ hp hB _ hk hS => kk r u H1 locs1 hp (gL_m hG ht hB hk hS)
/-- an int of the script -/
theorem l_arg (C : Lw p s m meth c b L xs yx ym) (hG : gL yx ym st mt s H locs) {x j : Int32} (hj : vp_in (x + j) L) {n : Int} (hl : lv_has ls 4 [(0, .ref b), (1, .ref (ad yx 0)), (2, .ref (ad ym 0)), (3, .int x)]) (d1 : decode cL_law pc = .ok (.aload_n 0, 1)) (d2 : decode cL_law (pc + 1) = .ok (.iload_n 3, 1)) (d3 : decode cL_law (pc + 2) = .ok (.iconst n, 1)) (hn : Int32.ofInt n = j) (d4 : decode cL_law (pc + 3) = .ok (.iadd, 1)) (d5 : decode cL_law (pc + 4) = .ok (.iaload, 1))
    (kk : W p l e room_1 s m #[Value.ref b] below meth c H locs 600000 7302250 Q (F0 m (pc + 5) ls (.int (xs (x + j).toNatClampNeg) :: rest))) : W p l e room_1 s m #[Value.ref b] below meth c H locs 600000 7302250 Q (F0 m pc ls rest) := by
  obtain ⟨hx, hb, hr, hml, hown, hts, hX, hbl, hlk, hKx, hKm, hN⟩ := C
  refine lv_aload_n hx hb d1 rfl (lv_at hl 0 rfl) ?_
  refine lv_iload_n hx hb d2 rfl (lv_at hl 3 rfl) ?_
  refine lv_iconst (v := j) hx hb d3 hn ?_
  refine lv_iadd hx hb d4 ?_
  exact va_sld hx hb hX hbl (Nat.not_le.mpr hbl) hG.2.2.2.2.2 hj d5 kk
theorem l_arg2 (C : Lw p s m meth c b L xs yx ym) (hG : gL yx ym st mt s H locs) {x j : Int32} (hj : vp_in (x + j) L) {n : Int} (hl : lv_has ls 4 [(0, .ref b), (1, .ref (ad yx 0)), (2, .ref (ad ym 0)), (3, .int x)]) (d1 : decode cL_law pc = .ok (.aload_n 0, 1)) (d2 : decode cL_law (pc + 1) = .ok (.iload_n 3, 1)) (d3 : decode cL_law (pc + 2) = .ok (.bipush n, 2)) (hn : (Int8.ofInt n).toInt32 = j) (d4 : decode cL_law (pc + 4) = .ok (.iadd, 1)) (d5 : decode cL_law (pc + 5) = .ok (.iaload, 1))
    (kk : W p l e room_1 s m #[Value.ref b] below meth c H locs 600000 7302250 Q (F0 m (pc + 6) ls (.int (xs (x + j).toNatClampNeg) :: rest))) : W p l e room_1 s m #[Value.ref b] below meth c H locs 600000 7302250 Q (F0 m pc ls rest) := by
  obtain ⟨hx, hb, hr, hml, hown, hts, hX, hbl, hlk, hKx, hKm, hN⟩ := C
  refine lv_aload_n hx hb d1 rfl (lv_at hl 0 rfl) ?_
  refine lv_iload_n hx hb d2 rfl (lv_at hl 3 rfl) ?_
  refine lv_bipush (v := j) hx hb d3 hn ?_
  refine lv_iadd hx hb d4 ?_
  exact va_sld hx hb hX hbl (Nat.not_le.mpr hbl) hG.2.2.2.2.2 hj d5 kk
end LawRows
theorem lg_cmp_rf (x : Int64) : lg_cmp x x = 0 := by
  unfold lg_cmp
  rw [if_neg Int64.lt_irrefl, if_pos rfl]
