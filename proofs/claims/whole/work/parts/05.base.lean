/-! the world: cells by number; st k j: the int in place j of cell k -/
abbrev St : Type := Nat → Nat → Int32
def u1 (st : St) (k : Nat) (f : Nat → Int32) : St := fun j => if j = k then f else st j
def u2 (st : St) (k j : Nat) (v : Int32) : St := u1 st k (upd (st k) j v)
abbrev Sy : Type := va_G × ClassId × ClassId × (Nat → Nat)
abbrev En : Type := Sy → Nat → (Nat → Int32) → va_E
abbrev ad (y : Sy) (k : Nat) : Nat := y.2.2.2 k
def gW (N : Nat) (en : En) (y : Sy) (st : St) : va_W := (List.range N).map fun k => (ad y k, en y k (st k))
theorem gW_at {N : Nat} {en : En} {y : Sy} {st : St} {k : Nat} (hk : k < N) : (gW N en y st)[k]? = some (ad y k, en y k (st k)) := by
  simp [gW, hk]
theorem gW_set {N : Nat} {en : En} {y : Sy} {st : St} {k : Nat} (hk : k < N) (f : Nat → Int32) : (gW N en y st).set k (ad y k, en y k f) = gW N en y (u1 st k f) := by
  apply List.ext_getElem?
  intro i
  by_cases hi : i = k
  · subst hi
    rw [List.getElem?_set_self (by simp [gW, hk]), gW_at hk]
    simp [u1]
  · rw [List.getElem?_set_ne (fun h => hi h.symm)]
    by_cases hl : i < N
    · rw [gW_at hl, gW_at hl]; simp [u1, hi]
    · simp [gW, hl]
def gA (N : Nat) (y : Sy) : Nat → Prop := fun q => ∃ k, k < N ∧ q = ad y k
abbrev gT (y : Sy) : List (ClassId × FieldType) := [(y.2.1, .int), (y.2.2.1, .object "OnlyTwoEnemies$Country")]
def gB (N : Nat) (en : En) (y : Sy) (st : St) (U : State) : Prop := va_P y.1 vwCl (gW N en y st) U.heap ∧ va_K y.1 vwCl (gT y) U ∧ va_D (gA N y) (gW N en y st)
def gH (N : Nat) (en : En) (y : Sy) (st : St) (s : State) (H : Heap) (locs : List Loc) : Prop := va_P y.1 vwCl (gW N en y st) H ∧ va_D (gA N y) (gW N en y st) ∧ va_S (gA N y) s.heap H locs
def isNest : Cond → Bool
  | .methodLinkNest .. => true
  | _ => false
def nW (U : State) : Prop := ∀ w ∈ lw_tbl, isNest w = true → va_Nw w U
theorem nW.warm {s U : State} (hW : s.WarmedH U.vm) (h : nW s) : nW U := by
  intro w hw hn
  cases w <;> first | (cases hn; done) | exact va_Nw.warmM hW (h _ hw hn)
theorem nW.same {s U : State} (hv : s.vm = U.vm) (h : nW s) : nW U := by
  intro w hw hn
  cases w <;> first | (cases hn; done) | exact va_Nw.same rfl hv (h _ hw hn)
def gP (N : Nat) (en : En) (y : Sy) (st : St) (U : State) : Prop := gB N en y st U ∧ nW U
def cw (Y : MethodName) (b : ByteArray) (n : Nat) (ret : Option FieldType) : List Cond := .code Y b n ret :: lw_g
abbrev rmm (fr lo : Nat) : Room := { frames := fr, cells := 0, slots := 0, locals := lo }
abbrev Ci (N : Nat) (en : En) (l : Launch) (Y : MethodName) (b : ByteArray) (n : Nat) (ret : Option FieldType) (fr lo : Nat) (y : Sy) (av : List Value) (st : St) (K : Int32 → St → Prop) : Prop :=
  Met l Y (cw Y b n ret) (rmm fr lo) (va_Pc av (gP N en y st)) (va_Qi K (gB N en y) (gA N y)) 0 0 (gA N y)
abbrev Cl (N : Nat) (en : En) (l : Launch) (Y : MethodName) (b : ByteArray) (n : Nat) (ret : Option FieldType) (fr lo : Nat) (y : Sy) (av : List Value) (st : St) (K : Int64 → St → Prop) : Prop :=
  Met l Y (cw Y b n ret) (rmm fr lo) (va_Pc av (gP N en y st)) (va_Ql K (gB N en y) (gA N y)) 0 0 (gA N y)
abbrev Cv (N : Nat) (en : En) (l : Launch) (Y : MethodName) (b : ByteArray) (n : Nat) (ret : Option FieldType) (fr lo : Nat) (y : Sy) (av : List Value) (st : St) (K : St → Prop) : Prop :=
  Met l Y (cw Y b n ret) (rmm fr lo) (va_Pc av (gP N en y st)) (va_Qv K (gB N en y) (gA N y)) 0 0 (gA N y)
/-- what every row of a method's body needs -/
def Sd (p : Program) (s : State) (m : MethodId) (args : Array Value) (meth : Method) (c : Code) (cc : ByteArray) (nL : Nat) (own : String) (ret : Option FieldType) (y : Sy) : Prop :=
  p.tables.exec = Jvm.exec ∧ c.code = cc ∧ c.maxLocals = nL ∧ s.vm.findClass own = some m.cls ∧ (∀ w ∈ lw_g, w.before args s = true) ∧ meth.sig.returnType = ret ∧ meth.locks = false ∧ va_K y.1 vwCl (gT y) s ∧ nW s
theorem gB_blind {N : Nat} {en : En} {y : Sy} {st : St} {av : List Value} : FrameBlind (va_Pc av (gP N en y st)) := fun a U g mk q => by
  obtain ⟨e, ⟨qP, qK, qD⟩, qN⟩ := q
  exact ⟨e, ⟨qP, va_K.moved (u := U) (U := U.calling g mk a) (Vm.Alike.refl U.vm) qK, qD⟩, nW.same (s := U) (U := U.calling g mk a) rfl qN⟩
theorem ent {l : Launch} {Y : MethodName} {cc : ByteArray} {n : Nat} {ret : Option FieldType} {fr lo N : Nat} {en : En} {y : Sy} {av : List Value} {st : St} {Qc : Array Value → State → Outcome → State → Prop} (hcls : plainName Y.cls = true) (hlen : (lg_sl av).length ≤ n)
    (body : ∀ (p : Program) (e : Env) (s : State) (m : MethodId) (below : List Frame) (meth : Method) (c : Code), Sd p s m av.toArray meth c cc n Y.cls ret y → gH N en y st s s.heap [] → ∀ ls : Array Slot, lv_has ls n (lv_args 0 av) →
      W p l e (rmm fr lo) s m av.toArray below meth c s.heap [] 0 0 (MQ below Qc av.toArray s 0 0 (gA N y)) (F0 m 0 ls [])) :
    Met l Y (cw Y cc n ret) (rmm fr lo) (va_Pc av (gP N en y st)) Qc 0 0 (gA N y) := by
  refine Met.ofW (cc := cc) (maxL := n) (ret := ret) hcls rfl ?_
  intro p e s m args below meth c s₁ B hml hv
  obtain ⟨rfl, ⟨hP, hK, hD⟩, hN⟩ := hv
  have hts := atoms_spec (ws := cw Y cc n ret) B.pre
  have hown : s.vm.findClass Y.cls = some m.cls := findClass_of_methodNamed B.named
  rw [lg_entry_eq]
  exact body p e s m below meth c ⟨B.exec, B.bytes, hml, hown, fun w h => hts w (List.mem_cons_of_mem _ h), B.returns, B.notSynchronized, hK, hN⟩ ⟨hP, hD, va_S.rf⟩ _ (lv_entry av hlen)
section Rows
variable {p : Program} {l : Launch} {e : Env} {R : Room} {s : State} {m : MethodId} {args : Array Value} {below : List Frame} {meth : Method} {c : Code} {H : Heap} {locs : List Loc} {Q : State → Prop} {cc : ByteArray} {pc : Nat} {ls : Array Slot} {rest : List Value} {N : Nat} {en : En} {y : Sy} {st : St} {own : String}
theorem r_get (hx : p.tables.exec = Jvm.exec) (hb : c.code = cc) (hts : ∀ w ∈ lw_g, w.before args s = true) (hown : s.vm.findClass own = some m.cls) (hK : va_K y.1 vwCl (gT y) s) (hG : gH N en y st s H locs) {k ci idx Nf : Nat} {C : String} {T : u_T} {fs : List Value} {v : Value} (hk : k < N) (he : en y k (st k) = .inr (ci, fs)) (hc : vwCl[ci]? = some (C, T, Nf)) (hin : ∀ w ∈ u_ws C T Nf, w ∈ lw_g) (j : Nat) (hj : j < Nf)
    (hl : Cond.fieldLink own idx (T j).1 (T j).2.1 (T j).2.2.1 ∈ lw_g) (hv : fs[j]? = some v) (d : decode cc pc = .ok (.getfield idx, 3)) (kk : W p l e R s m args below meth c H locs 0 0 Q (F0 m (pc + 3) ls (v :: rest))) : W p l e R s m args below meth c H locs 0 0 Q (F0 m pc ls (.ref (ad y k) :: rest)) :=
  va_get hx hb hts hin hown hK hG.1 k (by rw [gW_at hk, he]) hc j hj (hts _ hl) (fun x h => h) hv d kk
theorem r_put (hx : p.tables.exec = Jvm.exec) (hb : c.code = cc) (hts : ∀ w ∈ lw_g, w.before args s = true) (hown : s.vm.findClass own = some m.cls) (hK : va_K y.1 vwCl (gT y) s) (hG : gH N en y st s H locs) {k ci idx Nf : Nat} {C : String} {T : u_T} {fs : List Value} {ty0 : Nat → FieldType} (hk : k < N) (he : en y k (st k) = .inr (ci, fs)) (hc : vwCl[ci]? = some (C, T, Nf)) (hin : ∀ w ∈ u_ws C T Nf, w ∈ lw_g) (hty : ∀ k, k < Nf → parseFieldDescriptor (T k).2.2.1 = some (ty0 k)) (hnm : ∀ a, a < Nf → ∀ b, b < Nf → a ≠ b → (T a).2.1 ≠ (T b).2.1) (j : Nat) (hj : j < Nf)
    (hl : Cond.fieldLink own idx (T j).1 (T j).2.1 (T j).2.2.1 ∈ lw_g) (hfin : (T j).2.2.2 = false) (v : Int32) (hes : en y k (upd (st k) j v) = .inr (ci, fs.set j (.int v))) (hn : narrow (ty0 j) (.int v) = .int v) (hfit : fits (ty0 j) (.int v) = true) (hl2 : j < fs.length) (d : decode cc pc = .ok (.putfield idx, 3))
    (kk : ∀ (H1 : Heap) (locs1 : List Loc), gH N en y (u2 st k j v) s H1 locs1 → W p l e R s m args below meth c H1 locs1 0 0 Q (F0 m (pc + 3) ls rest)) : W p l e R s m args below meth c H locs 0 0 Q (F0 m pc ls (.int v :: .ref (ad y k) :: rest)) :=
  va_put hx hb hts hin ty0 hty hnm hown hK hG.1 hG.2.1 hG.2.2 k (by rw [gW_at hk, he]) hc j hj (hts _ hl) (fun x h => h) hfin (hty j hj) hn hfit hl2 d fun H1 locs1 h1 h2 h3 => kk H1 locs1 (by
    rw [← hes, gW_set hk] at h1 h2
    exact ⟨h1, h2, h3⟩)
theorem r_iald (hx : p.tables.exec = Jvm.exec) (hb : c.code = cc) (hK : va_K y.1 vwCl (gT y) s) (hG : gH N en y st s H locs) {k n : Nat} (hk : k < N) (he : en y k (st k) = .inl (y.2.1, n, .inl (st k))) {i : Int32} (hi : vp_in i n) (d : decode cc pc = .ok (.iaload, 1))
    (kk : W p l e R s m args below meth c H locs 0 0 Q (F0 m (pc + 1) ls (.int (st k i.toNatClampNeg) :: rest))) : W p l e R s m args below meth c H locs 0 0 Q (F0 m pc ls (.int i :: .ref (ad y k) :: rest)) :=
  va_iald hx hb hK hG.1 k 0 (by rw [gW_at hk, he]) rfl hi d kk
theorem r_iast (hx : p.tables.exec = Jvm.exec) (hb : c.code = cc) (hK : va_K y.1 vwCl (gT y) s) (hG : gH N en y st s H locs) {k n : Nat} (hk : k < N) (he : ∀ f, en y k f = .inl (y.2.1, n, .inl f)) {i v : Int32} (hi : vp_in i n) (d : decode cc pc = .ok (.iastore, 1))
    (kk : ∀ (H1 : Heap) (locs1 : List Loc), gH N en y (u2 st k i.toNatClampNeg v) s H1 locs1 → W p l e R s m args below meth c H1 locs1 0 0 Q (F0 m (pc + 1) ls rest)) : W p l e R s m args below meth c H locs 0 0 Q (F0 m pc ls (.int v :: .int i :: .ref (ad y k) :: rest)) :=
  va_iast hx hb hK hG.1 hG.2.1 hG.2.2 k 0 (by rw [gW_at hk, he]) rfl hi d fun H1 locs1 h1 h2 h3 => kk H1 locs1 (by
    rw [← he, gW_set hk] at h1 h2
    exact ⟨h1, h2, h3⟩)
theorem r_alen (hx : p.tables.exec = Jvm.exec) (hb : c.code = cc) (hK : va_K y.1 vwCl (gT y) s) (hG : gH N en y st s H locs) {k n : Nat} {v : Int32} (hk : k < N) (he : en y k (st k) = .inl (y.2.1, n, .inl (st k))) (hv : Int32.ofNat n = v) (d : decode cc pc = .ok (.arraylength, 1))
    (kk : W p l e R s m args below meth c H locs 0 0 Q (F0 m (pc + 1) ls (.int v :: rest))) : W p l e R s m args below meth c H locs 0 0 Q (F0 m pc ls (.ref (ad y k) :: rest)) :=
  va_alen hx hb hK hG.1 k 0 (by rw [gW_at hk, he]) rfl hv d kk
theorem r_iret (hx : p.tables.exec = Jvm.exec) (hb : c.code = cc) {ty : FieldType} (hr : meth.sig.returnType = some ty) (hlk : meth.locks = false) (hK : va_K y.1 vwCl (gT y) s) (hG : gH N en y st s H locs) {K : Int32 → St → Prop} {v : Int32} (hn : narrow ty (.int v) = .int v) (hw : K v st) (d : decode cc pc = .ok (.ireturn, 1)) :
    W p l e R s m args below meth c H locs 0 0 (MQ below (va_Qi K (gB N en y) (gA N y)) args s 0 0 (gA N y)) (F0 m pc ls [.int v]) :=
  W.zret hx hb hr hn (fun t ht hW => ⟨⟨v, st, rfl, hw, by rw [ht]; exact hG.1, va_K.moved hW.alike hK, hG.2.1⟩, hG.2.2.F ht⟩) hG.2.2.2.2 d hlk
theorem r_lret (hx : p.tables.exec = Jvm.exec) (hb : c.code = cc) (hr : meth.sig.returnType = some .long) (hlk : meth.locks = false) (hK : va_K y.1 vwCl (gT y) s) (hG : gH N en y st s H locs) {K : Int64 → St → Prop} {v : Int64} (hw : K v st) (d : decode cc pc = .ok (.lreturn, 1)) :
    W p l e R s m args below meth c H locs 0 0 (MQ below (va_Ql K (gB N en y) (gA N y)) args s 0 0 (gA N y)) (F0 m pc ls [.long v]) :=
  W.lret hx hb hr (fun t ht hW => ⟨⟨v, st, rfl, hw, by rw [ht]; exact hG.1, va_K.moved hW.alike hK, hG.2.1⟩, hG.2.2.F ht⟩) hG.2.2.2.2 d hlk
theorem r_vret (hx : p.tables.exec = Jvm.exec) (hb : c.code = cc) (hr : meth.sig.returnType = none) (hlk : meth.locks = false) (hK : va_K y.1 vwCl (gT y) s) (hG : gH N en y st s H locs) {K : St → Prop} (hw : K st) (d : decode cc pc = .ok (.return_, 1)) :
    W p l e R s m args below meth c H locs 0 0 (MQ below (va_Qv K (gB N en y) (gA N y)) args s 0 0 (gA N y)) (F0 m pc ls []) :=
  W.vret hx hb hr (fun t ht hW => ⟨⟨st, rfl, hw, by rw [ht]; exact hG.1, va_K.moved hW.alike hK, hG.2.1⟩, hG.2.2.F ht⟩) hG.2.2.2.2 d hlk
/-- what a call gives back, by the world -/
theorem g_back {H1 : Heap} {locs1 : List Loc} {t : State} {st' : St} (ht : t.heap = H1) (hB : gB N en y st' t) (hS : va_S (gA N y) s.heap H1 locs1) : gH N en y st' s H1 locs1 := by
  obtain ⟨h1, -, h3⟩ := hB
  rw [ht] at h1
  exact ⟨h1, h3, hS⟩
theorem g_pre {av : List Value} (hK : va_K y.1 vwCl (gT y) s) (hN : nW s) (hG : gH N en y st s H locs) : ∀ U : State, U.heap = H → s.WarmedH U.vm → va_Pc av (gP N en y st) av.toArray U := fun U hU hW => ⟨rfl, ⟨by rw [hU]; exact hG.1, va_K.moved hW.alike hK, hG.2.1⟩, hN.warm hW⟩
variable {Y : MethodName} {b : ByteArray} {nY idx fr lo nL : Nat} {rt : Option FieldType} {As stk : List Value}
theorem r_run_V {k ci : Nat} {q : vw_C} {fs : List Value} {Qc : Array Value → State → Outcome → State → Prop} (hx : p.tables.exec = Jvm.exec) (hb : c.code = cc) (hml : c.maxLocals = nL) (hown : s.vm.findClass own = some m.cls) (hts : ∀ w ∈ lw_g, w.before args s = true) (hK : va_K y.1 vwCl (gT y) s) (hN : nW s) (hG : gH N en y st s H locs)
    (hM : Met l Y (cw Y b nY rt) (rmm fr lo) (va_Pc (.ref (ad y k) :: As) (gP N en y st)) Qc 0 0 (gA N y)) (hk : k < N) (he : en y k (st k) = .inr (ci, fs)) (hc : vwCl[ci]? = some q) (hq : q.1 = Y.cls)
    (q1 : Cond.methodLink own idx Y ∈ lw_g) (q2 : Cond.instanceMethod Y ∈ lw_g) (q3 : Cond.selects Y.cls Y Y ∈ lw_g) (q4 : Cond.initialized Y.cls ∈ lw_g) (q5 : Cond.code Y b nY rt ∈ lw_g)
    (hd : Y.cls ≠ "java/lang/invoke/MethodHandle" ∧ Y.cls ≠ "java/lang/invoke/VarHandle" ∧ (parseMethodDescriptor Y.desc).map (fun d => d.parameters.length) = some As.length) (hR : fr + 1 ≤ R.frames ∧ 8 + (nY + 11) + lo ≤ R.locals)
    (hsize : ls.size = nL) (hstk : stk = As.reverse ++ .ref (ad y k) :: rest) (hW : (rest.map fun v => v.category).sum ≤ 8) (d : decode cc pc = .ok (.invokevirtual idx, 3)) :
    va_Run p l e R s m args below meth c H locs 0 0 0 0 (F0 m pc ls stk) rest (Qc (Value.ref (ad y k) :: As).toArray) (gA N y) :=
  va_runV (As := As) (rest := rest) ⟨hx, hb, hml, hown, hts⟩ hM
    (cwV (C := Y.cls) As.length hts (lw_gi (by
      intro w hw
      simp only [wsV, List.mem_append, List.mem_cons, List.not_mem_nil, or_false, cw] at hw
      rcases hw with (rfl | rfl | rfl | rfl) | (rfl | h)
      · exact q1
      · exact q2
      · exact q3
      · exact q4
      · exact q5
      · exact h)) rfl rfl rfl ⟨rfl, hd⟩ hR)
    ⟨gB_blind, by rw [← hq]; exact va_recv hK hG.1 (ci := ci) (q0 := k) hc (by rw [gW_at hk, he]), g_pre hK hN hG⟩ rfl rfl hsize hstk (lv_room hW) d ⟨Nat.zero_le _, Nat.zero_le _⟩
theorem r_run_S {Qc : Array Value → State → Outcome → State → Prop} (hx : p.tables.exec = Jvm.exec) (hb : c.code = cc) (hml : c.maxLocals = nL) (hown : s.vm.findClass own = some m.cls) (hts : ∀ w ∈ lw_g, w.before args s = true) (hK : va_K y.1 vwCl (gT y) s) (hN : nW s) (hG : gH N en y st s H locs)
    (hM : Met l Y (cw Y b nY rt) (rmm fr lo) (va_Pc As (gP N en y st)) Qc 0 0 (gA N y))
    (q1 : Cond.methodLink own idx Y ∈ lw_g) (q2 : Cond.static Y ∈ lw_g) (q4 : Cond.initialized Y.cls ∈ lw_g) (q5 : Cond.code Y b nY rt ∈ lw_g)
    (hd : Y.cls ≠ "java/lang/invoke/MethodHandle" ∧ Y.cls ≠ "java/lang/invoke/VarHandle" ∧ (parseMethodDescriptor Y.desc).map (fun d => d.parameters.length) = some As.length) (hR : fr + 1 ≤ R.frames ∧ 8 + (nY + 11) + lo ≤ R.locals)
    (hsize : ls.size = nL) (hstk : stk = As.reverse ++ rest) (hW : (rest.map fun v => v.category).sum ≤ 8) (d : decode cc pc = .ok (.invokestatic idx, 3)) :
    va_Run p l e R s m args below meth c H locs 0 0 0 0 (F0 m pc ls stk) rest (Qc As.toArray) (gA N y) :=
  va_runS (As := As) (rest := rest) ⟨hx, hb, hml, hown, hts⟩ hM
    (va_cwS As.length hts (lw_gi (by
      intro w hw
      simp only [va_wsS, List.mem_append, List.mem_cons, List.not_mem_nil, or_false, cw] at hw
      rcases hw with (rfl | rfl | rfl) | (rfl | h)
      · exact q1
      · exact q2
      · exact q4
      · exact q5
      · exact h)) rfl rfl rfl hd hR)
    ⟨gB_blind, g_pre hK hN hG⟩ rfl rfl hsize hstk (lv_room hW) d ⟨Nat.zero_le _, Nat.zero_le _⟩
theorem r_run_N {host : String} {Qc : Array Value → State → Outcome → State → Prop} (hx : p.tables.exec = Jvm.exec) (hb : c.code = cc) (hml : c.maxLocals = nL) (hown : s.vm.findClass own = some m.cls) (hts : ∀ w ∈ lw_g, w.before args s = true) (hK : va_K y.1 vwCl (gT y) s) (hN : nW s) (hG : gH N en y st s H locs)
    (hM : Met l Y (cw Y b nY rt) (rmm fr lo) (va_Pc As (gP N en y st)) Qc 0 0 (gA N y))
    (q1 : Cond.methodLinkNest own idx Y host ∈ lw_tbl) (q2 : Cond.static Y ∈ lw_g) (q4 : Cond.initialized Y.cls ∈ lw_g) (q5 : Cond.code Y b nY rt ∈ lw_g)
    (hd : Y.cls ≠ "java/lang/invoke/MethodHandle" ∧ Y.cls ≠ "java/lang/invoke/VarHandle" ∧ (parseMethodDescriptor Y.desc).map (fun d => d.parameters.length) = some As.length) (hR : fr + 1 ≤ R.frames ∧ 8 + (nY + 11) + lo ≤ R.locals)
    (hsize : ls.size = nL) (hstk : stk = As.reverse ++ rest) (hW : (rest.map fun v => v.category).sum ≤ 8) (d : decode cc pc = .ok (.invokestatic idx, 3)) :
    va_Run p l e R s m args below meth c H locs 0 0 0 0 (F0 m pc ls stk) rest (Qc As.toArray) (gA N y) :=
  va_runSN (As := As) (rest := rest) ⟨hx, hb, hml, hown, hts⟩ hM
    ⟨va_cnB (ws' := lw_g) As.length hts (lw_gi (by
      intro w hw
      simp only [List.mem_cons, cw] at hw
      rcases hw with rfl | h
      · exact q5
      · exact h)) rfl rfl rfl (hN _ q1 rfl) (hts _ q4) hd hR, hts _ q2, trivial⟩
    ⟨gB_blind, g_pre hK hN hG⟩ rfl rfl hsize hstk (lv_room hW) d ⟨Nat.zero_le _, Nat.zero_le _⟩
theorem r_ki {K : Int32 → St → Prop} {a : Array Value} (hr : va_Run p l e R s m args below meth c H locs 0 0 0 0 (F0 m pc ls stk) rest (va_Qi K (gB N en y) (gA N y) a) (gA N y)) (hG : gH N en y st s H locs)
    (kk : ∀ (r : Int32) (st' : St) (H1 : Heap) (locs1 : List Loc), K r st' → gH N en y st' s H1 locs1 → W p l e R s m args below meth c H1 locs1 0 0 Q (F0 m (pc + 3) ls (.int r :: rest))) : W p l e R s m args below meth c H locs 0 0 Q (F0 m pc ls stk) :=
  va_calli hr hG.2.2 (fun _ _ h => h) (fun _ h => h) fun r u t H1 locs1 ht _ hp hB _ _ hS => kk r u H1 locs1 hp (g_back ht hB hS)
theorem r_kl {K : Int64 → St → Prop} {a : Array Value} (hr : va_Run p l e R s m args below meth c H locs 0 0 0 0 (F0 m pc ls stk) rest (va_Ql K (gB N en y) (gA N y) a) (gA N y)) (hG : gH N en y st s H locs)
    (kk : ∀ (r : Int64) (st' : St) (H1 : Heap) (locs1 : List Loc), K r st' → gH N en y st' s H1 locs1 → W p l e R s m args below meth c H1 locs1 0 0 Q (F0 m (pc + 3) ls (.long r :: rest))) : W p l e R s m args below meth c H locs 0 0 Q (F0 m pc ls stk) :=
  va_calll hr hG.2.2 (fun _ _ h => h) (fun _ h => h) fun r u t H1 locs1 ht _ hp hB _ _ hS => kk r u H1 locs1 hp (g_back ht hB hS)
theorem r_kv {K : St → Prop} {a : Array Value} (hr : va_Run p l e R s m args below meth c H locs 0 0 0 0 (F0 m pc ls stk) rest (va_Qv K (gB N en y) (gA N y) a) (gA N y)) (hG : gH N en y st s H locs)
    (kk : ∀ (st' : St) (H1 : Heap) (locs1 : List Loc), K st' → gH N en y st' s H1 locs1 → W p l e R s m args below meth c H1 locs1 0 0 Q (F0 m (pc + 3) ls rest)) : W p l e R s m args below meth c H locs 0 0 Q (F0 m pc ls stk) :=
  va_callv hr hG.2.2 (fun _ _ h => h) (fun _ h => h) fun u t H1 locs1 ht _ hp hB _ _ hS => kk u H1 locs1 hp (g_back ht hB hS)
end Rows
