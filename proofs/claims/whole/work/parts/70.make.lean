/-! the making of objects: a world as a list, at addresses that are variables -/
abbrev oC : String := "OnlyTwoEnemies$Country"
def zr : Nat → Int32 := fun _ => 0
def rmN (fr lo mc ms : Nat) : Room := { frames := fr, cells := mc, slots := ms, locals := lo }
def nB (y : Sy) (A : Nat → Prop) (ws : va_W) (t : State) : Prop := va_P y.1 vwCl ws t.heap ∧ va_K y.1 vwCl (gT y) t ∧ va_D A ws
def nP (y : Sy) (sz : Nat) (ws : va_W) (U : State) : Prop := U.heap.size = sz ∧ nB y (fun _ => True) ws U ∧ nW U ∧ va_AO oC U
def gN (y : Sy) (A : Nat → Prop) (ws : va_W) (s : State) (H : Heap) (locs : List Loc) : Prop := va_P y.1 vwCl ws H ∧ va_D A ws ∧ va_S A s.heap H locs
abbrev CN (l : Launch) (Y : MethodName) (b : ByteArray) (n fr lo mc ms : Nat) (y : Sy) (sz : Nat) (av : List Value) (ws : va_W) (post : va_W → Prop) : Prop :=
  Met l Y (cw Y b n none) (rmN fr lo mc ms) (va_Pc av (nP y sz ws)) (va_Qv post (nB y (va_A ws sz)) (va_A ws sz)) mc ms (va_A ws sz)
theorem arrV_cg {cI : ClassId} {N : Nat} {f g : Nat → Value} (h : ∀ j, j < N → f j = g j) : arrV cI N f = arrV cI N g := by
  unfold arrV
  congr 1
  congr 1
  funext j
  exact h j.1 j.2
theorem nP_blind {y : Sy} {sz : Nat} {ws : va_W} {av : List Value} : FrameBlind (va_Pc av (nP y sz ws)) := fun a U g mk q => by
  obtain ⟨e, z, ⟨qP, qK, qD⟩, qN, qO⟩ := q
  exact ⟨e, z, ⟨qP, va_K.moved (u := U) (U := U.calling g mk a) (Vm.Alike.refl U.vm) qK, qD⟩, nW.same (s := U) (U := U.calling g mk a) rfl qN, va_AO.moved (u := U) (U := U.calling g mk a) (Vm.Alike.refl U.vm) qO⟩
/-- what every row of a constructor's body needs -/
def Sn (p : Program) (s : State) (m : MethodId) (args : Array Value) (meth : Method) (c : Code) (cc : ByteArray) (nL : Nat) (own : String) (y : Sy) (A : Nat → Prop) : Prop :=
  Sd p s m args meth c cc nL own none y ∧ va_AO oC s ∧ meth.name = "<init>" ∧ ∀ q : Nat, s.heap.size ≤ q → A q
theorem entN {l : Launch} {Y : MethodName} {cc : ByteArray} {n fr lo mc ms sz : Nat} {y : Sy} {av : List Value} {ws : va_W} {post : va_W → Prop} (hcls : plainName Y.cls = true) (hini : Y.name = "<init>") (hlen : (lg_sl av).length ≤ n)
    (body : ∀ (p : Program) (e : Env) (s : State) (m : MethodId) (below : List Frame) (meth : Method) (c : Code), s.heap.size = sz → Sn p s m av.toArray meth c cc n Y.cls y (va_A ws sz) → gN y (va_A ws sz) ws s s.heap [] → ∀ ls : Array Slot, lv_has ls n (lv_args 0 av) →
      W p l e (rmN fr lo mc ms) s m av.toArray below meth c s.heap [] 0 0 (MQ below (va_Qv post (nB y (va_A ws sz)) (va_A ws sz)) av.toArray s mc ms (va_A ws sz)) (F0 m 0 ls [])) :
    CN l Y cc n fr lo mc ms y sz av ws post := by
  refine Met.ofW (cc := cc) (maxL := n) (ret := none) hcls rfl ?_
  intro p e s m args below meth c s₁ B hml hv
  obtain ⟨rfl, hz, ⟨hP, hK, hD⟩, hN, hO⟩ := hv
  have hts := atoms_spec (ws := cw Y cc n none) B.pre
  have hown : s.vm.findClass Y.cls = some m.cls := findClass_of_methodNamed B.named
  have hin : meth.name = "<init>" := (name_of_methodNamed B.named B.method).1.trans hini
  rw [lg_entry_eq]
  subst hz
  exact body p e s m below meth c rfl ⟨⟨B.exec, B.bytes, hml, hown, fun w h => hts w (List.mem_cons_of_mem _ h), B.returns, B.notSynchronized, hK, hN⟩, hO, hin, fun q h => Or.inr h⟩ ⟨hP, hD.self, va_S.rf⟩ _ (lv_entry av hlen)
theorem va_P.left {D : va_G} {cl : List vw_C} {a b : va_W} {H : Heap} (h : va_P D cl (a ++ b) H) : va_P D cl a H := fun k q hk => h k q (by rw [List.getElem?_append_left (List.getElem?_eq_some_iff.mp hk).1]; exact hk)
theorem va_P.right {D : va_G} {cl : List vw_C} {a b : va_W} {H : Heap} (h : va_P D cl (a ++ b) H) : va_P D cl b H := fun k q hk => h (a.length + k) q (by rw [List.getElem?_append_right (by omega), Nat.add_sub_cancel_left]; exact hk)
theorem va_D.left {A : Nat → Prop} {a b : va_W} (h : va_D A (a ++ b)) : va_D A a := by
  have e : ∀ (k : Nat) (q : Nat × va_E), a[k]? = some q → (a ++ b)[k]? = some q := fun k q hk => by rw [List.getElem?_append_left (List.getElem?_eq_some_iff.mp hk).1]; exact hk
  exact ⟨fun i j p q hi hj hpq => h.1 i j p q (e i p hi) (e j q hj) hpq, fun k q hk => h.2 k q (e k q hk)⟩
theorem va_D.right {A : Nat → Prop} {a b : va_W} (h : va_D A (a ++ b)) : va_D A b := by
  have e : ∀ (k : Nat) (q : Nat × va_E), b[k]? = some q → (a ++ b)[a.length + k]? = some q := fun k q hk => by rw [List.getElem?_append_right (by omega), Nat.add_sub_cancel_left]; exact hk
  exact ⟨fun i j p q hi hj hpq => by have := h.1 _ _ p q (e i p hi) (e j q hj) hpq; omega, fun k q hk => h.2 _ q (e k q hk)⟩
theorem va_D.apart {A : Nat → Prop} {a b : va_W} (h : va_D A (a ++ b)) {i j : Nat} {x y : Nat × va_E} (hx : a[i]? = some x) (hy : b[j]? = some y) : x.1 ≠ y.1 := fun e => by
  have hl := (List.getElem?_eq_some_iff.mp hx).1
  have := h.1 i (a.length + j) x y (by rw [List.getElem?_append_left hl]; exact hx) (by rw [List.getElem?_append_right (by omega), Nat.add_sub_cancel_left]; exact hy) e
  omega
/-- behind a call on the last part of a world -/
theorem nn_tail {A0 : Nat → Prop} {D : va_G} {cl : List vw_C} {wr wc w1 : va_W} {H H1 : Heap} (hP : va_P D cl (wr ++ wc) H) (hD : va_D A0 (wr ++ wc)) (hk : ∀ q : Nat, q < H.size → ¬ va_A wc H.size q → H1[q]? = H[q]?) (hF : ∀ q, va_A wc H.size q → A0 q) (hP1 : va_P D cl w1 H1) (hD1 : va_D (va_A wc H.size) w1) : va_P D cl (wr ++ w1) H1 ∧ va_D A0 (wr ++ w1) := by
  have apart : ∀ (k : Nat) (q : Nat × va_E), wr[k]? = some q → q.1 < H.size ∧ ¬ va_A wc H.size q.1 := fun k q hq => by
    have hl := (hP.left k q hq).lt
    refine ⟨hl, fun h => ?_⟩
    rcases h with ⟨k2, e, h⟩ | h
    · exact hD.apart hq h rfl
    · omega
  refine ⟨va_P.app (fun k q hq => ?_) hP1, va_D.app hD.left (hD1.weaken (fun k q _ h => hF q.1 h)) (fun i j x y hx hy hxy => ?_)⟩
  · obtain ⟨g1, g2⟩ := apart k q hq
    exact (hP.left k q hq).kept (hk q.1 g1 g2)
  · exact (apart i x hx).2 (by rw [hxy]; exact hD1.2 j y hy)
theorem nn_last {wr : va_W} {x : Nat × va_E} {t : va_W} : (wr ++ x :: t)[wr.length]? = some x := by
  rw [List.getElem?_append_right (Nat.le_refl _), Nat.sub_self]
  rfl
section RowsN
variable {p : Program} {l : Launch} {e : Env} {R : Room} {s : State} {m : MethodId} {args : Array Value} {below : List Frame} {meth : Method} {c : Code} {H : Heap} {locs : List Loc} {Q : State → Prop} {cc : ByteArray} {pc : Nat} {ls : Array Slot} {rest : List Value} {y : Sy} {own : String} {A : Nat → Prop} {ws : va_W} {cells slots : Nat} {nL : Nat}
theorem n_obj (C : Sn p s m args meth c cc nL own y A) (hsize : ls.size = nL) {idx a : Nat} (q1 : Cond.methodLink own idx objectInit ∈ lw_g) (d : decode cc pc = .ok (.invokespecial idx, 3)) (hf : 1 ≤ R.frames) (hlo : (rest.map fun v => v.category).sum + 12 ≤ R.locals)
    (kk : W p l e R s m args below meth c H locs cells slots Q (F0 m (pc + 3) ls rest)) : W p l e R s m args below meth c H locs cells slots Q (F0 m pc ls (.ref a :: rest)) := by
  obtain ⟨⟨hx, hb, hml, hown, hts, -⟩, -⟩ := C
  refine W.objInit hx hb hown (hts _ q1) (hts _ qI_objectInit) (hts _ qC_objectInit) rfl (by rw [hml]; exact hsize) rfl d hf (by show 2 * 0 + _ + 12 ≤ _; omega) ?_
  exact W.eq (g2 := F0 m (pc + 3) ls rest) rfl kk
theorem n_newi (C : Sn p s m args meth c cc nL own y A) (hG : gN y A ws s H locs) {n : Int32} {N' : Nat} (hn : ¬ n < 0) (hN : n.toNatClampNeg = N') (hbytes : N' * 4 ≤ 536870912) (hcells : cells + 1 ≤ R.cells) (hslots : slots + N' ≤ R.slots) (d : decode cc pc = .ok (.newarray .int, 2))
    (kk : ∀ (q : Nat) (H1 : Heap), gN y A (ws ++ [(q, eA y N' zr)]) s H1 locs → W p l e R s m args below meth c H1 locs (cells + 1) (slots + N') Q (F0 m (pc + 2) ls (.ref q :: rest))) : W p l e R s m args below meth c H locs cells slots Q (F0 m pc ls (.int n :: rest)) := by
  obtain ⟨⟨hx, hb, hml, hown, hts, hr, hlk, hK, hNw⟩, hO, hin, hA⟩ := C
  refine va_newa (atype := .int) (ty := .int) (a0 := (N', .inl zr)) hx hb (hts _ qA_int) rfl hK hG.1 hG.2.1 hG.2.2 hA (fun cA => rfl) hn hN hbytes hcells hslots d (fun q cA H1 k0 k1 k2 k3 => ?_)
  have e1 : s.vm.findClass ("[" ++ FieldType.int.toString) = some cA := (k0.2 2 (cA, .int) rfl).2
  have e2 : s.vm.findClass ("[" ++ FieldType.int.toString) = some y.2.1 := (hK.2 0 (y.2.1, .int) rfl).2
  have e3 : cA = y.2.1 := Option.some.inj (e1.symm.trans e2)
  subst e3
  exact kk q H1 ⟨k1, k2, k3⟩
theorem n_newq (C : Sn p s m args meth c cc nL own y A) (hG : gN y A ws s H locs) {n : Int32} {N' idx : Nat} (q1 : Cond.classLink own idx oC ∈ lw_g) (hn : ¬ n < 0) (hN : n.toNatClampNeg = N') (hbytes : N' * 4 ≤ 536870912) (hcells : cells + 1 ≤ R.cells) (hslots : slots + N' ≤ R.slots) (d : decode cc pc = .ok (.anewarray idx, 3))
    (kk : ∀ (q : Nat) (H1 : Heap), gN y A (ws ++ [(q, .inl (y.2.2.1, N', .inr (.inr (.inr (.inr (fun _ => none))))))]) s H1 locs → W p l e R s m args below meth c H1 locs (cells + 1) (slots + N') Q (F0 m (pc + 3) ls (.ref q :: rest))) : W p l e R s m args below meth c H locs cells slots Q (F0 m pc ls (.int n :: rest)) := by
  obtain ⟨⟨hx, hb, hml, hown, hts, hr, hlk, hK, hNw⟩, hO, hin, hA⟩ := C
  refine va_newq (C := oC) hx hb hown (hts _ q1) hO hK hG.1 hG.2.1 hG.2.2 hA hn hN hbytes hcells hslots d (fun q cA H1 k0 k1 k2 k3 => ?_)
  obtain ⟨kA, comp, -, -, -, e1⟩ := (k0.2 2 (cA, .object oC) rfl).2
  obtain ⟨kA', comp', -, -, -, e2⟩ := (hK.2 1 (y.2.2.1, .object oC) rfl).2
  have e3 : cA = y.2.2.1 := Option.some.inj (e1.symm.trans e2)
  subst e3
  exact kk q H1 ⟨k1, k2, k3⟩
theorem n_new (C : Sn p s m args meth c cc nL own y A) (hG : gN y A ws s H locs) {CN : String} {T : u_T} {Nf ci idx : Nat} {fs : List Value} (hin : ∀ w ∈ u_ws CN T Nf, w ∈ lw_g) (ty : Nat → FieldType) (hty : ∀ k, k < Nf → parseFieldDescriptor (T k).2.2.1 = some (ty k)) (q1 : Cond.classLink own idx CN ∈ lw_g) (q2 : Cond.instantiable CN Nf ∈ lw_g) (q3 : Cond.initialized CN ∈ lw_g) (hc : vwCl[ci]? = some (CN, T, Nf)) (hfs : ∀ j, j < Nf → defaultValue (ty j) = vp_V fs j) (hcells : cells + 1 ≤ R.cells) (hslots : slots + Nf ≤ R.slots) (d : decode cc pc = .ok (.new idx, 3))
    (kk : ∀ (q : Nat) (H1 : Heap), gN y A (ws ++ [(q, .inr (ci, fs))]) s H1 locs → W p l e R s m args below meth c H1 locs (cells + 1) (slots + Nf) Q (F0 m (pc + 3) ls (.ref q :: rest))) : W p l e R s m args below meth c H locs cells slots Q (F0 m pc ls rest) := by
  obtain ⟨⟨hx, hb, hml, hown, hts, hr, hlk, hK, hNw⟩, hO, hi, hA⟩ := C
  exact va_new hx hb hts hin ty hty hown (hts _ q1) (hts _ q2) (hts _ q3) hK hG.1 hG.2.1 hG.2.2 hA hc hfs hcells hslots d (fun q H1 k1 k2 k3 => kk q H1 ⟨k1, k2, k3⟩)
theorem n_putF (C : Sn p s m args meth c cc nL own y A) (hG : gN y A ws s H locs) {T : u_T} {Nf ci idx a : Nat} {fs : List Value} {ref : String} (hin : ∀ w ∈ u_ws own T Nf, w ∈ lw_g) (ty0 : Nat → FieldType) (hty : ∀ k, k < Nf → parseFieldDescriptor (T k).2.2.1 = some (ty0 k)) (hnm : ∀ a, a < Nf → ∀ b, b < Nf → a ≠ b → (T a).2.1 ≠ (T b).2.1) (q0 : Nat) (he : ws[q0]? = some (a, .inr (ci, fs))) (hc : vwCl[ci]? = some (own, T, Nf)) (j : Nat) (hj : j < Nf) (q1 : Cond.fieldLink own idx ref (T j).2.1 (T j).2.2.1 ∈ lw_g) (hrf : (T j).1 = ref) (hfin : (T j).2.2.2 = true) (hdecl : (T j).1 = own) {b : Nat} (hn : narrow (ty0 j) (.ref b) = .ref b) (hfit : fits (ty0 j) (.ref b) = true) (hl : j < fs.length) (d : decode cc pc = .ok (.putfield idx, 3))
    (kk : ∀ (H1 : Heap) (locs1 : List Loc), gN y A (ws.set q0 (a, .inr (ci, fs.set j (.ref b)))) s H1 locs1 → W p l e R s m args below meth c H1 locs1 cells slots Q (F0 m (pc + 3) ls rest)) : W p l e R s m args below meth c H locs cells slots Q (F0 m pc ls (.ref b :: .ref a :: rest)) := by
  obtain ⟨⟨hx, hb, hml, hown, hts, hr, hlk, hK, hNw⟩, hO, hi, hA⟩ := C
  exact va_putF hx hb hts hin ty0 hty hnm hown hK hG.1 hG.2.1 hG.2.2 q0 he hc j hj (hts _ q1) (fun x h => by rw [← hrf]; exact h) hfin hi hdecl (hty j hj) hn hfit hl d (fun H1 locs1 k1 k2 k3 => kk H1 locs1 ⟨k1, k2, k3⟩)
theorem n_ret (C : Sn p s m args meth c cc nL own y A) (hG : gN y A ws s H locs) {post : va_W → Prop} (hw : post ws) (d : decode cc pc = .ok (.return_, 1)) :
    W p l e R s m args below meth c H locs cells slots (MQ below (va_Qv post (nB y A) A) args s cells slots A) (F0 m pc ls []) := by
  obtain ⟨⟨hx, hb, hml, hown, hts, hr, hlk, hK, hNw⟩, hO, hi, hA⟩ := C
  exact W.vret hx hb hr (fun t ht hW => ⟨⟨ws, rfl, hw, by rw [ht]; exact hG.1, va_K.moved hW.alike hK, hG.2.1⟩, hG.2.2.F ht⟩) hG.2.2.2.2 d hlk
variable {Y : MethodName} {b : ByteArray} {nY idx fr lo mc ms : Nat} {As stk : List Value} {wr wc : va_W} {post : va_W → Prop} {a : Nat}
theorem n_pre (C : Sn p s m args meth c cc nL own y A) (hG : gN y A (wr ++ wc) s H locs) {av : List Value} : ∀ U : State, U.heap = H → s.WarmedH U.vm → va_Pc av (nP y H.size wc) av.toArray U := fun U hU hW => by
  obtain ⟨⟨hx, hb, hml, hown, hts, hr, hlk, hK, hNw⟩, hO, hi, hA⟩ := C
  exact ⟨rfl, by rw [hU], ⟨by rw [hU]; exact hG.1.right, va_K.moved hW.alike hK, hG.2.1.right.weaken (fun _ _ _ _ => trivial)⟩, hNw.warm hW, va_AO.moved hW.alike hO⟩
theorem n_code (q5 : Cond.code Y b nY none ∈ lw_g) : GoodIn lw_g (cw Y b nY none) := lw_gi (by
  intro w hw
  simp only [List.mem_cons, cw] at hw
  rcases hw with rfl | h
  · exact q5
  · exact h)
theorem n_back (C : Sn p s m args meth c cc nL own y A) (hG : gN y A (wr ++ wc) s H locs) {aa : Array Value} (hr : va_Run p l e R s m args below meth c H locs cells slots mc ms (F0 m pc ls stk) rest (va_Qv post (nB y (va_A wc H.size)) (va_A wc H.size) aa) (va_A wc H.size))
    (kk : ∀ (w1 : va_W) (H1 : Heap) (locs1 : List Loc), post w1 → gN y A (wr ++ w1) s H1 locs1 → W p l e R s m args below meth c H1 locs1 (cells + mc) (slots + ms) Q (F0 m (pc + 3) ls rest)) : W p l e R s m args below meth c H locs cells slots Q (F0 m pc ls stk) := by
  have hA := C.2.2.2
  have hF : ∀ q, va_A wc H.size q → A q := fun q h => by
    rcases h with ⟨k, e, h⟩ | h
    · exact hG.2.1.right.2 k _ h
    · exact hA q (Nat.le_trans hG.2.2.1 h)
  refine va_callv hr hG.2.2 (fun q _ h => hF q h) hF (fun u t H1 locs1 ht hvm hw hB hz hk hS => ?_)
  obtain ⟨hP1, -, hD1⟩ := hB
  rw [ht] at hP1
  obtain ⟨g1, g2⟩ := nn_tail hG.1 hG.2.1 hk hF hP1 hD1
  exact kk u H1 locs1 hw ⟨g1, g2, hS⟩
theorem n_callI (C : Sn p s m args meth c cc nL own y A) (hG : gN y A (wr ++ wc) s H locs) (hM : CN l Y b nY fr lo mc ms y H.size (.ref a :: As) wc post) (q1 : Cond.methodLink own idx Y ∈ lw_g) (q2 : Cond.instanceMethod Y ∈ lw_g) (q4 : Cond.initialized Y.cls ∈ lw_g) (q5 : Cond.code Y b nY none ∈ lw_g) (hy : Y.name = "<init>")
    (hd : Y.cls ≠ "java/lang/invoke/MethodHandle" ∧ Y.cls ≠ "java/lang/invoke/VarHandle" ∧ (parseMethodDescriptor Y.desc).map (fun d => d.parameters.length) = some As.length) (hR : fr + 1 ≤ R.frames ∧ 8 + (nY + 11) + lo ≤ R.locals)
    (hsize : ls.size = nL) (hstk : stk = As.reverse ++ .ref a :: rest) (hW : (rest.map fun v => v.category).sum ≤ 8) (d : decode cc pc = .ok (.invokespecial idx, 3)) (hf : cells + mc ≤ R.cells ∧ slots + ms ≤ R.slots)
    (kk : ∀ (w1 : va_W) (H1 : Heap) (locs1 : List Loc), post w1 → gN y A (wr ++ w1) s H1 locs1 → W p l e R s m args below meth c H1 locs1 (cells + mc) (slots + ms) Q (F0 m (pc + 3) ls rest)) : W p l e R s m args below meth c H locs cells slots Q (F0 m pc ls stk) := by
  obtain ⟨⟨hx, hb, hml, hown, hts, hr, hlk, hK, hNw⟩, hO, hi, hA⟩ := id C
  exact n_back C hG (va_runI (As := As) (rest := rest) ⟨hx, hb, hml, hown, hts⟩ hM (cwI As.length hts (n_code q5) rfl rfl rfl (hts _ q4) (hts _ q1) (hts _ q2) hy hd hR) ⟨nP_blind, n_pre C hG⟩ rfl rfl hsize hstk (lv_room hW) d hf) kk
theorem n_callN (C : Sn p s m args meth c cc nL own y A) (hG : gN y A (wr ++ wc) s H locs) {host : String} (hM : CN l Y b nY fr lo mc ms y H.size (.ref a :: As) wc post) (q1 : Cond.methodLinkNest own idx Y host ∈ lw_tbl) (q2 : Cond.instanceMethod Y ∈ lw_g) (q4 : Cond.initialized Y.cls ∈ lw_g) (q5 : Cond.code Y b nY none ∈ lw_g) (hy : Y.name = "<init>")
    (hd : Y.cls ≠ "java/lang/invoke/MethodHandle" ∧ Y.cls ≠ "java/lang/invoke/VarHandle" ∧ (parseMethodDescriptor Y.desc).map (fun d => d.parameters.length) = some As.length) (hR : fr + 1 ≤ R.frames ∧ 8 + (nY + 11) + lo ≤ R.locals)
    (hsize : ls.size = nL) (hstk : stk = As.reverse ++ .ref a :: rest) (hW : (rest.map fun v => v.category).sum ≤ 8) (d : decode cc pc = .ok (.invokespecial idx, 3)) (hf : cells + mc ≤ R.cells ∧ slots + ms ≤ R.slots)
    (kk : ∀ (w1 : va_W) (H1 : Heap) (locs1 : List Loc), post w1 → gN y A (wr ++ w1) s H1 locs1 → W p l e R s m args below meth c H1 locs1 (cells + mc) (slots + ms) Q (F0 m (pc + 3) ls rest)) : W p l e R s m args below meth c H locs cells slots Q (F0 m pc ls stk) := by
  obtain ⟨⟨hx, hb, hml, hown, hts, hr, hlk, hK, hNw⟩, hO, hi, hA⟩ := id C
  exact n_back C hG (va_runIN (As := As) (rest := rest) ⟨hx, hb, hml, hown, hts⟩ hM ⟨va_cnB (ws' := lw_g) As.length hts (n_code q5) rfl rfl rfl (hNw _ q1 rfl) (hts _ q4) hd hR, hy, hts _ q2⟩ ⟨nP_blind, n_pre C hG⟩ rfl rfl hsize hstk (lv_room hW) d hf) kk
end RowsN
