def gQq (y : Sy) (K : Option Nat → St → Prop) (B : St → State → Prop) (A : Nat → Prop) : Array Value → State → Outcome → State → Prop := va_Qq (fun r (u : St) => ∃ o : Option Nat, r = o.map (ad y) ∧ (∀ k : Nat, o = some k → isC k) ∧ K o u) B A
abbrev Cq (N : Nat) (en : En) (l : Launch) (Y : MethodName) (b : ByteArray) (n : Nat) (ret : Option FieldType) (fr lo : Nat) (y : Sy) (av : List Value) (st : St) (K : Option Nat → St → Prop) : Prop :=
  Met l Y (cw Y b n ret) (rmm fr lo) (va_Pc av (gP N en y st)) (gQq y K (gB N en y) (gA N y)) 0 0 (gA N y)
theorem r_nb {x : Int32} (h : x = 0 ∨ x = 1) : narrow .boolean (.int x) = .int x := by rcases h with rfl | rfl <;> rfl
theorem r_fb {x : Int32} (h : x = 0 ∨ x = 1) : fits .boolean (.int x) = true := by rcases h with rfl | rfl <;> rfl
theorem r_toI {x v : Int32} {n : Int} (h : x.toInt = n) (hv : v.toInt = n := by decide) : x = v := Int32.toInt_inj.mp (h.trans hv.symm)
theorem r_in8 {i : Int32} (h : vp_in i 8) : i.toNatClampNeg < 8 := Nat.not_le.mp fun q => h (Or.inr q)
theorem r_look {ps : List (Int × Int)} {dflt : Int} {x : Int32} (ks : List Int32) (h : ∀ q ∈ ps, ∃ k ∈ ks, q.1 = k.toInt) (hne : ∀ k ∈ ks, ¬ x = k) : Op.lookupswitch.offset ps dflt x.toInt = dflt := by
  induction ps with
  | nil => rfl
  | cons q ps ih =>
    obtain ⟨a, o⟩ := q
    rw [Op.lookupswitch.offset_cons, if_neg, ih fun q hq => h q (List.mem_cons_of_mem _ hq)]
    intro e
    obtain ⟨k, hk, e2⟩ := h _ List.mem_cons_self
    exact hne k hk (Int32.toInt_inj.mp (e.symm.trans e2))
section Rows2
variable {p : Program} {l : Launch} {e : Env} {R : Room} {s : State} {m : MethodId} {args : Array Value} {below : List Frame} {meth : Method} {c : Code} {H : Heap} {locs : List Loc} {Q : State → Prop} {cc : ByteArray} {pc : Nat} {ls : Array Slot} {rest : List Value} {N : Nat} {en : En} {y : Sy} {st : St} {own : String}
theorem r_tabin (hx : p.tables.exec = Jvm.exec) (hb : c.code = cc) {dflt lo hi : Int} {offs : Array Int} {len : Nat} {x v : Int32} {off : Int} {tgt : Nat} (hdg : decode cc pc = .ok (.tableswitch dflt lo hi offs, len)) (h : x = v) (h1 : ¬ v.toInt < lo) (h2 : ¬ hi < v.toInt) (ho : offs[(v.toInt - lo).toNat]? = some off) (ht : (pc : Int) + off = (tgt : Int))
    (k : W p l e R s m args below meth c H locs 0 0 Q (F0 m tgt ls rest)) : W p l e R s m args below meth c H locs 0 0 Q (F0 m pc ls (.int x :: rest)) := by
  subst h
  exact lv_tableIn hx hb hdg h1 h2 ho ht k
theorem r_tabdef (hx : p.tables.exec = Jvm.exec) (hb : c.code = cc) {dflt lo hi : Int} {offs : Array Int} {len : Nat} {x : Int32} {tgt : Nat} (hdg : decode cc pc = .ok (.tableswitch dflt lo hi offs, len)) (ht : (pc : Int) + dflt = (tgt : Int)) (hall : ∀ v : Int, lo ≤ v → v ≤ hi → x.toInt = v → offs[(v - lo).toNat]? = some dflt)
    (k : W p l e R s m args below meth c H locs 0 0 Q (F0 m tgt ls rest)) : W p l e R s m args below meth c H locs 0 0 Q (F0 m pc ls (.int x :: rest)) := by
  by_cases h : x.toInt < lo ∨ hi < x.toInt
  · exact lv_tableOut hx hb hdg h ht k
  · have h1 : ¬ x.toInt < lo := fun q => h (Or.inl q)
    have h2 : ¬ hi < x.toInt := fun q => h (Or.inr q)
    exact lv_tableIn hx hb hdg h1 h2 (hall _ (Int.not_lt.mp h1) (Int.not_lt.mp h2) rfl) ht k
theorem r_eald (hx : p.tables.exec = Jvm.exec) (hb : c.code = cc) (hK : va_K y.1 vwCl (gT y) s) (hG : gH 107 enX y st s H locs) {i : Int32} (hi : vp_in i 8) (d : decode cc pc = .ok (.aaload, 1))
    (kk : W p l e R s m args below meth c H locs 0 0 Q (F0 m (pc + 1) ls (.ref (ad y (35 + 8 * i.toNatClampNeg)) :: rest))) : W p l e R s m args below meth c H locs 0 0 Q (F0 m pc ls (.int i :: .ref (ad y 3) :: rest)) :=
  va_aldq (n := 8) (f := fun j => some (ad y (35 + 8 * j))) hx hb hK hG.1 3 1 (by rw [gW_at (by decide)]; rfl) rfl hi d kk
theorem r_elen (hx : p.tables.exec = Jvm.exec) (hb : c.code = cc) (hK : va_K y.1 vwCl (gT y) s) (hG : gH 107 enX y st s H locs) (d : decode cc pc = .ok (.arraylength, 1))
    (kk : W p l e R s m args below meth c H locs 0 0 Q (F0 m (pc + 1) ls (.int 8 :: rest))) : W p l e R s m args below meth c H locs 0 0 Q (F0 m pc ls (.ref (ad y 3) :: rest)) :=
  va_alen (x := (8, .inr (.inr (.inr (.inr (fun j => some (ad y (35 + 8 * j)))))))) hx hb hK hG.1 3 1 (by rw [gW_at (by decide)]; rfl) rfl rfl d kk
theorem r_copy {k0 n0 k1 n1 idx : Nat} (hx : p.tables.exec = Jvm.exec) (hb : c.code = cc) (hml : c.maxLocals = ls.size) (hown : s.vm.findClass own = some m.cls) (hts : ∀ w ∈ lw_g, w.before args s = true) (hK : va_K y.1 vwCl (gT y) s) (hG : gH N en y st s H locs) (q1 : Cond.methodLink own idx arraycopyName ∈ lw_g) (hk0 : k0 < N) (he0 : ∀ f, en y k0 f = .inl (y.2.1, n0, .inl f)) (hk1 : k1 < N) (he1 : ∀ f, en y k1 f = .inl (y.2.1, n1, .inl f)) {n : Int32} (h3 : ¬ n < 0) (h4 : n.toNatClampNeg ≤ n0) (h5 : n.toNatClampNeg ≤ n1)
    (hframes : 1 ≤ R.frames) (hlocals : (rest.map fun v => v.category).sum + 18 ≤ R.locals) (d : decode cc pc = .ok (.invokestatic idx, 3))
    (kk : ∀ (H1 : Heap) (locs1 : List Loc), gH N en y (u1 st k1 (va_cpy (st k0) (st k1) 0 0 n.toNatClampNeg)) s H1 locs1 → W p l e R s m args below meth c H1 locs1 0 0 Q (F0 m (pc + 3) ls rest)) : W p l e R s m args below meth c H locs 0 0 Q (F0 m pc ls (.int n :: .int 0 :: .ref (ad y k1) :: .int 0 :: .ref (ad y k0) :: rest)) :=
  va_copyi (ty := .int) hx hb hml hown (hts _ q1) (hts _ qV_arraycopyName) (hts _ qT_arraycopyName) (hts _ qN_J10) hK hG.1 hG.2.1 hG.2.2 k0 k1 0 0 (by rw [gW_at hk0, he0]) (by rw [gW_at hk1, he1]) rfl rfl rfl (by decide) (by decide) h3 (by show 0 + _ ≤ _; omega) (by show 0 + _ ≤ _; omega) (fun _ _ => rfl) hframes hlocals d fun H1 locs1 h1 h2 h3 => kk H1 locs1 (by
    rw [← he1, gW_set hk1] at h1 h2
    exact ⟨h1, h2, h3⟩)
theorem r_qret {K : Option Nat → St → Prop} {k : Nat} (hx : p.tables.exec = Jvm.exec) (hb : c.code = cc) (hr : meth.sig.returnType = some (.object "OnlyTwoEnemies$Country")) (hlk : meth.locks = false) (hK : va_K y.1 vwCl (gT y) s) (hG : gH N en y st s H locs) (hk : isC k) (hw : K (some k) st) (d : decode cc pc = .ok (.areturn, 1)) :
    W p l e R s m args below meth c H locs 0 0 (MQ below (gQq y K (gB N en y) (gA N y)) args s 0 0 (gA N y)) (F0 m pc ls [.ref (ad y k)]) :=
  W.aret hx hb hr (Or.inl ⟨_, rfl⟩) (Or.inr ⟨_, rfl⟩) (fun t ht hW => ⟨⟨some (ad y k), st, rfl, ⟨some k, rfl, fun k' e => by cases e; exact hk, hw⟩, by rw [ht]; exact hG.1, va_K.moved hW.alike hK, hG.2.1⟩, hG.2.2.F ht⟩) hG.2.2.2.2 d hlk
theorem r_qretN {K : Option Nat → St → Prop} (hx : p.tables.exec = Jvm.exec) (hb : c.code = cc) (hr : meth.sig.returnType = some (.object "OnlyTwoEnemies$Country")) (hlk : meth.locks = false) (hK : va_K y.1 vwCl (gT y) s) (hG : gH N en y st s H locs) (hw : K none st) (d : decode cc pc = .ok (.areturn, 1)) :
    W p l e R s m args below meth c H locs 0 0 (MQ below (gQq y K (gB N en y) (gA N y)) args s 0 0 (gA N y)) (F0 m pc ls [.null]) :=
  W.aret hx hb hr (Or.inl ⟨_, rfl⟩) (Or.inl rfl) (fun t ht hW => ⟨⟨none, st, rfl, ⟨none, rfl, fun k' e => (by cases e), hw⟩, by rw [ht]; exact hG.1, va_K.moved hW.alike hK, hG.2.1⟩, hG.2.2.F ht⟩) hG.2.2.2.2 d hlk
theorem r_kq {stk : List Value} {K : Option Nat → St → Prop} {a : Array Value} (hr : va_Run p l e R s m args below meth c H locs 0 0 0 0 (F0 m pc ls stk) rest (gQq y K (gB N en y) (gA N y) a) (gA N y)) (hG : gH N en y st s H locs)
    (kk : ∀ (r : Option Nat) (st' : St) (H1 : Heap) (locs1 : List Loc), (∀ k : Nat, r = some k → isC k) → K r st' → gH N en y st' s H1 locs1 → W p l e R s m args below meth c H1 locs1 0 0 Q (F0 m (pc + 3) ls (va_rf (r.map (ad y)) :: rest))) : W p l e R s m args below meth c H locs 0 0 Q (F0 m pc ls stk) :=
  va_callq hr hG.2.2 (fun _ _ h => h) (fun _ h => h) fun r u t H1 locs1 ht _ hp hB _ _ hS => by
    obtain ⟨o, rfl, ho, hp⟩ := hp
    exact kk o u H1 locs1 ho hp (g_back ht hB hS)
end Rows2
