/-! pure part: the relation of the class's world and the check's -/
def unl (f : Nat → Int32) : St := fun k i => if k = 2 then f i else if k = 3 then f (6 + i) else if k = 4 then f (12 + i) else if k = 5 then f (18 + i) else if k = 6 then f (54 + i) else if k = 7 then f (60 + i) else if k = 8 then f (66 + i) else if k = 0 then (if i = 8 then f 72 else if i = 9 then f 73 else if i = 10 then f 74 else 0) else 0
theorem lv_unl {f : Nat → Int32} {i : Nat} (h : i < 75) : lvM (unl f) i = f i := by
  unfold lvM
  by_cases k1 : i < 6
  · rw [if_pos k1]; rfl
  rw [if_neg k1]
  by_cases k2 : i < 12
  · rw [if_pos k2]; show f (6 + (i - 6)) = f i; congr 1; omega
  rw [if_neg k2]
  by_cases k3 : i < 18
  · rw [if_pos k3]; show f (12 + (i - 12)) = f i; congr 1; omega
  rw [if_neg k3]
  by_cases k4 : i < 54
  · rw [if_pos k4]; show f (18 + (i - 18)) = f i; congr 1; omega
  rw [if_neg k4]
  by_cases k5 : i < 60
  · rw [if_pos k5]; show f (54 + (i - 54)) = f i; congr 1; omega
  rw [if_neg k5]
  by_cases k6 : i < 66
  · rw [if_pos k6]; show f (60 + (i - 60)) = f i; congr 1; omega
  rw [if_neg k6]
  by_cases k7 : i < 72
  · rw [if_pos k7]; show f (66 + (i - 66)) = f i; congr 1; omega
  rw [if_neg k7]
  by_cases k8 : i = 72
  · subst k8; rfl
  rw [if_neg k8]
  by_cases k9 : i = 73
  · subst k9; rfl
  rw [if_neg k9]
  have : i = 74 := by omega
  subst this
  rfl
/-- a country in good order -/
def gC (n nL : Nat) (c : Ct) : Prop := zC c ∧ (∀ p, p < n → ∃ t, t < 4 ∧ c 3 p = nI t) ∧ (∀ l, l < nL → ∃ t, t < 4 ∧ c 6 l = nI t) ∧ (∀ l, l < nL → ∃ d, d ≤ 99 ∧ c 5 l = nI d) ∧ ∃ w, w ≤ 999 ∧ c 0 10 = nI w
/-- these 75 ints are the country c -/
def RB (f : Nat → Int32) (c : Ct) : Prop := ∃ n nL, RM n nL (unl f) c ∧ gC n nL c
theorem RB.cg {f g : Nat → Int32} {c : Ct} (h : RB f c) (e : ∀ i, i < 75 → g i = f i) : RB g c := by
  obtain ⟨n, nL, h1, h2⟩ := h
  exact ⟨n, nL, RM_lv h1 (fun i hi => by rw [lv_unl hi, lv_unl hi, e i hi]) rfl, h2⟩
def Rref (st mt : St) : Prop := ∀ i, i < 7 → st 1 i = mt 1 i
def Rtell (st mt : St) : Prop := ∃ s, s ≤ 96 ∧ st 4 1 = nI s ∧ mt 0 16 = nI s ∧ ∀ i, i < s → st 5 i = mt 9 i
def Rrow (st mt : St) : Prop := ∃ r, r ≤ 12 ∧ st 6 1 = nI r ∧ mt 0 29 = nI r ∧ ∀ i, i < r → st 7 i = mt 16 i
def Rkept (st mt : St) : Prop := (st 0 3 = 0 ∧ mt 0 20 = 0) ∨ (st 0 3 = 1 ∧ mt 0 20 = 1 ∧ RB (mt 13) (cv st 27))
def pI (a b i : Nat) : Nat := 35 + 8 * ((a + 8 - b + i) % 8)
def Rpast (st mt : St) : Prop := ∃ a b, a < 8 ∧ b ≤ 8 ∧ st 2 1 = nI a ∧ st 2 2 = nI b ∧ mt 0 23 = nI b ∧ ∀ i, i < b → RB (fun j => mt 13 (225 + 75 * i + j)) (cv st (pI a b i))
def Rnow (st mt : St) : Prop := RB (lvM mt) (cv st 11) ∧ mt 0 11 = 0
def R (st mt : St) : Prop := Rnow st mt ∧ (∀ k, isC k → zC (cv st k)) ∧ st 9 0 = 0 ∧ Rref st mt ∧ Rtell st mt ∧ Rrow st mt ∧ Rkept st mt ∧ Rpast st mt
theorem R.get {st mt : St} (h : R st mt) : ∃ n nL, RM n nL mt (cv st 11) ∧ gC n nL (cv st 11) := by
  obtain ⟨⟨⟨n, nL, h1, h2⟩, h3⟩, -⟩ := h
  exact ⟨n, nL, RM_lv h1 (fun i hi => (lv_unl hi).symm) h3, h2⟩
theorem Rnow_of {st mt : St} {n nL : Nat} (h : RM n nL mt (cv st 11)) (h0 : mt 0 11 = 0) (g : gC n nL (cv st 11)) : Rnow st mt :=
  ⟨⟨n, nL, RM_lv h (fun i hi => lv_unl hi) h0.symm, g⟩, h0⟩
theorem cv_eq {st st' : St} {k : Nat} (h : ∀ j, k ≤ j → j < k + 8 → st' j = st j) : cv st' k = cv st k := by
  funext j
  unfold cv
  by_cases hj : j < 8
  · rw [if_pos hj, if_pos hj, h (k + j) (by omega) (by omega)]
  · rw [if_neg hj, if_neg hj]
theorem cv_u2 {st : St} {k j i : Nat} {v : Int32} (h : j < k ∨ k + 8 ≤ j) : cv (u2 st j i v) k = cv st k := cv_eq fun a _ _ => u2_off (by omega)
theorem cv0 {st : St} {k i : Nat} : cv st k 0 i = st k i := rfl
theorem pI_lt {a b i : Nat} : 35 ≤ pI a b i ∧ pI a b i + 8 ≤ 99 := by unfold pI; omega
theorem pI_C {a b i : Nat} : isC (pI a b i) := ⟨3 + (a + 8 - b + i) % 8, by omega, by unfold pI; omega⟩
/-- the check's frame: what the relation sees is as it was -/
def tf (mt s : St) : Prop := (∀ i, i < 75 → lvM s i = lvM mt i) ∧ s 0 11 = mt 0 11 ∧ s 1 = mt 1 ∧ s 9 = mt 9 ∧ s 16 = mt 16 ∧ s 0 16 = mt 0 16 ∧ s 0 20 = mt 0 20 ∧ s 0 23 = mt 0 23 ∧ s 0 29 = mt 0 29 ∧ ∀ a, (a < 75 ∨ 225 ≤ a) → s 13 a = mt 13 a
theorem hf.tf {mt s : St} (h : hf mt s) : tf mt s :=
  ⟨h.1, h.2.2.1 11 (by decide) (by decide) (by decide) (by decide) (by decide) (by decide) (by decide), h.2.1 1 (by decide) (by decide) (by decide) (by decide), h.2.1 9 (by decide) (by decide) (by decide) (by decide), h.2.1 16 (by decide) (by decide) (by decide) (by decide),
    h.2.2.1 16 (by decide) (by decide) (by decide) (by decide) (by decide) (by decide) (by decide), h.2.2.1 20 (by decide) (by decide) (by decide) (by decide) (by decide) (by decide) (by decide), h.2.2.1 23 (by decide) (by decide) (by decide) (by decide) (by decide) (by decide) (by decide), h.2.2.1 29 (by decide) (by decide) (by decide) (by decide) (by decide) (by decide) (by decide), fun a ha => h.2.2.2 a (by omega)⟩
theorem tf_rf {mt : St} : tf mt mt := hf_rf.tf
theorem tf.tr {a b c : St} (h1 : tf a b) (h2 : tf b c) : tf a c := by
  obtain ⟨a1, a2, a3, a4, a5, a6, a7, a8, a9, a10⟩ := h1
  obtain ⟨b1, b2, b3, b4, b5, b6, b7, b8, b9, b10⟩ := h2
  exact ⟨fun i hi => (b1 i hi).trans (a1 i hi), b2.trans a2, b3.trans a3, b4.trans a4, b5.trans a5, b6.trans a6, b7.trans a7, b8.trans a8, b9.trans a9, fun i hi => (b10 i hi).trans (a10 i hi)⟩
/-- the class's frame: all but its country in mind and its row of twos -/
def xf (st s : St) : Prop := (∀ j, j < 99 → j ≠ 9 → s j = st j) ∧ s 9 0 = st 9 0 ∧ (zC (cv st 99) → zC (cv s 99))
theorem xf_rf {st : St} : xf st st := ⟨fun _ _ _ => rfl, rfl, fun h => h⟩
theorem xf.tr {a b c : St} (h1 : xf a b) (h2 : xf b c) : xf a c := ⟨fun j p q => (h2.1 j p q).trans (h1.1 j p q), h2.2.1.trans h1.2.1, fun h => h2.2.2 (h1.2.2 h)⟩
theorem xf_sv {st : St} {c : Ct} (h : zC c) (hn : nC c) : xf st (sv st 99 c) := ⟨fun j p q => sv_off (Or.inl p), congrFun (sv_off (by decide)) 0, fun _ => by rw [cv_sv hn]; exact h⟩
theorem xf.cv {st s : St} (h : xf st s) {k : Nat} (h1 : 10 ≤ k) (h2 : k + 8 ≤ 99) : cv s k = cv st k := cv_eq fun j _ _ => h.1 j (by omega) (by omega)
theorem R_fr {st st' mt mt' : St} (h : R st mt) (hx : xf st st') (ht : tf mt mt') : R st' mt' := by
  obtain ⟨⟨h1, h1'⟩, h2, h3, h4, ⟨s, k1, k2, k3, k4⟩, ⟨r, l1, l2, l3, l4⟩, h7, ⟨a, b, m1, m2, m3, m4, m5, m6⟩⟩ := h
  obtain ⟨b1, b2, b3, b4, b5, b6, b7, b8, b9, b10⟩ := ht
  refine ⟨⟨?_, by rw [b2]; exact h1'⟩, fun k hk => ?_, by rw [hx.2.1]; exact h3, fun i hi => by rw [hx.1 1 (by decide) (by decide), b3]; exact h4 i hi, ⟨s, k1, by rw [hx.1 4 (by decide) (by decide)]; exact k2, by rw [b6]; exact k3, fun i hi => by rw [hx.1 5 (by decide) (by decide), b4]; exact k4 i hi⟩,
    ⟨r, l1, by rw [hx.1 6 (by decide) (by decide)]; exact l2, by rw [b9]; exact l3, fun i hi => by rw [hx.1 7 (by decide) (by decide), b5]; exact l4 i hi⟩, ?_, ⟨a, b, m1, m2, by rw [hx.1 2 (by decide) (by decide)]; exact m3, by rw [hx.1 2 (by decide) (by decide)]; exact m4, by rw [b8]; exact m5, fun i hi => ?_⟩⟩
  · rw [hx.cv (by decide) (by decide)]
    exact h1.cg b1
  · obtain ⟨i, hi, rfl⟩ := hk
    by_cases e : i = 11
    · subst e
      exact hx.2.2 (h2 99 isC_99)
    · rw [hx.cv (by omega) (by omega)]
      exact h2 _ ⟨i, hi, rfl⟩
  · rcases h7 with ⟨p, q⟩ | ⟨p, q, r⟩
    · exact Or.inl ⟨by rw [hx.1 0 (by decide) (by decide)]; exact p, by rw [b7]; exact q⟩
    · refine Or.inr ⟨by rw [hx.1 0 (by decide) (by decide)]; exact p, by rw [b7]; exact q, ?_⟩
      rw [hx.cv (by decide) (by decide)]
      exact r.cg fun i hi => b10 i (Or.inl hi)
  · rw [hx.cv (by have := @pI_lt a b i; omega) pI_lt.2]
    exact (m6 i hi).cg fun j hj => b10 _ (Or.inr (by omega))
theorem R_ref {st mt : St} {r : Int32} (h : R st mt) (hr : rOk r) : R (refS st r) (refS mt r) := by
  obtain ⟨⟨h1, h1'⟩, h2, h3, h4, ⟨s, k1, k2, k3, k4⟩, ⟨q, l1, l2, l3, l4⟩, h7, ⟨a, b, m1, m2, m3, m4, m5, m6⟩⟩ := h
  have o : ∀ j, j ≠ 1 → ∀ s, refS s r j = s j := fun j hj s => u2_off hj
  have oc : ∀ k, 2 ≤ k → cv (refS st r) k = cv st k := fun k hk => cv_u2 (by omega)
  refine ⟨⟨?_, by rw [o 0 (by decide)]; exact h1'⟩, fun k hk => ?_, by rw [o 9 (by decide)]; exact h3, fun i hi => ?_, ⟨s, k1, by rw [o 4 (by decide)]; exact k2, by rw [o 0 (by decide)]; exact k3, fun i hi => by rw [o 5 (by decide), o 9 (by decide)]; exact k4 i hi⟩,
    ⟨q, l1, by rw [o 6 (by decide)]; exact l2, by rw [o 0 (by decide)]; exact l3, fun i hi => by rw [o 7 (by decide), o 16 (by decide)]; exact l4 i hi⟩, ?_, ⟨a, b, m1, m2, by rw [o 2 (by decide)]; exact m3, by rw [o 2 (by decide)]; exact m4, by rw [o 0 (by decide)]; exact m5, fun i hi => ?_⟩⟩
  · rw [oc 11 (by decide)]
    refine h1.cg fun i hi => ?_
    unfold lvM
    rw [o 2 (by decide), o 3 (by decide), o 4 (by decide), o 5 (by decide), o 6 (by decide), o 7 (by decide), o 8 (by decide), o 0 (by decide)]
  · obtain ⟨i, hi, rfl⟩ := hk
    rw [oc _ (by omega)]
    exact h2 _ ⟨i, hi, rfl⟩
  · unfold refS
    by_cases e : i = rI r
    · subst e
      rw [u2_same, u2_same, h4 _ (rI_in hr).2.1]
    · rw [u2_ne (Or.inr e), u2_ne (Or.inr e)]; exact h4 i hi
  · rcases h7 with ⟨p, q⟩ | ⟨p, q, z⟩
    · exact Or.inl ⟨by rw [o 0 (by decide)]; exact p, by rw [o 0 (by decide)]; exact q⟩
    · refine Or.inr ⟨by rw [o 0 (by decide)]; exact p, by rw [o 0 (by decide)]; exact q, ?_⟩
      rw [oc 27 (by decide), o 13 (by decide)]
      exact z
  · rw [oc _ (by have := @pI_lt a b i; omega), o 13 (by decide)]
    exact m6 i hi
theorem s_refused {r : Int32} {st : St} {K : Int32 → St → Prop} (hr : rOk r) (h : K r (refS st r)) : w_X8_refused r st K := by
  obtain ⟨-, h2, h3⟩ := rI_in hr
  unfold w_X8_refused
  rw [h3]
  exact s_at h2 (by decide) (s_put h2 (by decide) h)
theorem sim_ref {r : Int32} {st mt : St} (h : R st mt) (hr : rOk r) : w_X8_refused r st (fun r st' => w_X9_no r mt (fun r' mt' => r = r' ∧ R st' mt')) :=
  s_refused hr (t_no hr ⟨rfl, R_ref h hr⟩)
theorem sim_refL {r : Int32} {st mt : St} (h : R st mt) (hr : rOk r) : w_X8_refused r st (fun r st' => w_X9_lowestOf r mt (fun r' mt' => (4000000000000000000 - r.toInt64) = r' ∧ R st' mt')) :=
  s_refused hr (t_lowestOf hr ⟨rfl, R_ref h hr⟩)
theorem sim_refU {r : Int32} {st mt : St} (h : R st mt) (hr : rOk r) : w_X8_refused r st (fun r st' => w_X9_lower r mt (fun r' mt' => (1000000000 - r) = r' ∧ R st' mt')) :=
  s_refused hr (t_lower hr ⟨rfl, R_ref h hr⟩)
/-! the class's small rows, by the country seen -/
theorem s_hasKeeper {k n : Nat} {x : Int32} {st : St} {K : Int32 → St → Prop} (h7 : st k 7 = nI n) (h : K (isF n x) st) : w_X1_hasKeeper k x st K := by
  unfold w_X1_hasKeeper
  rw [h7]
  refine ⟨fun h1 => ?_, fun h1 => ⟨fun h2 => ?_, fun h2 => ?_⟩⟩ <;> simpa [isF, h1, *] using h
theorem s_hasLetter {k n : Nat} {x : Int32} {st : St} {K : Int32 → St → Prop} (h8 : st k 8 = nI n) (h : K (isF n x) st) : w_X1_hasLetter k x st K := by
  unfold w_X1_hasLetter
  rw [h8]
  refine ⟨fun h1 => ?_, fun h1 => ⟨fun h2 => ?_, fun h2 => ?_⟩⟩ <;> simpa [isF, h1, *] using h
theorem s_areTwo {k n : Nat} {x y : Int32} {st : St} {K : Int32 → St → Prop} (h7 : st k 7 = nI n) (h : K (twF n x y) st) : w_X1_areTwo k x y st K := by
  unfold w_X1_areTwo
  refine s_hasKeeper h7 ⟨fun h1 => ?_, fun h1 => s_hasKeeper h7 ⟨fun h2 => ?_, fun h2 => ⟨fun h3 => ?_, fun h3 => ?_⟩⟩⟩ <;> simpa [twF, h1, *] using h
def nbF (r : Int32) : Int32 := if r = 0 then -1 else 0
theorem s_keeperRef {n : Nat} {x : Int32} {st : St} {K : Int32 → St → Prop} (h7 : st 11 7 = nI n) (h : K (nbF (isF n x)) st) : w_X8_keeperRefusal x st K := by
  unfold w_X8_keeperRefusal
  refine s_hasKeeper h7 ⟨fun h1 => ?_, fun h1 => ?_⟩ <;> simpa [nbF, h1] using h
theorem s_letterRef {n : Nat} {x : Int32} {st : St} {K : Int32 → St → Prop} (h8 : st 11 8 = nI n) (h : K (nbF (isF n x)) st) : w_X8_letterRefusal x st K := by
  unfold w_X8_letterRefusal
  refine s_hasLetter h8 ⟨fun h1 => ?_, fun h1 => ?_⟩ <;> simpa [nbF, h1] using h
theorem s_twoRef {n : Nat} {x y : Int32} {st : St} {K : Int32 → St → Prop} (h7 : st 11 7 = nI n) (h : K (nbF (twF n x y)) st) : w_X8_twoRefusal x y st K := by
  unfold w_X8_twoRefusal
  refine s_areTwo h7 ⟨fun h1 => ?_, fun h1 => ?_⟩ <;> simpa [nbF, h1] using h
theorem s_townRef {x : Int32} {st : St} {K : Int32 → St → Prop} (h : K (nbF (townF x)) st) : w_X8_townRefusal x st K := by
  unfold w_X8_townRefusal
  refine s_isTown ⟨fun h1 => ?_, fun h1 => ?_⟩ <;> simpa [nbF, h1] using h
theorem rd {st : St} {k : Nat} {P : St → Prop} (h : P (sv st k (cv st k))) : P st := by rw [sv_cv] at h; exact h
theorem x_hateOf {st : St} {k p q : Nat} {K : Int32 → St → Prop} (hp : p < 6) (hq : q < 6) (h : K (cv st k 4 (hI p q)) st) : w_X1_hateOf k (nI p) (nI q) st K :=
  rd (k := k) (P := fun s => w_X1_hateOf k (nI p) (nI q) s K) (s_hateOf hp hq (by rw [sv_cv]; exact h))
theorem x_at {st : St} {k j i : Nat} {K : Int32 → St → Prop} (hj : j < 8) (hi : i < 6) (h : K (cv st k j i) st) : w_X8_at (k + j) 6 (nI i) st K := s_at hi (by decide) (by rw [st_of_cv (st := st) (k := k) hj]; exact h)
theorem x_townOf {st : St} {k i : Nat} {K : Int32 → St → Prop} (hi : i < 6) (h : K (cv st k 3 i) st) : w_X1_townOf k (nI i) st K := by unfold w_X1_townOf; exact x_at (by decide) hi h
theorem x_kindOf {st : St} {k i : Nat} {K : Int32 → St → Prop} (hi : i < 6) (h : K (cv st k 1 i) st) : w_X1_kindOf k (nI i) st K := by unfold w_X1_kindOf; exact x_at (by decide) hi h
theorem x_figureOf {st : St} {k i : Nat} {K : Int32 → St → Prop} (hi : i < 6) (h : K (cv st k 2 i) st) : w_X1_figureOf k (nI i) st K := by unfold w_X1_figureOf; exact x_at (by decide) hi h
theorem x_depthOf {st : St} {k i : Nat} {K : Int32 → St → Prop} (hi : i < 6) (h : K (cv st k 5 i) st) : w_X1_depthOf k (nI i) st K := by unfold w_X1_depthOf; exact x_at (by decide) hi h
theorem x_letterTownOf {st : St} {k i : Nat} {K : Int32 → St → Prop} (hi : i < 6) (h : K (cv st k 6 i) st) : w_X1_letterTownOf k (nI i) st K := by unfold w_X1_letterTownOf; exact x_at (by decide) hi h
theorem x_openedBy {st : St} {k i : Nat} {K : Int32 → St → Prop} (hi : i < 6) (h : K (cv st k 7 i) st) : w_X1_openedBy k (nI i) st K := by unfold w_X1_openedBy; exact x_at (by decide) hi h
theorem x_fadeOf {st : St} {k p : Nat} {K : Int32 → St → Prop} (hp : p < 6) (h : K (fadeF (cv st k) p) st) : w_X1_fadeOf k (nI p) st K :=
  rd (k := k) (P := fun s => w_X1_fadeOf k (nI p) s K) (s_fadeOf hp (by rw [sv_cv]; exact h))
theorem x_stirOf {st : St} {k p : Nat} {K : Int32 → St → Prop} (hp : p < 6) (h : K (stirF (cv st k) p) st) : w_X1_stirOf k (nI p) st K :=
  rd (k := k) (P := fun s => w_X1_stirOf k (nI p) s K) (s_stirOf hp (by rw [sv_cv]; exact h))
theorem x_wageOf {st : St} {k p : Nat} {K : Int32 → St → Prop} (hp : p < 6) (h : K (wageF (cv st k) p) st) : w_X1_wageOf k (nI p) st K :=
  rd (k := k) (P := fun s => w_X1_wageOf k (nI p) s K) (s_wageOf hp (by rw [sv_cv]; exact h))
theorem x_isOpen {st : St} {k n nL l : Nat} {K : Int32 → St → Prop} (hv : vC n nL (cv st k)) (hl : l < 6) (h : K (if (ob (cv st k)).testBit l then 1 else 0) st) : w_X1_isOpen k (nI l) st K := by
  refine rd (k := k) (P := fun s => w_X1_isOpen k (nI l) s K) (s_isOpen ?_)
  rw [sv_cv]
  obtain ⟨-, h2, -, -, -, h6, h7⟩ := hv
  rw [h6, bit_is _ (p64 h2 h7) l hl]
  cases hb : (ob (cv st k)).testBit l <;> simpa [hb] using h
theorem x_opener {st : St} {k n nL l : Nat} {K : Int32 → St → Prop} (hv : vC n nL (cv st k)) (hl : l < nL) (h : K (oI (openerF (cv st k) n l)) st) : w_X1_opener k (nI l) st K :=
  rd (k := k) (P := fun s => w_X1_opener k (nI l) s K) (s_opener (by have := hv.2.1; omega) hv.1 hv.2.2.1 (hv.2.2.2.2.1 l hl) (by rw [sv_cv]; exact h))
theorem x_bothIn {st : St} {k p q : Nat} {t : Int32} {K : Int32 → St → Prop} (hp : p < 6) (hq : q < 6) (h : K (if cv st k 3 p = t ∧ cv st k 3 q = t then 1 else 0) st) : w_X1_areBothIn k t (nI p) (nI q) st K :=
  rd (k := k) (P := fun s => w_X1_areBothIn k t (nI p) (nI q) s K) (s_bothIn hp hq (by rw [sv_cv]; exact h))
theorem x_openCount {st : St} {k n nL : Nat} {K : Int32 → St → Prop} (hv : vC n nL (cv st k)) (h : K (nI (pc (ob (cv st k)))) st) : w_X1_openCount k st K :=
  rd (k := k) (P := fun s => w_X1_openCount k s K) (s_openCount hv (by rw [sv_cv]; exact h))
theorem x_allHate {st : St} {k n : Nat} {K : Int32 → St → Prop} (hn : n ≤ 6) (h7 : st k 7 = nI n) (hk : K (allF n (cv st k)) st) : w_X1_allHate k st K := by
  unfold w_X1_allHate
  refine lo_fr (fun m p s => w_X1_allHate_L4 k K m s (nI p) st) (fun p s => fr (p + 1) n (fun q (s : Int32) => s + cv st k 4 (hI p q)) s) (fun _ _ => True) (0 : Int32) (Nat.zero_le n) trivial (fun _ _ _ _ _ => trivial) (fun _ m => ?_) (fun m p s _ h2 _ hw => ?_)
  · rw [w_X1_allHate_L4, w_X1_allHate_L4q, h7]
    exact ⟨fun _ => hk, fun h9 => absurd (nI_le (Nat.le_refl n) (by omega)) h9⟩
  · rw [w_X1_allHate_L4, w_X1_allHate_L4q, h7]
    refine ⟨fun h9 => absurd h9 (nI_ge h2 (by omega)), fun _ => ?_⟩
    rw [nI_inc]
    refine lo_fr (fun j q s => w_X1_allHate_L16 k (fun v1 v2 st => w_X1_allHate_L4 k K m v1 v2 st) K j s (nI p) (nI q) st) (fun q (s : Int32) => s + cv st k 4 (hI p q)) (fun _ _ => True) s (show p + 1 ≤ n by omega) trivial (fun _ _ _ _ _ => trivial) (fun _ j => ?_) (fun j q s h1 h2' _ hw2 => ?_)
    · rw [w_X1_allHate_L16, w_X1_allHate_L16q, h7]
      refine ⟨fun _ => ?_, fun h9 => absurd (nI_le (Nat.le_refl n) (by omega)) h9⟩
      rw [w_X1_allHate_b39, nI_inc]
      exact hw
    · rw [w_X1_allHate_L16, w_X1_allHate_L16q, h7]
      refine ⟨fun h9 => absurd h9 (nI_ge h2' (by omega)), fun _ => x_hateOf (by omega) (by omega) ?_⟩
      rw [nI_inc]
      exact hw2
