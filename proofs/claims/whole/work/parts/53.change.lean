/-! pure part: what changes the country -/
theorem Rref.tr {st mt st' mt' : St} (h : Rref st mt) (e1 : st' 1 = st 1) (e2 : mt' 1 = mt 1) : Rref st' mt' := fun i hi => by rw [e1, e2]; exact h i hi
theorem Rtell.tr {st mt st' mt' : St} (h : Rtell st mt) (e1 : st' 4 = st 4) (e2 : st' 5 = st 5) (e3 : mt' 0 16 = mt 0 16) (e4 : mt' 9 = mt 9) : Rtell st' mt' := by
  obtain ⟨s, h1, h2, h3, h4⟩ := h
  exact ⟨s, h1, by rw [e1]; exact h2, by rw [e3]; exact h3, fun i hi => by rw [e2, e4]; exact h4 i hi⟩
theorem Rrow.tr {st mt st' mt' : St} (h : Rrow st mt) (e1 : st' 6 = st 6) (e2 : st' 7 = st 7) (e3 : mt' 0 29 = mt 0 29) (e4 : mt' 16 = mt 16) : Rrow st' mt' := by
  obtain ⟨s, h1, h2, h3, h4⟩ := h
  exact ⟨s, h1, by rw [e1]; exact h2, by rw [e3]; exact h3, fun i hi => by rw [e2, e4]; exact h4 i hi⟩
theorem Rkept.tr {st mt st' mt' : St} (h : Rkept st mt) (e1 : st' 0 3 = st 0 3) (e2 : cv st' 27 = cv st 27) (e3 : mt' 0 20 = mt 0 20) (e4 : ∀ a, a < 75 → mt' 13 a = mt 13 a) : Rkept st' mt' := by
  rcases h with ⟨p, q⟩ | ⟨p, q, z⟩
  · exact Or.inl ⟨by rw [e1]; exact p, by rw [e3]; exact q⟩
  · exact Or.inr ⟨by rw [e1]; exact p, by rw [e3]; exact q, by rw [e2]; exact z.cg e4⟩
theorem Rpast.tr {st mt st' mt' : St} (h : Rpast st mt) (e1 : st' 2 = st 2) (e2 : ∀ a b i, cv st' (pI a b i) = cv st (pI a b i)) (e3 : mt' 0 23 = mt 0 23) (e4 : ∀ a, 225 ≤ a → mt' 13 a = mt 13 a) : Rpast st' mt' := by
  obtain ⟨a, b, m1, m2, m3, m4, m5, m6⟩ := h
  exact ⟨a, b, m1, m2, by rw [e1]; exact m3, by rw [e1]; exact m4, by rw [e3]; exact m5, fun i hi => by rw [e2]; exact (m6 i hi).cg fun j _ => e4 _ (by omega)⟩
/-- now's country changes, nothing else -/
theorem R_set {st mt st' mt' : St} {n nL : Nat} (h : R st mt) (hx : ∀ j, (j < 11 ∨ 19 ≤ j) → st' j = st j) (rm : RM n nL mt' (cv st' 11)) (g : gC n nL (cv st' 11)) (m0 : ∀ a, a ≠ 8 → a ≠ 9 → a ≠ 10 → a ≠ 21 → a ≠ 22 → a ≠ 25 → a ≠ 26 → mt' 0 a = mt 0 a) (mj : ∀ j, j ≠ 0 → (j < 2 ∨ 8 < j) → j ≠ 14 → mt' j = mt j) : R st' mt' := by
  obtain ⟨h1, h2, h3, h4, h5, h6, h7, h8⟩ := h
  have o0 : ∀ a, 11 ≤ a → a < 21 ∨ 26 < a ∨ a = 23 → mt' 0 a = mt 0 a := fun a p q => m0 a (by omega) (by omega) (by omega) (by omega) (by omega) (by omega) (by omega)
  have oc : ∀ k, 19 ≤ k → cv st' k = cv st k := fun k hk => cv_eq fun j _ _ => hx j (by omega)
  refine ⟨Rnow_of rm ((o0 11 (by decide) (by decide)).trans h1.2) g, fun k hk => ?_, by rw [hx 9 (by decide)]; exact h3, h4.tr (hx 1 (by decide)) (mj 1 (by decide) (by decide) (by decide)), h5.tr (hx 4 (by decide)) (hx 5 (by decide)) (o0 16 (by decide) (by decide)) (mj 9 (by decide) (by decide) (by decide)), h6.tr (hx 6 (by decide)) (hx 7 (by decide)) (o0 29 (by decide) (by decide)) (mj 16 (by decide) (by decide) (by decide)),
    h7.tr (by rw [hx 0 (by decide)]) (oc 27 (by decide)) (o0 20 (by decide) (by decide)) (fun a _ => by rw [mj 13 (by decide) (by decide) (by decide)]), h8.tr (hx 2 (by decide)) (fun a b i => oc _ (by have := @pI_lt a b i; omega)) (o0 23 (by decide) (by decide)) (fun a _ => by rw [mj 13 (by decide) (by decide) (by decide)])⟩
  obtain ⟨i, hi, rfl⟩ := hk
  by_cases e : i = 0
  · subst e; exact g.1
  · rw [oc _ (by omega)]; exact h2 _ ⟨i, hi, rfl⟩
theorem R_forget {st mt : St} (h : R st mt) : R (u2 st 2 2 0) (u2 mt 0 23 0) := by
  obtain ⟨h1, h2, h3, h4, h5, h6, h7, ⟨a, b, m1, m2, m3, m4, m5, m6⟩⟩ := h
  have oc : ∀ k, 10 ≤ k → cv (u2 st 2 2 0) k = cv st k := fun k hk => cv_u2 (by omega)
  refine ⟨⟨by rw [oc 11 (by decide)]; exact h1.1.cg (lv_u2 (Or.inr ⟨rfl, by decide, by decide, by decide⟩)), by rw [u2_0 (by decide)]; exact h1.2⟩, fun k hk => ?_, by rw [u2_off (by decide)]; exact h3, h4.tr (u2_off (by decide)) (u2_off (by decide)), h5.tr (u2_off (by decide)) (u2_off (by decide)) (u2_0 (by decide)) (u2_off (by decide)), h6.tr (u2_off (by decide)) (u2_off (by decide)) (u2_0 (by decide)) (u2_off (by decide)),
    h7.tr (by rw [u2_off (by decide)]) (oc 27 (by decide)) (u2_0 (by decide)) (fun a _ => by rw [u2_off (by decide)]), ⟨a, 0, m1, by decide, by rw [u2_ne (Or.inr (by decide))]; exact m3, u2_same, u2_same, fun i hi => absurd hi (Nat.not_lt_zero i)⟩⟩
  obtain ⟨i, hi, rfl⟩ := hk
  rw [oc _ (by omega)]; exact h2 _ ⟨i, hi, rfl⟩
theorem gC_cg {n nL : Nat} {c c' : Ct} (g : gC n nL c) (hz : zC c') (h3 : ∀ p, p < n → ∃ t, t < 4 ∧ c' 3 p = nI t) (h5 : c' 5 = c 5) (h6 : c' 6 = c 6) (hw : ∃ w, w ≤ 999 ∧ c' 0 10 = nI w) : gC n nL c' := ⟨hz, h3, by rw [h6]; exact g.2.2.1, by rw [h5]; exact g.2.2.2.1, hw⟩
theorem gC_hate {n nL p q : Nat} {c : Ct} {v : Int32} (g : gC n nL c) (hp : p < 6) (hq : q < 6) : gC n nL (u2 c 4 (hI p q) v) :=
  gC_cg g (zC_u2 g.1 (by have := hI_lt hp hq; rw [len4]; omega) (fun z => absurd z (by decide))) (by rw [u2_off (by decide)]; exact g.2.1) (u2_off (by decide)) (u2_off (by decide)) (by rw [u2_off (by decide)]; exact g.2.2.2.2)
theorem gC_town {n nL p t : Nat} {c : Ct} (g : gC n nL c) (hp : p < 6) (ht : t < 4) : gC n nL (u2 c 3 p (nI t)) :=
  gC_cg g (zC_u2 g.1 (show p < lenC 3 from hp) (fun z => absurd z (by decide))) (fun k hk => by
    by_cases e : k = p
    · subst e; exact ⟨t, ht, u2_same⟩
    · rw [u2_ne (Or.inr e)]; exact g.2.1 k hk) (u2_off (by decide)) (u2_off (by decide)) (by rw [u2_off (by decide)]; exact g.2.2.2.2)
theorem gC_bec {n nL : Nat} {c : Ct} (g : gC n nL c) : gC n nL (bec c) := gC_cg g (zC_bec g.1) g.2.1 rfl rfl g.2.2.2.2
theorem RB.bec {f : Nat → Int32} {c : Ct} (h : RB f c) : RB f (bec c) := by
  obtain ⟨n, nL, h1, h2⟩ := h
  exact ⟨n, nL, RM_bec h1, gC_bec h2⟩
/-! what is kept before a change, and taken back -/
def rmX (st : St) (a b : Nat) : St := u2 (u2 (sv st (35 + 8 * a) (bec (cv st 11))) 2 1 (nI ((a + 1) % 8))) 2 2 (nI (min 8 (b + 1)))
theorem m8 : ∀ a, a < 8 → (nI a + 1) - (nI a + 1) / 8 * 8 = nI ((a + 1) % 8) := by decide +kernel
theorem m8b : ∀ a, a < 8 → (nI a + 8 - 1) - (nI a + 8 - 1) / 8 * 8 = nI ((a + 7) % 8) := by decide +kernel
theorem n8 : ∀ b, b < 9 → (if nI b + 1 < 8 then nI b + 1 else 8) = nI (min 8 (b + 1)) := by decide +kernel
theorem s_country {a : Nat} {st : St} {K : Option Nat → St → Prop} (ha : a < 8) (h : K (some (35 + 8 * a)) st) : w_X5_country (nI a) st K := by
  unfold w_X5_country
  refine n1 (n_lt0 (by omega)) (n1 (nI_ge ha (by decide)) ⟨vp_in_nI ha (by decide), ?_⟩)
  rw [clI ha (by decide)]
  exact h
theorem s_remember {st : St} {a b : Nat} {K : St → Prop} (ha : a < 8) (hb : b ≤ 8) (e1 : st 2 1 = nI a) (e2 : st 2 2 = nI b) (hz : ∀ k, isC k → zC (cv st k)) (h : K (rmX st a b)) : w_X5_remember 11 st K := by
  unfold w_X5_remember
  rw [e1]
  refine s_country ha ⟨fun z => (by cases z), fun q hq => ?_⟩
  cases hq
  refine s_become (by omega) (hz _ (isC_past ha)) (hz 11 isC_11) ?_
  have o : ∀ c, sv st (35 + 8 * a) c 2 = st 2 := fun c => sv_off (by omega)
  have q1 : sv st (35 + 8 * a) (bec (cv st 11)) 2 1 = nI a := by rw [o]; exact e1
  rw [q1, m8 a ha]
  have q2 : u2 (sv st (35 + 8 * a) (bec (cv st 11))) 2 1 (nI ((a + 1) % 8)) 2 2 = nI b := by
    rw [u2_ne (Or.inr (by decide)), o]; exact e2
  rw [q2, n8 b (by omega)]
  exact h
theorem rm_11 {st : St} {a b : Nat} (ha : a < 8) : cv (rmX st a b) 11 = cv st 11 := by
  unfold rmX
  rw [cv_u2 (by decide), cv_u2 (by decide), cv_off (by omega)]
/-- the check's keeping: which blocks hold what -/
def KB (mt s : St) (b : Nat) : Prop := (∀ j, j ≠ 0 → j ≠ 13 → s j = mt j) ∧ (∀ a, a ≠ 21 → a ≠ 22 → a ≠ 23 → s 0 a = mt 0 a) ∧ s 0 23 = nI (min 8 (b + 1)) ∧ (∀ a, a < 225 → s 13 a = mt 13 a) ∧
  (∀ i j, i + (if b = 8 then 1 else 0) < b → j < 75 → s 13 (225 + 75 * i + j) = mt 13 (225 + 75 * (i + (if b = 8 then 1 else 0)) + j)) ∧ ∀ j, j < 75 → s 13 (225 + 75 * (min 8 (b + 1) - 1) + j) = lvM mt j
theorem n3b : ∀ b, b < 8 → 3 + nI b = nI (3 + b) := by decide +kernel
theorem n8m : nI 8 - 1 = nI 7 := by decide
theorem t_keepsBack {b : Nat} {mt : St} {K : St → Prop} (hb : b ≤ 8) (e : mt 0 23 = nI b) (hk : ∀ s, KB mt s b → K s) : w_X9_keepsBack mt K := by
  unfold w_X9_keepsBack
  rw [e]
  by_cases e8 : b = 8
  · subst e8
    refine y2 rfl ?_
    show ∃ m, w_X9_keepsBack_L13 K m (nI 225) mt
    refine lo_rel (fun m k (s : St) => w_X9_keepsBack_L13 K m (nI k) s) (fun k s => (∀ j, j ≠ 13 → s j = mt j) ∧ ∀ a, s 13 a = if 225 ≤ a ∧ a < k then mt 13 (a + 75) else mt 13 a) mt (show 225 ≤ 750 by decide) ⟨fun _ _ => rfl, fun a => (if_neg (by omega)).symm⟩ (fun s hI m => ?_) (fun m k s h1 h2 hI hw => ?_)
    · obtain ⟨i1, i2⟩ := hI
      rw [w_X9_keepsBack_L13, w_X9_keepsBack_L13q]
      refine y1 (nI_le (Nat.le_refl 750) (by decide)) ?_
      rw [w_X9_keepsBack_b41, w_X9_keepsBack_b51, i1 0 (by decide), e, u2_same]
      have e10 : (3 : Int32) + (nI 8 - 1) = nI 10 := by decide
      rw [e10]
      refine t_saves (w := 10) (by decide) fun s1 a1 a2 a3 => ?_
      have s23 : s1 0 23 = nI 7 := by rw [a2 23 (by decide) (by decide), u2_same]; exact n8m
      rw [s23]
      refine hk _ ⟨fun j p q => ?_, fun a p q r => ?_, ?_, fun a ha => ?_, fun i j hi hj => ?_, fun j hj => ?_⟩
      · rw [u2_off p, a1 j p q, u2_off p]; exact i1 j q
      · rw [u2_0 r, a2 a p q, u2_0 r, i1 0 (by decide)]
      · rw [u2_same]; rfl
      · rw [u2_off (by decide), a3, if_neg (by omega), u2_off (by decide), i2, if_neg (by omega)]
      · rw [if_pos rfl] at hi ⊢
        rw [u2_off (by decide), a3, if_neg (by omega), u2_off (by decide), i2, if_pos (by omega)]
        congr 1; omega
      · rw [u2_off (by decide), a3, if_pos (by omega)]
        have lv : ∀ x, x < 75 → lvM (u2 s 0 23 (nI 8 - 1)) x = lvM mt x := fun x hx => by
          rw [lv_u2 (Or.inr ⟨rfl, by decide, by decide, by decide⟩) x hx]
          unfold lvM
          rw [i1 2 (by decide), i1 3 (by decide), i1 4 (by decide), i1 5 (by decide), i1 6 (by decide), i1 7 (by decide), i1 8 (by decide), i1 0 (by decide)]
        have ej : 225 + 75 * (min 8 (8 + 1) - 1) + j - 75 * 10 = j := by
          rw [show min 8 (8 + 1) = 8 from rfl]
          omega
        rw [ej]
        exact lv _ hj
    · obtain ⟨i1, i2⟩ := hI
      rw [w_X9_keepsBack_L13, w_X9_keepsBack_L13q]
      have e75 : nI k + 75 = nI (k + 75) := nI_add k 75
      rw [e75, clI (show k < 825 by omega) (by decide), clI (show k + 75 < 825 by omega) (by decide), nI_inc]
      refine n1 (nI_ge h2 (by decide)) ⟨vp_in_nI (by omega) (by decide), vp_in_nI (by omega) (by decide), ?_⟩
      refine hw _ ⟨fun j hj => by rw [u2_off hj]; exact i1 j hj, fun a => ?_⟩
      by_cases ea : a = k
      · subst ea
        rw [u2_same, i2, if_neg (by omega), if_pos (by omega)]
      · rw [u2_ne (Or.inr ea), i2]
        by_cases z : 225 ≤ a ∧ a < k
        · rw [if_pos z, if_pos (by omega)]
        · rw [if_neg z, if_neg (by omega)]
  · refine n2 (fun z => e8 (nI_eqI (by omega) (by decide) z)) ?_
    rw [w_X9_keepsBack_b51, e, n3b b (by omega)]
    refine t_saves (w := 3 + b) (by omega) fun s1 a1 a2 a3 => ?_
    have s23 : s1 0 23 = nI b := (a2 23 (by decide) (by decide)).trans e
    rw [s23, nI_inc]
    refine hk _ ⟨fun j p q => ?_, fun a p q r => ?_, ?_, fun a ha => ?_, fun i j hi hj => ?_, fun j hj => ?_⟩
    · rw [u2_off p]; exact a1 j p q
    · rw [u2_0 r]; exact a2 a p q
    · rw [u2_same]; congr 1; omega
    · rw [u2_off (by decide), a3, if_neg (by omega)]
    · rw [if_neg e8] at hi ⊢
      rw [u2_off (by decide), a3, if_neg (by omega)]
      rfl
    · have hm : min 8 (b + 1) = b + 1 := by omega
      rw [u2_off (by decide), a3, hm, if_pos (by omega)]
      congr 1; omega
theorem R_rem {st mt s : St} {a b : Nat} (h : R st mt) (ha : a < 8) (hb : b ≤ 8) (m6 : ∀ i, i < b → RB (fun j => mt 13 (225 + 75 * i + j)) (cv st (pI a b i))) (k : KB mt s b) : R (rmX st a b) s := by
  obtain ⟨k1, k2, k3, k4, k5, k6⟩ := k
  obtain ⟨h1, h2, h3, h4, h5, h6, h7, -⟩ := h
  have oj : ∀ j, j ≠ 2 → j < 35 → rmX st a b j = st j := fun j p q => by
    unfold rmX
    rw [u2_off p, u2_off p, sv_off (by omega)]
  have oc : ∀ k, 10 ≤ k → (k + 8 ≤ 35 + 8 * a ∨ 35 + 8 * a + 8 ≤ k) → cv (rmX st a b) k = cv st k := fun k p q => by
    unfold rmX
    rw [cv_u2 (by omega), cv_u2 (by omega), cv_off (by omega)]
  have oa : cv (rmX st a b) (35 + 8 * a) = bec (cv st 11) := by
    unfold rmX
    rw [cv_u2 (by omega), cv_u2 (by omega), cv_sv (nC_bec nC_cv)]
  have lv : ∀ i, i < 75 → lvM s i = lvM mt i := fun i _ => by
    unfold lvM
    rw [k1 2 (by decide) (by decide), k1 3 (by decide) (by decide), k1 4 (by decide) (by decide), k1 5 (by decide) (by decide), k1 6 (by decide) (by decide), k1 7 (by decide) (by decide), k1 8 (by decide) (by decide), k2 8 (by decide) (by decide) (by decide), k2 9 (by decide) (by decide) (by decide), k2 10 (by decide) (by decide) (by decide)]
  refine ⟨⟨by rw [rm_11 ha]; exact h1.1.cg lv, by rw [k2 11 (by decide) (by decide) (by decide)]; exact h1.2⟩, fun k hk => ?_, by rw [oj 9 (by decide) (by decide)]; exact h3, h4.tr (oj 1 (by decide) (by decide)) (k1 1 (by decide) (by decide)), h5.tr (oj 4 (by decide) (by decide)) (oj 5 (by decide) (by decide)) (k2 16 (by decide) (by decide) (by decide)) (k1 9 (by decide) (by decide)),
    h6.tr (oj 6 (by decide) (by decide)) (oj 7 (by decide) (by decide)) (k2 29 (by decide) (by decide) (by decide)) (k1 16 (by decide) (by decide)), h7.tr (by rw [oj 0 (by decide) (by decide)]) (oc 27 (by decide) (by omega)) (k2 20 (by decide) (by decide) (by decide)) (fun x hx => k4 x (by omega)),
    ⟨(a + 1) % 8, min 8 (b + 1), by omega, by omega, ?_, ?_, k3, fun i hi => ?_⟩⟩
  · obtain ⟨i, hi, rfl⟩ := hk
    by_cases e : 8 * i + 11 = 35 + 8 * a
    · rw [e, oa]; exact zC_bec (h2 11 isC_11)
    · rw [oc _ (by omega) (by omega)]; exact h2 _ ⟨i, hi, rfl⟩
  · unfold rmX
    rw [u2_ne (Or.inr (by decide)), u2_same]
  · unfold rmX
    rw [u2_same]
  · by_cases ei : i = min 8 (b + 1) - 1
    · have ep : pI ((a + 1) % 8) (min 8 (b + 1)) i = 35 + 8 * a := by unfold pI; omega
      rw [ep, oa, ei]
      exact (h1.1.cg k6).bec
    · have ep : pI ((a + 1) % 8) (min 8 (b + 1)) i = pI a b (i + (if b = 8 then 1 else 0)) := by
        unfold pI
        split <;> omega
      have lt : i + (if b = 8 then 1 else 0) < b := by split <;> omega
      have ne : pI a b (i + (if b = 8 then 1 else 0)) + 8 ≤ 35 + 8 * a ∨ 35 + 8 * a + 8 ≤ pI a b (i + (if b = 8 then 1 else 0)) := by
        unfold pI
        split at lt <;> split <;> omega
      rw [ep, oc _ (by have := @pI_lt a b (i + (if b = 8 then 1 else 0)); omega) ne]
      exact (m6 _ lt).cg fun j hj => k5 i j lt hj
/-- both keep back what is now -/
theorem rem2 {st mt : St} (h : R st mt) {K : St → Prop} (hk : ∀ a b, a < 8 → b ≤ 8 → (∀ s, KB mt s b → R (rmX st a b) s) → mt 0 23 = nI b → K (rmX st a b)) : w_X5_remember 11 st K := by
  have h' := h
  obtain ⟨h1, h2, h3, h4, h5, h6, h7, ⟨a, b, m1, m2, m3, m4, m5, m6⟩⟩ := h'
  exact s_remember m1 m2 m3 m4 h2 (hk a b m1 m2 (fun s hs => R_rem h m1 m2 m6 hs) m5)
