/-! pure part: who comes, what comes -/
def akH (n : Nat) (q : Nat) (c : Ct) : Ct := u2 c 4 (hI q n) 20
def akF (n : Nat) (a b t : Int32) (c : Ct) : Ct := u2 (fr 0 n (akH n) (u2 (u2 (u2 c 1 n a) 2 n b) 3 n t)) 0 7 (nI (n + 1))
theorem akH_off {n i j : Nat} {c : Ct} (h : j ≠ 4) : fr 0 i (akH n) c j = c j := fr_comp (fun q c => u2_off h) (Nat.zero_le i)
theorem akH_4 {n i : Nat} {c : Ct} (hn : n < 6) (hi : i ≤ n) : ∀ p q, p < q → q < 6 → fr 0 i (akH n) c 4 (hI p q) = if q = n ∧ p < i then 20 else c 4 (hI p q) := by
  refine fr_inv (fun i (x : Ct) => ∀ p q, p < q → q < 6 → x 4 (hI p q) = if q = n ∧ p < i then 20 else c 4 (hI p q)) (akH n) (Nat.zero_le i) (fun p q _ _ => (if_neg (by omega)).symm) (fun k x _ hk hx p q hp hq => ?_)
  unfold akH
  by_cases e : q = n ∧ p = k
  · obtain ⟨rfl, rfl⟩ := e
    rw [u2_same, if_pos ⟨rfl, by omega⟩]
  · rw [u2_ne (Or.inr fun z => e ?_), hx p q hp hq]
    · by_cases z : q = n ∧ p < k
      · rw [if_pos z, if_pos ⟨z.1, by omega⟩]
      · rw [if_neg z, if_neg (by omega)]
    · obtain ⟨z1, z2⟩ := hI_inj hp hq (show k < n by omega) hn z
      exact ⟨z2, z1⟩
theorem s_addKeeper {st : St} {k n : Nat} {c : Ct} {a b t : Int32} {K : Int32 → St → Prop} (hn : n < 6) (h7 : c 0 7 = nI n) (h : K (nI n) (sv st k (akF n a b t c))) : w_X1_addKeeper k a b t (sv st k c) K := by
  unfold w_X1_addKeeper
  rw [sv_0, h7]
  refine s_put hn (by decide) ?_
  rw [sv_u2 (by decide)]
  refine s_put hn (by decide) ?_
  rw [sv_u2 (by decide)]
  refine s_put hn (by decide) ?_
  rw [sv_u2 (by decide)]
  refine lo_fr (fun m q (c : Ct) => w_X1_addKeeper_L39 k a b t K m (nI n) (nI q) (sv st k c)) (akH n) (fun _ c => c 0 7 = nI n) (u2 (u2 (u2 c 1 n a) 2 n b) 3 n t) (Nat.zero_le n) (by rw [u2_off (by decide), u2_off (by decide), u2_off (by decide)]; exact h7) (fun q c _ _ e => by unfold akH; rw [u2_off (by decide)]; exact e) (fun e m => ?_) (fun m q c _ hq e hk => ?_)
  · rw [w_X1_addKeeper_L39, w_X1_addKeeper_L39q]
    refine y1 (nI_le (Nat.le_refl n) (by omega)) ?_
    rw [w_X1_addKeeper_b62, sv_0, e, sv_u20, nI_inc]
    exact h
  · rw [w_X1_addKeeper_L39, w_X1_addKeeper_L39q]
    refine n1 (nI_ge hq (by omega)) (s_setHate (by omega) hn ?_)
    rw [show heldF 20 = 20 by decide, nI_inc]
    exact hk
def msH (n : Nat) (p : Nat) (s : St) : St := setsF s p n 20
def msF (n : Nat) (a b t : Int32) (mt : St) : St := u2 (fr 0 n (msH n) (u2 (u2 (u2 mt 2 n a) 3 n b) 4 n t)) 0 8 (nI (n + 1))
theorem msH_off {n i j : Nat} {s : St} (h : j ≠ 5) : fr 0 i (msH n) s j = s j := fr_inv (fun _ (x : St) => x j = s j) (msH n) (Nat.zero_le i) rfl fun p x _ _ e => by
  unfold msH
  rw [ef_sets j h]
  exact e
theorem msH_5 {n i : Nat} {s : St} (hn : n < 6) (hi : i ≤ n) : ∀ p q, p < 6 → q < 6 → fr 0 i (msH n) s 5 (6 * p + q) = if (q = n ∧ p < i) ∨ (p = n ∧ q < i) then 20 else s 5 (6 * p + q) := by
  refine fr_inv (fun i (x : St) => ∀ p q, p < 6 → q < 6 → x 5 (6 * p + q) = if (q = n ∧ p < i) ∨ (p = n ∧ q < i) then 20 else s 5 (6 * p + q)) (msH n) (Nat.zero_le i) (fun p q _ _ => (if_neg (by omega)).symm) (fun k x _ hk hx p q hp hq => ?_)
  unfold msH setsF
  rw [u2_if, u2_if]
  by_cases e1 : p = n ∧ q = k
  · rw [if_pos (by omega), if_pos (by omega)]
  · rw [if_neg (by omega)]
    by_cases e2 : p = k ∧ q = n
    · rw [if_pos (by omega), if_pos (by omega)]
    · rw [if_neg (by omega), hx p q hp hq]
      by_cases z : (q = n ∧ p < k) ∨ (p = n ∧ q < k)
      · rw [if_pos z, if_pos (by omega)]
      · rw [if_neg z, if_neg (by omega)]
theorem t_addsKeeper {mt : St} {n : Nat} {a b t : Int32} {K : St → Prop} (hn : n < 6) (h8 : mt 0 8 = nI n) (h : K (msF n a b t mt)) : w_X9_addsKeeper a b t mt K := by
  have vi : vp_in (nI n) 6 := vp_in_nI hn (by decide)
  have cl : (nI n).toNatClampNeg = n := clI hn (by decide)
  unfold w_X9_addsKeeper
  rw [h8, cl]
  have e1 : u2 mt 2 n a 0 8 = nI n := by rw [u2_off (by decide)]; exact h8
  rw [e1, cl]
  have e2 : u2 (u2 mt 2 n a) 3 n b 0 8 = nI n := by rw [u2_off (by decide)]; exact e1
  rw [e2, cl]
  refine ⟨vi, vi, vi, ?_⟩
  refine lo_fr (fun m p (s : St) => w_X9_addsKeeper_L33 a b t K m (nI p) s) (msH n) (fun _ s => s 0 8 = nI n) (u2 (u2 (u2 mt 2 n a) 3 n b) 4 n t) (Nat.zero_le n) (by rw [u2_off (by decide)]; exact e2) (fun p s _ _ e => by unfold msH; rw [ef_sets 0 (by decide)]; exact e) (fun e m => ?_) (fun m p s _ hp e hk => ?_)
  · rw [w_X9_addsKeeper_L33, w_X9_addsKeeper_L33q, e]
    refine y1 (nI_le (Nat.le_refl n) (by omega)) ?_
    rw [w_X9_addsKeeper_b60, e, nI_inc]
    exact h
  · rw [w_X9_addsKeeper_L33, w_X9_addsKeeper_L33q, e]
    refine n1 (nI_ge hp (by omega)) (t_sets (by omega) hn ?_)
    rw [nI_inc]
    exact hk
theorem ms_off {n j : Nat} {a b t : Int32} {mt : St} (h0 : j ≠ 0) (h5 : j ≠ 5) (h2 : j ≠ 2) (h3 : j ≠ 3) (h4 : j ≠ 4) : msF n a b t mt j = mt j := by
  unfold msF
  rw [u2_off h0, msH_off h5, u2_off h4, u2_off h3, u2_off h2]
theorem ms_0 {n i : Nat} {a b t : Int32} {mt : St} (hi : i ≠ 8) : msF n a b t mt 0 i = mt 0 i := by
  unfold msF
  rw [u2_0 hi, msH_off (by decide), u2_off (by decide), u2_off (by decide), u2_off (by decide)]
theorem RM_add {n nL : Nat} {mt : St} {c : Ct} {a b t : Int32} (h : RM n nL mt c) (h0 : mt 0 11 = 0) (hn : n < 6) (ht : t ≠ -1) : RM (n + 1) nL (msF n a b t mt) (akF n a b t c) := by
  obtain ⟨g1, g2, g3, g4, g5, g6, g7, g8⟩ := h
  obtain ⟨v1, v2, v3, v4, v5, v6, v7⟩ := g1
  have a0 : ∀ i, i ≠ 7 → akF n a b t c 0 i = c 0 i := fun i hi => by
    unfold akF
    rw [u2_0 hi, akH_off (by decide), u2_off (by decide), u2_off (by decide), u2_off (by decide)]
  have a1 : ∀ p, akF n a b t c 1 p = if p = n then a else c 1 p := fun p => by
    unfold akF
    rw [u2_off (by decide), akH_off (by decide), u2_off (by decide), u2_off (by decide), u2_if]
    simp only [true_and]
  have a2 : ∀ p, akF n a b t c 2 p = if p = n then b else c 2 p := fun p => by
    unfold akF
    rw [u2_off (by decide), akH_off (by decide), u2_off (by decide), u2_if, u2_off (by decide)]
    simp only [true_and]
  have a3 : ∀ p, akF n a b t c 3 p = if p = n then t else c 3 p := fun p => by
    unfold akF
    rw [u2_off (by decide), akH_off (by decide), u2_if, u2_off (by decide), u2_off (by decide)]
    simp only [true_and]
  have a4 : ∀ p q, p < q → q < 6 → akF n a b t c 4 (hI p q) = if q = n then 20 else c 4 (hI p q) := fun p q hp hq => by
    unfold akF
    rw [u2_off (by decide), akH_4 hn (Nat.le_refl n) p q hp hq, u2_off (by decide), u2_off (by decide), u2_off (by decide)]
    by_cases e : q = n
    · rw [if_pos ⟨e, by omega⟩, if_pos e]
    · rw [if_neg (fun z => e z.1), if_neg e]
  have a5 : ∀ j, 5 ≤ j → akF n a b t c j = c j := fun j hj => by
    unfold akF
    rw [u2_off (by omega), akH_off (by omega), u2_off (by omega), u2_off (by omega), u2_off (by omega)]
  have eo : ob (akF n a b t c) = ob c := by unfold ob; rw [a0 9 (by decide)]
  have m2 : ∀ p, msF n a b t mt 2 p = if p = n then a else mt 2 p := fun p => by
    unfold msF
    rw [u2_off (by decide), msH_off (by decide), u2_off (by decide), u2_off (by decide), u2_if]
    simp only [true_and]
  have m3 : ∀ p, msF n a b t mt 3 p = if p = n then b else mt 3 p := fun p => by
    unfold msF
    rw [u2_off (by decide), msH_off (by decide), u2_off (by decide), u2_if, u2_off (by decide)]
    simp only [true_and]
  have m4 : ∀ p, msF n a b t mt 4 p = if p = n then t else mt 4 p := fun p => by
    unfold msF
    rw [u2_off (by decide), msH_off (by decide), u2_if, u2_off (by decide), u2_off (by decide)]
    simp only [true_and]
  have m5 : ∀ p q, p < 6 → q < 6 → msF n a b t mt 5 (6 * p + q) = if (q = n ∧ p < n) ∨ (p = n ∧ q < n) then 20 else mt 5 (6 * p + q) := fun p q hp hq => by
    unfold msF
    rw [u2_off (by decide), msH_5 hn (Nat.le_refl n) p q hp hq, u2_off (by decide), u2_off (by decide), u2_off (by decide)]
  refine ⟨vC_of (by omega) v2 ?_ (by rw [a0 8 (by decide)]; exact v4) (fun l hl => by rw [a5 5 (by decide)]; exact v5 l hl) ⟨ob c, v7, by rw [a0 9 (by decide)]; exact v6⟩, fun p q hp hq => ?_, ?_, by rw [ms_0 (by decide)]; exact g4, by rw [ms_0 (by decide), a0 10 (by decide)]; exact g5, fun p hp => ?_, fun p q hp hq => ?_, fun l hl => ?_⟩
  · unfold akF; rw [u2_same]
  · rw [a4 p q hp (by omega)]
    by_cases e : q = n
    · rw [if_pos e]; decide
    · rw [if_neg e]; exact g2 p q hp (by omega)
  · unfold msF; rw [u2_same]
  · rw [m2, m3, m4, a1, a2, a3, ms_0 (by decide), h0]
    by_cases e : p = n
    · subst e
      rw [if_pos rfl, if_pos rfl, if_pos rfl, if_pos rfl, if_pos rfl, if_pos rfl]
      exact ⟨rfl, rfl, ⟨fun z => absurd z (has0 p), fun z => absurd z ht⟩, fun _ => rfl⟩
    · rw [if_neg e, if_neg e, if_neg e, if_neg e, if_neg e, if_neg e]
      have := g6 p (by omega)
      rw [h0] at this
      exact this
  · rw [a4 p q hp (by omega), m5 p q (by omega) (by omega), m5 q p (by omega) (by omega)]
    by_cases e : q = n
    · rw [if_pos e, if_pos (by omega), if_pos (by omega)]; exact ⟨rfl, rfl⟩
    · rw [if_neg e, if_neg (by omega), if_neg (by omega)]; exact g7 p q hp (by omega)
  · rw [ms_off (by decide) (by decide) (by decide) (by decide) (by decide), ms_off (by decide) (by decide) (by decide) (by decide) (by decide), ms_off (by decide) (by decide) (by decide) (by decide) (by decide), a5 5 (by decide), a5 6 (by decide), eo]
    exact g8 l hl
theorem zn_add {n : Nat} {c : Ct} {a b t : Int32} (hn : n < 6) (h : zn c) : zn (akF n a b t c) := by
  refine zn_u2 (fr_inv (fun _ (x : Ct) => zn x) (akH n) (Nat.zero_le n) (zn_u2 (zn_u2 (zn_u2 h (by decide) (show n < lenC 1 from hn) (fun z => absurd z (by decide))) (by decide) (show n < lenC 2 from hn) (fun z => absurd z (by decide))) (by decide) (show n < lenC 3 from hn) (fun z => absurd z (by decide))) fun q x _ hq hx => zn_hate hx (by omega) hn) (by decide) (show 7 < lenC 0 by decide) (fun _ => by decide)
theorem gC_add {n nL t : Nat} {c : Ct} {a b : Int32} (g : gC n nL c) (hz : nC c) (hn : n < 6) (ht : t < 4) : gC (n + 1) nL (akF n a b (nI t) c) := by
  have a5 : ∀ j, 5 ≤ j → akF n a b (nI t) c j = c j := fun j hj => by
    unfold akF
    rw [u2_off (by omega), akH_off (by omega), u2_off (by omega), u2_off (by omega), u2_off (by omega)]
  refine ⟨(zn_add hn ⟨g.1, hz⟩).1, fun p hp => ?_, by rw [a5 6 (by decide)]; exact g.2.2.1, by rw [a5 5 (by decide)]; exact g.2.2.2.1, ?_⟩
  · have e : akF n a b (nI t) c 3 p = if p = n then nI t else c 3 p := by
      unfold akF
      rw [u2_off (by decide), akH_off (by decide), u2_if, u2_off (by decide), u2_off (by decide)]
      simp only [true_and]
    rw [e]
    by_cases z : p = n
    · rw [if_pos z]; exact ⟨t, ht, rfl⟩
    · rw [if_neg z]; exact g.2.1 p (by omega)
  · have e : akF n a b (nI t) c 0 10 = c 0 10 := by
      unfold akF
      rw [u2_0 (by decide), akH_off (by decide), u2_off (by decide), u2_off (by decide), u2_off (by decide)]
    rw [e]; exact g.2.2.2.2
/-! a letter -/
def alF (l : Nat) (t d : Int32) (c : Ct) : Ct := u2 (u2 (u2 c 5 l d) 6 l t) 0 8 (nI (l + 1))
theorem s_addLetter {st : St} {k l : Nat} {c : Ct} {t d : Int32} {K : Int32 → St → Prop} (hl : l < 6) (h8 : c 0 8 = nI l) (h : K (nI l) (sv st k (alF l t d c))) : w_X1_addLetter k t d (sv st k c) K := by
  unfold w_X1_addLetter
  rw [sv_0, h8]
  refine s_put hl (by decide) ?_
  rw [sv_u2 (by decide)]
  refine s_put hl (by decide) ?_
  rw [sv_u2 (by decide), sv_0, u2_off (by decide), u2_off (by decide), h8, sv_u20, nI_inc]
  exact h
def mlF (l : Nat) (t d : Int32) (mt : St) : St := u2 (u2 (u2 (u2 mt 6 l d) 7 l t) 8 l 0) 0 9 (nI (l + 1))
theorem t_addsLetter {mt : St} {l : Nat} {t d : Int32} {K : St → Prop} (hl : l < 6) (h9 : mt 0 9 = nI l) (h : K (mlF l t d mt)) : w_X9_addsLetter t d mt K := by
  have vi : vp_in (nI l) 6 := vp_in_nI hl (by decide)
  have cl : (nI l).toNatClampNeg = l := clI hl (by decide)
  unfold w_X9_addsLetter
  rw [h9, cl]
  have e1 : u2 mt 6 l d 0 9 = nI l := by rw [u2_off (by decide)]; exact h9
  rw [e1, cl]
  have e2 : u2 (u2 mt 6 l d) 7 l t 0 9 = nI l := by rw [u2_off (by decide)]; exact e1
  rw [e2, cl]
  have e3 : u2 (u2 (u2 mt 6 l d) 7 l t) 8 l 0 0 9 = nI l := by rw [u2_off (by decide)]; exact e2
  rw [e3, nI_inc]
  exact ⟨vi, vi, vi, h⟩
theorem RM_addL {n nL : Nat} {mt : St} {c : Ct} {t d : Int32} (h : RM n nL mt c) (hl : nL < 6) (ht : t ≠ -1) (hd : (-9) < d) : RM n (nL + 1) (mlF nL t d mt) (alF nL t d c) := by
  obtain ⟨g1, g2, g3, g4, g5, g6, g7, g8⟩ := h
  obtain ⟨v1, v2, v3, v4, v5, v6, v7⟩ := g1
  have a0 : ∀ i, i ≠ 8 → alF nL t d c 0 i = c 0 i := fun i hi => by unfold alF; rw [u2_0 hi, u2_off (by decide), u2_off (by decide)]
  have aj : ∀ j, j ≠ 0 → j ≠ 5 → j ≠ 6 → alF nL t d c j = c j := fun j a b e => by unfold alF; rw [u2_off a, u2_off e, u2_off b]
  have a5 : ∀ p, alF nL t d c 5 p = if p = nL then d else c 5 p := fun p => by
    unfold alF
    rw [u2_off (by decide), u2_off (by decide), u2_if]
    simp only [true_and]
  have a6 : ∀ p, alF nL t d c 6 p = if p = nL then t else c 6 p := fun p => by
    unfold alF
    rw [u2_off (by decide), u2_if, u2_off (by decide)]
    simp only [true_and]
  have eo : ob (alF nL t d c) = ob c := by unfold ob; rw [a0 9 (by decide)]
  have m0 : ∀ i, i ≠ 9 → mlF nL t d mt 0 i = mt 0 i := fun i hi => by unfold mlF; rw [u2_0 hi, u2_off (by decide), u2_off (by decide), u2_off (by decide)]
  have mj : ∀ j, j ≠ 0 → j ≠ 6 → j ≠ 7 → j ≠ 8 → mlF nL t d mt j = mt j := fun j a b e f => by unfold mlF; rw [u2_off a, u2_off f, u2_off e, u2_off b]
  have m6 : ∀ p, mlF nL t d mt 6 p = if p = nL then d else mt 6 p := fun p => by
    unfold mlF
    rw [u2_off (by decide), u2_off (by decide), u2_off (by decide), u2_if]
    simp only [true_and]
  have m7 : ∀ p, mlF nL t d mt 7 p = if p = nL then t else mt 7 p := fun p => by
    unfold mlF
    rw [u2_off (by decide), u2_off (by decide), u2_if, u2_off (by decide)]
    simp only [true_and]
  have m8 : ∀ p, mlF nL t d mt 8 p = if p = nL then 0 else mt 8 p := fun p => by
    unfold mlF
    rw [u2_off (by decide), u2_if, u2_off (by decide), u2_off (by decide)]
    simp only [true_and]
  refine ⟨vC_of v1 (by omega) (by rw [a0 7 (by decide)]; exact v3) (by unfold alF; rw [u2_same]) (fun l hl' => ?_) ⟨ob c, Nat.lt_of_lt_of_le v7 (Nat.pow_le_pow_right (by decide) (by omega)), by rw [a0 9 (by decide)]; exact v6⟩, fun p q hp hq => by rw [aj 4 (by decide) (by decide) (by decide)]; exact g2 p q hp hq, by rw [m0 8 (by decide)]; exact g3, by unfold mlF; rw [u2_same], by rw [m0 10 (by decide), a0 10 (by decide)]; exact g5, fun p hp => ?_, fun p q hp hq => ?_, fun l hl' => ?_⟩
  · rw [a5]
    by_cases e : l = nL
    · rw [if_pos e]; exact hd
    · rw [if_neg e]; exact v5 l (by omega)
  · rw [mj 2 (by decide) (by decide) (by decide) (by decide), mj 3 (by decide) (by decide) (by decide) (by decide), mj 4 (by decide) (by decide) (by decide) (by decide), m0 11 (by decide), aj 1 (by decide) (by decide) (by decide), aj 2 (by decide) (by decide) (by decide), aj 3 (by decide) (by decide) (by decide)]
    exact g6 p hp
  · rw [mj 5 (by decide) (by decide) (by decide) (by decide), aj 4 (by decide) (by decide) (by decide)]
    exact g7 p q hp hq
  · rw [m6, m7, m8, a5, a6, eo]
    by_cases e : l = nL
    · subst e
      rw [if_pos rfl, if_pos rfl, if_pos rfl, if_pos rfl, if_pos rfl, Nat.testBit_lt_two_pow v7]
      exact ⟨rfl, rfl, ht, rfl⟩
    · rw [if_neg e, if_neg e, if_neg e, if_neg e, if_neg e]
      exact g8 l (by omega)
theorem zn_addL {l : Nat} {c : Ct} {t d : Int32} (hl : l < 6) (h : zn c) : zn (alF l t d c) :=
  zn_u2 (zn_u2 (zn_u2 h (by decide) (show l < lenC 5 from hl) (fun z => absurd z (by decide))) (by decide) (show l < lenC 6 from hl) (fun z => absurd z (by decide))) (by decide) (show 8 < lenC 0 by decide) (fun _ => by decide)
theorem gC_addL {n nL t d : Nat} {c : Ct} (g : gC n nL c) (hz : nC c) (hl : nL < 6) (ht : t < 4) (hd : d ≤ 99) : gC n (nL + 1) (alF nL (nI t) (nI d) c) := by
  refine ⟨(zn_addL hl ⟨g.1, hz⟩).1, fun p hp => ?_, fun l hl' => ?_, fun l hl' => ?_, ?_⟩
  · unfold alF; rw [u2_off (by decide), u2_off (by decide), u2_off (by decide)]; exact g.2.1 p hp
  · unfold alF
    rw [u2_off (by decide)]
    by_cases e : l = nL
    · subst e; exact ⟨t, ht, u2_same⟩
    · rw [u2_ne (Or.inr e), u2_off (by decide)]; exact g.2.2.1 l (by omega)
  · unfold alF
    rw [u2_off (by decide), u2_off (by decide)]
    by_cases e : l = nL
    · subst e; exact ⟨d, hd, u2_same⟩
    · rw [u2_ne (Or.inr e)]; exact g.2.2.2.1 l (by omega)
  · unfold alF; rw [u2_0 (by decide), u2_off (by decide), u2_off (by decide)]; exact g.2.2.2.2
theorem kd6 {x : Int32} : (x < 0 ∨ ¬ x < 6) ↔ inF x 0 5 = 0 := by
  unfold inF
  constructor
  · intro h
    by_cases h1 : x < 0
    · rw [if_pos h1]
    · rw [if_neg h1, if_pos]
      have h2 := i_nlt.mp (h.resolve_left h1)
      exact Int32.lt_of_lt_of_le (show (5 : Int32) < 6 by decide) h2
  · intro h
    by_cases h1 : x < 0
    · exact Or.inl h1
    · refine Or.inr fun z => ?_
      rw [if_neg h1] at h
      by_cases h2 : 5 < x
      · obtain ⟨j, hj, rfl⟩ := nI_of h1
        have a := (nJ_lt hj (show 6 < 2147483648 by decide)).mp z
        have b := (nJ_lt (show 5 < 2147483648 by decide) hj).mp h2
        omega
      · rw [if_neg h2] at h; exact absurd h (by decide)
theorem n6 {n : Nat} (hn : n ≤ 6) : nI n = 6 ↔ n = 6 := ⟨fun z => nI_eqI (by omega) (by decide) (show nI n = nI 6 from z), fun z => by rw [z]; rfl⟩
theorem sim_keeper {st mt : St} (h : R st mt) (x1 x2 x3 : Int32) : w_X8_keeper x1 x2 x3 st (fun r st' => w_X9_keeper x1 x2 x3 mt (fun r' mt' => r = r' ∧ R st' mt')) := by
  obtain ⟨n, nL, hm, g, hn, hL, h7, h8, k8, k9⟩ := h.ctx
  -- the check's refusals
  have no : ∀ (K : Int32 → St → Prop) (r : Int32), rOk r → K r (refS mt r) → w_X9_keeper_b56 x1 x2 x3 K r mt := fun K r hr hK => by
    rw [w_X9_keeper_b56]
    exact n1 hr.ne (t_no hr hK)
  have no41 : ∀ (K : Int32 → St → Prop) (r : Int32), rOk r → K r (refS mt r) → w_X9_keeper_b41 x1 x2 x3 K r mt := fun K r hr hK => by
    rw [w_X9_keeper_b41]
    exact n2 hr.ne (no K r hr hK)
  have no21 : ∀ (K : Int32 → St → Prop) (r : Int32), rOk r → K r (refS mt r) → w_X9_keeper_b21 x1 x2 x3 K r mt := fun K r hr hK => by
    rw [w_X9_keeper_b21]
    exact n2 hr.ne (no41 K r hr hK)
  have b34 : ∀ v s : Int32, (v = if n = 6 then -6 else 0) → (s = if inF x1 0 5 = 0 then -2 else 0) → w_X8_keeper_b34 x1 x2 x3 (fun r st' => w_X9_keeper x1 x2 x3 mt (fun r' mt' => r = r' ∧ R st' mt')) v s st := fun v s ev es => by
    rw [w_X8_keeper_b34]
    refine s_range (s_firstOf (s_townRef (s_firstOf ?_)))
    by_cases e1 : inF x1 0 5 = 0
    · rw [if_pos e1] at es
      subst es
      rw [f1 (show ¬ (-2 : Int32) = 0 by decide), f1 (show ¬ (-2 : Int32) = 0 by decide)]
      refine n1 (by decide) (s_refused rO2 ?_)
      unfold w_X9_keeper
      exact t_isIn' (y2 e1 (no21 _ _ rO2 ⟨rfl, R_ref h rO2⟩))
    · rw [if_neg e1] at es
      subst es
      by_cases e2 : rangeF x2 0 9 = 0
      · rw [e2, f00]
        by_cases e3 : n = 6
        · rw [if_pos e3] at ev
          subst ev
          rw [f1 (by decide)]
          refine n1 (by decide) (s_refused rO6 ?_)
          unfold w_X9_keeper
          refine t_isIn' (n2 e1 (t_bound ?_))
          rw [e2, w_X9_keeper_b21, k8]
          exact y2 rfl (y2 ((n6 hn).mpr e3) (no41 _ _ rO6 ⟨rfl, R_ref h rO6⟩))
        · rw [if_neg e3] at ev
          subst ev
          have chk : ∀ K : Int32 → St → Prop, (townF x3 = 0 → w_X9_keeper_b56 x1 x2 x3 K (-1) mt) → (¬ townF x3 = 0 → w_X9_keeper_b56 x1 x2 x3 K 0 mt) → w_X9_keeper x1 x2 x3 mt K := fun K q1 q2 => by
            unfold w_X9_keeper
            refine t_isIn' (n2 e1 (t_bound ?_))
            rw [e2, w_X9_keeper_b21, k8]
            refine y2 rfl (n2 (fun z => e3 ((n6 hn).mp z)) ?_)
            rw [w_X9_keeper_b41]
            exact y2 rfl (t_isTown ⟨q2, q1⟩)
          by_cases e4 : townF x3 = 0
          · rw [nb0 e4, f01 (by decide)]
            exact n1 (by decide) (s_refused rO1 (chk _ (fun _ => no _ _ rO1 ⟨rfl, R_ref h rO1⟩) (fun z => absurd e4 z)))
          · rw [nb1 e4, f00]
            obtain ⟨t, ht, rfl⟩ := town_nI e4
            refine y1 rfl ?_
            unfold w_X5_forget
            have hR := R_forget h
            have cF : cv (u2 st 2 2 0) 11 = cv st 11 := cv_u2 (by decide)
            refine at11 (P := fun s => w_X1_addKeeper 11 x1 x2 (nI t) s _) (s_addKeeper (n := n) (by omega) (by rw [cF]; exact h7) ?_)
            rw [cF]
            refine chk _ (fun z => absurd z e4) (fun _ => ?_)
            rw [w_X9_keeper_b56]
            refine y1 rfl (t_addsKeeper (n := n) (by omega) (by rw [u2_0 (by decide)]; exact k8) ?_)
            have hm' : RM n nL (u2 mt 0 23 0) (cv st 11) := RM_off hm (fun j a b => u2_off (by omega)) (fun i a b => u2_0 (by omega))
            have c' : cv (sv (u2 st 2 2 0) 11 (akF n x1 x2 (nI t) (cv st 11))) 11 = akF n x1 x2 (nI t) (cv st 11) := cv_sv (zn_add (by omega) ⟨g.1, nC_cv⟩).2
            refine ⟨?_, R_set hR sv11_hx (by rw [c']; exact RM_add hm' (by rw [u2_0 (by decide)]; exact out0 h) (by omega) (tn1 t ht)) (by rw [c']; exact gC_add g nC_cv (by omega) ht) (fun a p1 _ _ _ _ _ _ => ms_0 p1) (fun j p q r => ms_off p (by omega) (by omega) (by omega) (by omega))⟩
            have e8 : msF n x1 x2 (nI t) (u2 mt 0 23 0) 0 8 = nI (n + 1) := by unfold msF; rw [u2_same]
            rw [e8]
            exact (nI_pred n).symm
      · have ef : firstF 0 (rangeF x2 0 9) v = rangeF x2 0 9 := f01 e2 v
        rw [ef, f1 e2]
        refine n1 e2 (s_refused (rg_ok e2) ?_)
        unfold w_X9_keeper
        exact t_isIn' (n2 e1 (t_bound (no21 _ _ (rg_ok e2) ⟨rfl, R_ref h (rg_ok e2)⟩)))
  have b16 : ∀ v : Int32, (v = if n = 6 then -6 else 0) → w_X8_keeper_b16 x1 x2 x3 (fun r st' => w_X9_keeper x1 x2 x3 mt (fun r' mt' => r = r' ∧ R st' mt')) v st := fun v ev => by
    rw [w_X8_keeper_b16]
    refine ⟨fun z => ?_, fun z => ⟨fun z2 => b34 v 0 ev ?_, fun z2 => ?_⟩⟩
    · rw [w_X8_keeper_b28]; exact b34 v _ ev (by rw [if_pos (kd6.mp (Or.inl z))])
    · rw [if_neg (fun y => (kd6.mpr y).elim z (fun w => w z2))]
    · rw [w_X8_keeper_b28]; exact b34 v _ ev (by rw [if_pos (kd6.mp (Or.inr z2))])
  unfold w_X8_keeper w_X1_hasKeeperRoom
  rw [h7]
  refine ⟨fun z => y1 rfl (b16 _ ?_), fun z => n1 (by decide) (b16 _ ?_)⟩
  · rw [if_pos]
    have := (nJ_le (a := 6) (by decide) (by omega)).mp z
    omega
  · rw [if_neg]
    intro e
    exact z (by rw [e]; decide)
theorem sim_letter {st mt : St} (h : R st mt) (x1 x2 : Int32) : w_X8_letter x1 x2 st (fun r st' => w_X9_letter x1 x2 mt (fun r' mt' => r = r' ∧ R st' mt')) := by
  obtain ⟨n, nL, hm, g, hn, hL, h7, h8, k8, k9⟩ := h.ctx
  have no : ∀ (K : Int32 → St → Prop) (r : Int32), rOk r → K r (refS mt r) → w_X9_letter_b35 x1 x2 K r mt := fun K r hr hK => by
    rw [w_X9_letter_b35]
    exact n1 hr.ne (t_no hr hK)
  have no18 : ∀ (K : Int32 → St → Prop) (r : Int32), rOk r → K r (refS mt r) → w_X9_letter_b18 x1 x2 K r mt := fun K r hr hK => by
    rw [w_X9_letter_b18]
    exact n2 hr.ne (no K r hr hK)
  have b16 : ∀ v : Int32, (v = if nL = 6 then -6 else 0) → w_X8_letter_b16 x1 x2 (fun r st' => w_X9_letter x1 x2 mt (fun r' mt' => r = r' ∧ R st' mt')) v st := fun v ev => by
    rw [w_X8_letter_b16]
    refine s_townRef (s_range (s_firstOf ?_))
    by_cases e1 : townF x1 = 0
    · rw [nb0 e1, f1 (by decide)]
      refine n1 (by decide) (s_refused rO1 ?_)
      unfold w_X9_letter
      exact t_isTown (y2 e1 (no18 _ _ rO1 ⟨rfl, R_ref h rO1⟩))
    · rw [nb1 e1]
      by_cases e2 : rangeF x2 0 99 = 0
      · rw [e2, f00]
        by_cases e3 : nL = 6
        · rw [if_pos e3] at ev
          subst ev
          refine n1 (by decide) (s_refused rO6 ?_)
          unfold w_X9_letter
          refine t_isTown (n2 e1 (t_bound ?_))
          rw [e2, w_X9_letter_b18, k9]
          exact y2 rfl (y2 ((n6 hL).mpr e3) (no _ _ rO6 ⟨rfl, R_ref h rO6⟩))
        · rw [if_neg e3] at ev
          subst ev
          obtain ⟨t, ht, rfl⟩ := town_nI e1
          obtain ⟨d, -, hd, rfl⟩ := rg_nI (a := 0) (b := 99) (by decide) (by decide) e2
          refine y1 rfl ?_
          unfold w_X5_forget
          have hR := R_forget h
          have cF : cv (u2 st 2 2 0) 11 = cv st 11 := cv_u2 (by decide)
          refine at11 (P := fun s => w_X1_addLetter 11 (nI t) (nI d) s _) (s_addLetter (l := nL) (by omega) (by rw [cF]; exact h8) ?_)
          rw [cF]
          unfold w_X9_letter
          refine t_isTown (n2 e1 (t_bound ?_))
          rw [e2, w_X9_letter_b18, k9]
          refine y2 rfl (n2 (fun z => e3 ((n6 hL).mp z)) ?_)
          rw [w_X9_letter_b35]
          refine y1 rfl (t_addsLetter (l := nL) (by omega) (by rw [u2_0 (by decide)]; exact k9) ?_)
          have hm' : RM n nL (u2 mt 0 23 0) (cv st 11) := RM_off hm (fun j a b => u2_off (by omega)) (fun i a b => u2_0 (by omega))
          have c' : cv (sv (u2 st 2 2 0) 11 (alF nL (nI t) (nI d) (cv st 11))) 11 = alF nL (nI t) (nI d) (cv st 11) := cv_sv (zn_addL (by omega) ⟨g.1, nC_cv⟩).2
          have d9 : (-9 : Int32) < nI d := Int32.lt_of_lt_of_le (show (-9 : Int32) < 0 by decide) (n_le0 (by omega))
          refine ⟨?_, R_set hR sv11_hx (by rw [c']; exact RM_addL hm' (by omega) (tn1 t ht) d9) (by rw [c']; exact gC_addL g nC_cv (by omega) ht hd) (fun a p1 p2 _ _ _ _ _ => by unfold mlF; rw [u2_0 p2, u2_off (by decide), u2_off (by decide), u2_off (by decide)]) (fun j p q r => by unfold mlF; rw [u2_off p, u2_off (by omega), u2_off (by omega), u2_off (by omega)])⟩
          have e9 : mlF nL (nI t) (nI d) (u2 mt 0 23 0) 0 9 = nI (nL + 1) := by unfold mlF; rw [u2_same]
          rw [e9]
          exact (nI_pred nL).symm
      · have ef : firstF 0 (rangeF x2 0 99) v = rangeF x2 0 99 := f01 e2 v
        rw [ef]
        refine n1 e2 (s_refused (rg_ok e2) ?_)
        unfold w_X9_letter
        exact t_isTown (n2 e1 (t_bound (no18 _ _ (rg_ok e2) ⟨rfl, R_ref h (rg_ok e2)⟩)))
  unfold w_X8_letter w_X1_hasLetterRoom
  rw [h8]
  refine ⟨fun z => y1 rfl (b16 _ ?_), fun z => n1 (by decide) (b16 _ ?_)⟩
  · rw [if_pos]
    have := (nJ_le (a := 6) (by decide) (by omega)).mp z
    omega
  · rw [if_neg]
    intro e
    exact z (by rw [e]; decide)
