/-! pure part: tools for the mind, both sides -/
theorem u2_if {st : St} {k i k' i' : Nat} {v : Int32} : u2 st k i v k' i' = if k' = k ∧ i' = i then v else st k' i' := by
  by_cases h : k' = k ∧ i' = i
  · obtain ⟨rfl, rfl⟩ := h
    rw [u2_same, if_pos ⟨rfl, rfl⟩]
  · rw [if_neg h, u2_ne (by omega)]
theorem u2_u2 {st : St} {k i : Nat} {v w : Int32} : u2 (u2 st k i v) k i w = u2 st k i w := by
  funext a b
  rw [u2_if, u2_if, u2_if]
  split <;> rfl
theorem u2_comm {st : St} {k i k' i' : Nat} {v w : Int32} (h : k ≠ k' ∨ i ≠ i') : u2 (u2 st k i v) k' i' w = u2 (u2 st k' i' w) k i v := by
  funext a b
  rw [u2_if, u2_if, u2_if, u2_if]
  by_cases h1 : a = k ∧ b = i
  · rw [if_pos h1, if_pos h1, if_neg (by omega)]
  · rw [if_neg h1, if_neg h1]
theorem zC_u2 {c : Ct} {j i : Nat} {v : Int32} (h : zC c) (hi : i < lenC j) (h0 : j = 0 → 7 ≤ i) : zC (u2 c j i v) := by
  refine ⟨fun a b hb => ?_, fun b hb => ?_⟩
  · rw [u2_if, if_neg (fun z => by obtain ⟨rfl, rfl⟩ := z; omega)]
    exact h.1 a b hb
  · rw [u2_if, if_neg (fun z => by have := h0 z.1.symm; omega)]
    exact h.2 b hb
theorem zC_bec {c : Ct} (h : zC c) : zC (bec c) := by
  refine ⟨fun j i hi => ?_, fun i hi => ?_⟩
  · unfold bec
    by_cases e : j = 7
    · subst e
      rw [if_pos rfl]
      have l7 : lenC 7 = 6 := rfl
      unfold opN
      rw [if_neg (by omega)]
    · rw [if_neg e]; exact h.1 j i hi
  · show bec c 0 i = 0
    unfold bec
    rw [if_neg (by decide)]; exact h.2 i hi
theorem nC_bec {c : Ct} (h : nC c) : nC (bec c) := fun j hj => by
  unfold bec
  rw [if_neg (by omega)]
  exact h j hj
theorem bec_u2 {c : Ct} {j i : Nat} {v : Int32} (h : j ≠ 7) : bec (u2 c j i v) = u2 (bec c) j i v := by
  funext a b
  unfold bec
  by_cases e : a = 7
  · subst e
    rw [if_pos rfl, u2_ne (Or.inl (Ne.symm h)), if_pos rfl]
  · rw [if_neg e, u2_if, u2_if, if_neg e]
theorem bec_e {c : Ct} {j : Nat} (h : j ≠ 7) : bec c j = c j := if_neg h
def zn (c : Ct) : Prop := zC c ∧ nC c
theorem zn_bec {c : Ct} (h : zn c) : zn (bec c) := ⟨zC_bec h.1, nC_bec h.2⟩
theorem len4 : lenC 4 = 36 := rfl
theorem zn_u2 {c : Ct} {j i : Nat} {v : Int32} (h : zn c) (hj : j < 8) (hi : i < lenC j) (h0 : j = 0 → 7 ≤ i) : zn (u2 c j i v) := ⟨zC_u2 h.1 hi h0, nC_u2 h.2 hj i v⟩
theorem zn_hate {c : Ct} {p q : Nat} {v : Int32} (h : zn c) (hp : p < 6) (hq : q < 6) : zn (u2 c 4 (hI p q) v) := zn_u2 h (by decide) (by have := hI_lt hp hq; rw [len4]; omega) (fun z => absurd z (by decide))
theorem zn_town {c : Ct} {p : Nat} {v : Int32} (h : zn c) (hp : p < 6) : zn (u2 c 3 p v) := zn_u2 h (by decide) (show p < lenC 3 from hp) (fun z => absurd z (by decide))
theorem zn_hates {n : Nat} {c : Ct} (hn : n ≤ 6) (h : zn c) : zn (hatesF n c) :=
  fr_inv (fun _ c => zn c) _ (Nat.zero_le n) h fun p s _ hp hs => fr_inv (fun _ c => zn c) _ (show p + 1 ≤ n by omega) hs fun q s _ hq hs => zn_hate hs (by omega) (by omega)
theorem zn_stepL {n l : Nat} {s : Int32 × Ct} (hn : n ≤ 6) (hl : l < 6) (h : zn s.2) : zn (stepL n l s).2 := by
  unfold stepL
  split
  · exact h
  · split
    · exact h
    next p q e =>
      have := opS_in p q e
      exact zn_hate (zn_u2 (zn_u2 h (by decide) (show 9 < lenC 0 by decide) (fun _ => by decide)) (by decide) (show l < lenC 7 from hl) (fun z => absurd z (by decide))) (by omega) (by omega)
theorem zn_week {n nL : Nat} {c : Ct} (hn : n ≤ 6) (hL : nL ≤ 6) (h : zn c) : zn (weekF n nL c).2 :=
  fr_inv (fun _ (s : Int32 × Ct) => zn s.2) _ (Nat.zero_le nL) (s0 := (0, hatesF n (u2 c 0 10 (c 0 10 + 1)))) (zn_hates hn (zn_u2 h (by decide) (show 10 < lenC 0 by decide) (fun _ => by decide))) fun l s _ hl hs => zn_stepL hn (by omega) hs
theorem zn_weeks {n nL w : Nat} {c : Ct} (hn : n ≤ 6) (hL : nL ≤ 6) (h : zn c) : zn (weeksF n nL w c) := fr_inv (fun _ c => zn c) _ (Nat.zero_le w) h fun _ _ _ _ h => zn_week hn hL h
theorem vC_bec {n nL : Nat} {c : Ct} (h : vC n nL c) : vC n nL (bec c) := by
  obtain ⟨h1, h2, h3, h4, h5, h6, h7⟩ := h
  exact vC_of h1 h2 h3 h4 h5 ⟨ob c, h7, h6⟩
theorem ob_bec {c : Ct} : ob (bec c) = ob c := rfl
theorem c11 {st : St} {c : Ct} : cv (sv st 99 c) 11 = cv st 11 := cv_off (by decide)
theorem o11 {st : St} {c : Ct} : sv st 99 c 11 = st 11 := sv_off (by decide)
theorem m_become {st : St} {c0 : Ct} {K : St → Prop} (hz : zC (cv st 11)) (h0 : zn c0) (h : K (sv st 99 (bec (cv st 11)))) : w_X1_become 99 11 (sv st 99 c0) K :=
  s_become (by decide) (by rw [cv_sv h0.2]; exact h0.1) (by rw [c11]; exact hz) (by rw [sv_sv, c11]; exact h)
theorem m_move {st : St} {k p : Nat} {c : Ct} {v : Int32} {K : St → Prop} (hp : p < 6) (h : K (sv st k (u2 c 3 p v))) : w_X1_move k (nI p) v (sv st k c) K := by
  unfold w_X1_move
  refine s_put hp (by decide) ?_
  rw [sv_u2 (by decide)]
  exact h
theorem m_setKind {st : St} {k p : Nat} {c : Ct} {v : Int32} {K : St → Prop} (hp : p < 6) (h : K (sv st k (u2 c 1 p v))) : w_X1_setKind k (nI p) v (sv st k c) K := by
  unfold w_X1_setKind
  refine s_put hp (by decide) ?_
  rw [sv_u2 (by decide)]
  exact h
theorem m_setFigure {st : St} {k p : Nat} {c : Ct} {v : Int32} {K : St → Prop} (hp : p < 6) (h : K (sv st k (u2 c 2 p v))) : w_X1_setFigure k (nI p) v (sv st k c) K := by
  unfold w_X1_setFigure
  refine s_put hp (by decide) ?_
  rw [sv_u2 (by decide)]
  exact h
theorem m_isOpen {st : St} {k n nL l : Nat} {c : Ct} {K : Int32 → St → Prop} (hv : vC n nL c) (hl : l < 6) (h : K (if (ob c).testBit l then 1 else 0) (sv st k c)) : w_X1_isOpen k (nI l) (sv st k c) K := by
  refine s_isOpen ?_
  obtain ⟨-, h2, -, -, -, h6, h7⟩ := hv
  rw [h6, bit_is _ (p64 h2 h7) l hl]
  cases hb : (ob c).testBit l <;> simpa [hb] using h
theorem m_openedBy {st : St} {k l : Nat} {c : Ct} {K : Int32 → St → Prop} (hl : l < 6) (h : K (c 7 l) (sv st k c)) : w_X1_openedBy k (nI l) (sv st k c) K := by
  unfold w_X1_openedBy
  refine s_at hl (by decide) ?_
  rw [sv_7]
  exact h
theorem m_allHate {st : St} {k n nL : Nat} {c : Ct} {K : Int32 → St → Prop} (hv : vC n nL c) (hn : nC c) (h : K (allF n c) (sv st k c)) : w_X1_allHate k (sv st k c) K := by
  refine x_allHate hv.1 ?_ ?_
  · rw [sv_0]; exact hv.2.2.1
  · rw [cv_sv hn]; exact h
/-- class in mind: the start -/
theorem mind0 {st : St} (P : St → Prop) (h : ∀ c0, zn c0 → P (sv st 99 c0)) (hz : zC (cv st 99)) : P st := by
  have := h (cv st 99) ⟨hz, nC_cv⟩
  rwa [sv_cv] at this
theorem R_mind {st mt mt' : St} {c : Ct} (h : R st mt) (hz : zn c) (ht : tf mt mt') : R (sv st 99 c) mt' := R_fr h (xf_sv hz.1 hz.2) ht
theorem R.z11 {st mt : St} (h : R st mt) : zC (cv st 11) := h.2.1 11 isC_11
theorem R.z99 {st mt : St} (h : R st mt) : zC (cv st 99) := h.2.1 99 isC_99
/-- the check's live row, cell by cell -/
def lvj (a : Nat) : Nat := if a < 6 then 2 else if a < 12 then 3 else if a < 18 then 4 else if a < 54 then 5 else if a < 60 then 6 else if a < 66 then 7 else if a < 72 then 8 else 0
def lvi (a : Nat) : Nat := if a < 6 then a else if a < 12 then a - 6 else if a < 18 then a - 12 else if a < 54 then a - 18 else if a < 60 then a - 54 else if a < 66 then a - 60 else if a < 72 then a - 66 else if a = 72 then 8 else if a = 73 then 9 else 10
theorem lv_cell {mt : St} {a : Nat} : lvM mt a = mt (lvj a) (lvi a) := by
  unfold lvM lvj lvi
  by_cases h1 : a < 6
  · simp only [if_pos h1]
  by_cases h2 : a < 12
  · simp only [if_neg h1, if_pos h2]
  by_cases h3 : a < 18
  · simp only [if_neg h1, if_neg h2, if_pos h3]
  by_cases h4 : a < 54
  · simp only [if_neg h1, if_neg h2, if_neg h3, if_pos h4]
  by_cases h5 : a < 60
  · simp only [if_neg h1, if_neg h2, if_neg h3, if_neg h4, if_pos h5]
  by_cases h6 : a < 66
  · simp only [if_neg h1, if_neg h2, if_neg h3, if_neg h4, if_neg h5, if_pos h6]
  by_cases h7 : a < 72
  · simp only [if_neg h1, if_neg h2, if_neg h3, if_neg h4, if_neg h5, if_neg h6, if_pos h7]
  simp only [if_neg h1, if_neg h2, if_neg h3, if_neg h4, if_neg h5, if_neg h6, if_neg h7]
  by_cases h8 : a = 72
  · simp only [if_pos h8]
  by_cases h9 : a = 73
  · simp only [if_neg h8, if_pos h9]
  simp only [if_neg h8, if_neg h9]
theorem hf_back {mt s : St} {j i : Nat} {v : Int32} (h : hf (u2 mt j i v) s) (hj : 2 ≤ j ∧ j ≤ 8) : hf mt (u2 s j i (mt j i)) := by
  refine ⟨fun a ha => ?_, fun k p q r t => ?_, fun a p q r t u w x => ?_, fun a p => ?_⟩
  · have e := h.1 a ha
    rw [lv_cell, lv_cell] at e
    rw [lv_cell, lv_cell, u2_if]
    by_cases z : lvj a = j ∧ lvi a = i
    · rw [if_pos z, z.1, z.2]
    · rw [if_neg z, e, u2_if, if_neg z]
  · have e := h.2.1 k p q r t
    rw [u2_off (by omega)] at e
    rw [u2_off (by omega), e]
  · have e := h.2.2.1 a p q r t u w x
    rw [u2_off (by omega)] at e
    rw [u2_off (by omega), e]
  · have e := h.2.2.2 a p
    rw [u2_off (by omega)] at e
    rw [u2_off (by omega), e]
theorem hf_over {mt s : St} {j i : Nat} {v : Int32} (w : Int32) (h : hf mt s) (hj : 2 ≤ j ∧ j ≤ 8) : hf (u2 mt j i w) (u2 s j i w) := by
  refine ⟨fun a ha => ?_, fun k p q r t => ?_, fun a p q r t u w x => ?_, fun a p => ?_⟩
  · have e := h.1 a ha
    rw [lv_cell, lv_cell] at e
    rw [lv_cell, lv_cell, u2_if, u2_if]
    split
    · rfl
    · exact e
  · rw [u2_off (by omega), u2_off (by omega)]; exact h.2.1 k p q r t
  · rw [u2_off (by omega), u2_off (by omega)]; exact h.2.2.1 a p q r t u w x
  · rw [u2_off (by omega), u2_off (by omega)]; exact h.2.2.2 a p
theorem hf_over2 {mt s : St} {j i : Nat} {v : Int32} (w : Int32) (h : hf (u2 mt j i v) s) (hj : 2 ≤ j ∧ j ≤ 8) : hf (u2 mt j i w) (u2 s j i w) := by
  have := hf_over (v := v) (i := i) w h hj
  rwa [u2_u2] at this
theorem sets_ne {p q : Nat} (hp : p < 6) (hq : q < 6) (h : p ≠ q) : 6 * p + q ≠ 6 * q + p := by omega
theorem hf_sets {mt s : St} {p q : Nat} {v w : Int32} (h : hf (setsF mt p q v) s) (hp : p < 6) (hq : q < 6) (hpq : p ≠ q) : hf (setsF mt p q w) (setsF s p q w) := by
  have h1 := hf_over (v := v) (i := 6 * p + q) w h (show 2 ≤ 5 ∧ 5 ≤ 8 by decide)
  have h2 := hf_over (v := v) (i := 6 * q + p) w h1 (show 2 ≤ 5 ∧ 5 ≤ 8 by decide)
  unfold setsF at h2
  rw [u2_comm (i := 6 * q + p) (i' := 6 * p + q) (Or.inr (sets_ne hq hp (Ne.symm hpq))), u2_u2, u2_u2] at h2
  exact h2
theorem hf_unset {mt s : St} {p q : Nat} {v w : Int32} (h : hf (setsF mt p q v) s) (hp : p < 6) (hq : q < 6) (hpq : p ≠ q) (e1 : mt 5 (6 * p + q) = w) (e2 : mt 5 (6 * q + p) = w) : hf mt (setsF s p q w) := by
  have h1 := hf_back h (show 2 ≤ 5 ∧ 5 ≤ 8 by decide)
  have h2 := hf_back h1 (show 2 ≤ 5 ∧ 5 ≤ 8 by decide)
  rw [u2_ne (Or.inr (sets_ne hq hp (Ne.symm hpq))), e1, e2] at h2
  unfold setsF
  rw [u2_comm (Or.inr (sets_ne hp hq hpq))]
  exact h2
theorem RM_u2 {n nL : Nat} {mt : St} {c : Ct} {j i : Nat} {v : Int32} (h : RM n nL mt c) (hj : 9 ≤ j) : RM n nL (u2 mt j i v) c := RM_off h (fun k a b => u2_off (by omega)) (fun k a b => by rw [u2_off (by omega)])
theorem has0 (p : Nat) : ¬ hasB 0 p := by
  unfold hasB
  rw [Int32.zero_shiftRight, Int32.zero_and]
  decide
/-- keepers move, change kind or figure, on both sides -/
theorem RM_town {n nL p : Nat} {mt : St} {c : Ct} {v : Int32} (h : RM n nL mt c) (h0 : mt 0 11 = 0) (hv : v ≠ -1) : RM n nL (u2 mt 4 p v) (u2 c 3 p v) := by
  obtain ⟨g1, g2, g3, g4, g5, g6, g7, g8⟩ := h
  refine ⟨vC_u4 g1 (by decide) (by decide), fun p q a b => by rw [u2_off (by decide)]; exact g2 p q a b, by rw [u2_off (by decide)]; exact g3, by rw [u2_off (by decide)]; exact g4, by rw [u2_off (by decide), u2_off (by decide)]; exact g5, fun k hk => ?_, fun p q a b => ?_, fun l hl => ?_⟩
  · obtain ⟨a1, a2, a3, a4⟩ := g6 k hk
    rw [u2_off (show (2 : Nat) ≠ 4 by decide), u2_off (show (3 : Nat) ≠ 4 by decide), u2_off (show (0 : Nat) ≠ 4 by decide), u2_off (show (1 : Nat) ≠ 3 by decide), u2_off (show (2 : Nat) ≠ 3 by decide)]
    refine ⟨a1, a2, ?_, ?_⟩
    · by_cases e : k = p
      · subst e
        rw [u2_same, h0]
        exact ⟨fun z => absurd z (has0 k), fun z => absurd z hv⟩
      · rw [u2_ne (Or.inr e)]; exact a3
    · by_cases e : k = p
      · subst e
        rw [u2_same, u2_same]
        exact fun _ => rfl
      · rw [u2_ne (Or.inr e), u2_ne (Or.inr e)]; exact a4
  · rw [u2_off (by decide), u2_off (by decide)]; exact g7 p q a b
  · rw [u2_off (by decide), u2_off (by decide), u2_off (by decide), u2_off (by decide), u2_off (by decide), ob_off (by decide)]; exact g8 l hl
theorem RM_kind {n nL p : Nat} {mt : St} {c : Ct} {v : Int32} (h : RM n nL mt c) : RM n nL (u2 mt 2 p v) (u2 c 1 p v) := by
  obtain ⟨g1, g2, g3, g4, g5, g6, g7, g8⟩ := h
  refine ⟨vC_u4 g1 (by decide) (by decide), fun p q a b => by rw [u2_off (by decide)]; exact g2 p q a b, by rw [u2_off (by decide)]; exact g3, by rw [u2_off (by decide)]; exact g4, by rw [u2_off (by decide), u2_off (by decide)]; exact g5, fun k hk => ?_, fun p q a b => ?_, fun l hl => ?_⟩
  · obtain ⟨a1, a2, a3, a4⟩ := g6 k hk
    rw [u2_off (show (3 : Nat) ≠ 2 by decide), u2_off (show (4 : Nat) ≠ 2 by decide), u2_off (show (0 : Nat) ≠ 2 by decide), u2_off (show (3 : Nat) ≠ 1 by decide), u2_off (show (2 : Nat) ≠ 1 by decide)]
    refine ⟨?_, a2, a3, a4⟩
    by_cases e : k = p
    · subst e; rw [u2_same, u2_same]
    · rw [u2_ne (Or.inr e), u2_ne (Or.inr e)]; exact a1
  · rw [u2_off (by decide), u2_off (by decide)]; exact g7 p q a b
  · rw [u2_off (by decide), u2_off (by decide), u2_off (by decide), u2_off (by decide), u2_off (by decide), ob_off (by decide)]; exact g8 l hl
theorem RM_figure {n nL p : Nat} {mt : St} {c : Ct} {v : Int32} (h : RM n nL mt c) : RM n nL (u2 mt 3 p v) (u2 c 2 p v) := by
  obtain ⟨g1, g2, g3, g4, g5, g6, g7, g8⟩ := h
  refine ⟨vC_u4 g1 (by decide) (by decide), fun p q a b => by rw [u2_off (by decide)]; exact g2 p q a b, by rw [u2_off (by decide)]; exact g3, by rw [u2_off (by decide)]; exact g4, by rw [u2_off (by decide), u2_off (by decide)]; exact g5, fun k hk => ?_, fun p q a b => ?_, fun l hl => ?_⟩
  · obtain ⟨a1, a2, a3, a4⟩ := g6 k hk
    rw [u2_off (show (2 : Nat) ≠ 3 by decide), u2_off (show (4 : Nat) ≠ 3 by decide), u2_off (show (0 : Nat) ≠ 3 by decide), u2_off (show (3 : Nat) ≠ 2 by decide), u2_off (show (1 : Nat) ≠ 2 by decide)]
    refine ⟨a1, ?_, a3, a4⟩
    by_cases e : k = p
    · subst e; rw [u2_same, u2_same]
    · rw [u2_ne (Or.inr e), u2_ne (Or.inr e)]; exact a2
  · rw [u2_off (by decide), u2_off (by decide)]; exact g7 p q a b
  · rw [u2_off (by decide), u2_off (by decide), u2_off (by decide), u2_off (by decide), u2_off (by decide), ob_off (by decide)]; exact g8 l hl
/-- hate set, whichever of the two is first -/
theorem hI_comm {p q : Nat} : hI p q = hI q p := by unfold hI; omega
theorem RM_sets {n nL p q : Nat} {mt : St} {c : Ct} {v : Int32} (h : RM n nL mt c) (hp : p < n) (hq : q < n) (hpq : p ≠ q) (h0 : 0 ≤ v) (h9 : v ≤ 99) : RM n nL (setsF mt p q v) (u2 c 4 (hI p q) v) := by
  rcases Nat.lt_or_gt_of_ne hpq with z | z
  · exact (RM_hate h z hq h0 h9).1
  · rw [hI_comm]; exact (RM_hate h z hp h0 h9).2
theorem gC_ct {n nL : Nat} {c : Ct} (g : gC n nL c) (hn : nC c) : zn c := ⟨g.1, hn⟩
theorem out0 {st mt : St} (h : R st mt) : mt 0 11 = 0 := h.1.2
