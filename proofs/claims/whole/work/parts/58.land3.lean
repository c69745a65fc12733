/-! pure part: a land told in letters: what comes -/
abbrev SC : Type := Nat × Nat × Ct
def wkN (c : Ct) : Nat := (c 0 10).toNatClampNeg
def okB (k d1 d2 d3 d4 : Nat) (x : SC) : Bool :=
  if k = 103 then decide (d1 < x.1 ∧ d2 < 4) else if k = 104 then decide (d1 < x.1 ∧ d2 < x.1 ∧ d1 ≠ d2) else if k = 107 then decide (d1 < 6 ∧ d3 < 4 ∧ x.1 < 6) else if k = 108 then decide (d3 < 4 ∧ x.2.1 < 6) else if k = 115 then decide (d1 < x.2.1)
  else decide (1 ≤ 10 * d1 + d2 ∧ 10 * d1 + d2 ≤ 60 ∧ wkN x.2.2 + (10 * d1 + d2) ≤ 999)
def nxC (k d1 d2 d3 d4 : Nat) (x : SC) : SC :=
  if k = 103 then (x.1, x.2.1, u2 x.2.2 3 d1 (nI d2)) else if k = 104 then (x.1, x.2.1, u2 x.2.2 4 (hI d1 d2) (nI (10 * d3 + d4))) else if k = 107 then (x.1 + 1, x.2.1, akF x.1 (nI d1) (nI d2) (nI d3) x.2.2) else if k = 108 then (x.1, x.2.1 + 1, alF x.2.1 (nI d3) (nI (10 * d1 + d2)) x.2.2)
  else if k = 115 then (x.1, x.2.1, u2 x.2.2 0 9 (x.2.2 0 9 ^^^ ((1 : Int32) <<< (nI d1 &&& 31)))) else (x.1, x.2.1, weeksF x.1 x.2.1 (10 * d1 + d2) x.2.2)
theorem okB_103 (d1 d2 d3 d4 : Nat) (x : SC) : okB 103 d1 d2 d3 d4 x = decide (d1 < x.1 ∧ d2 < 4) := rfl
theorem okB_104 (d1 d2 d3 d4 : Nat) (x : SC) : okB 104 d1 d2 d3 d4 x = decide (d1 < x.1 ∧ d2 < x.1 ∧ d1 ≠ d2) := rfl
theorem okB_107 (d1 d2 d3 d4 : Nat) (x : SC) : okB 107 d1 d2 d3 d4 x = decide (d1 < 6 ∧ d3 < 4 ∧ x.1 < 6) := rfl
theorem okB_108 (d1 d2 d3 d4 : Nat) (x : SC) : okB 108 d1 d2 d3 d4 x = decide (d3 < 4 ∧ x.2.1 < 6) := rfl
theorem okB_115 (d1 d2 d3 d4 : Nat) (x : SC) : okB 115 d1 d2 d3 d4 x = decide (d1 < x.2.1) := rfl
theorem okB_119 (d1 d2 d3 d4 : Nat) (x : SC) : okB 119 d1 d2 d3 d4 x = decide (1 ≤ 10 * d1 + d2 ∧ 10 * d1 + d2 ≤ 60 ∧ wkN x.2.2 + (10 * d1 + d2) ≤ 999) := rfl
theorem nxC_103 (d1 d2 d3 d4 : Nat) (x : SC) : nxC 103 d1 d2 d3 d4 x = (x.1, x.2.1, u2 x.2.2 3 d1 (nI d2)) := rfl
theorem nxC_104 (d1 d2 d3 d4 : Nat) (x : SC) : nxC 104 d1 d2 d3 d4 x = (x.1, x.2.1, u2 x.2.2 4 (hI d1 d2) (nI (10 * d3 + d4))) := rfl
theorem nxC_107 (d1 d2 d3 d4 : Nat) (x : SC) : nxC 107 d1 d2 d3 d4 x = (x.1 + 1, x.2.1, akF x.1 (nI d1) (nI d2) (nI d3) x.2.2) := rfl
theorem nxC_108 (d1 d2 d3 d4 : Nat) (x : SC) : nxC 108 d1 d2 d3 d4 x = (x.1, x.2.1 + 1, alF x.2.1 (nI d3) (nI (10 * d1 + d2)) x.2.2) := rfl
theorem nxC_115 (d1 d2 d3 d4 : Nat) (x : SC) : nxC 115 d1 d2 d3 d4 x = (x.1, x.2.1, u2 x.2.2 0 9 (x.2.2 0 9 ^^^ ((1 : Int32) <<< (nI d1 &&& 31)))) := rfl
theorem nxC_119 (d1 d2 d3 d4 : Nat) (x : SC) : nxC 119 d1 d2 d3 d4 x = (x.1, x.2.1, weeksF x.1 x.2.1 (10 * d1 + d2) x.2.2) := rfl
def isK (k : Nat) : Prop := k = 103 ∨ k = 104 ∨ k = 107 ∨ k = 108 ∨ k = 115 ∨ k = 119
def gX (x : SC) : Prop := vC x.1 x.2.1 x.2.2 ∧ hOk x.1 x.2.2 ∧ gC x.1 x.2.1 x.2.2 ∧ nC x.2.2
theorem gC_wk {n nL : Nat} {c : Ct} (g : gC n nL c) : c 0 10 = nI (wkN c) ∧ wkN c ≤ 999 := by
  obtain ⟨w, hw, e⟩ := g.2.2.2.2
  have : wkN c = w := by unfold wkN; rw [e]; exact clI (show w < 1000 by omega) (by decide)
  rw [this]
  exact ⟨e, hw⟩
/-- the check's rows written from a country -/
def mkS (n nL : Nat) (c : Ct) : St := fun k i => if k = 2 then c 1 i else if k = 3 then c 2 i else if k = 4 then c 3 i else if k = 5 then c 4 (hI (i / 6) (i % 6)) else if k = 6 then c 5 i else if k = 7 then c 6 i else if k = 8 then (if (ob c).testBit i then 1 else 0) else if k = 0 then (if i = 8 then nI n else if i = 9 then nI nL else if i = 10 then c 0 10 else 0) else 0
theorem mkRM {x : SC} (h : gX x) : RM x.1 x.2.1 (mkS x.1 x.2.1 x.2.2) x.2.2 ∧ mkS x.1 x.2.1 x.2.2 0 11 = 0 := by
  obtain ⟨h1, h2, h3, h4⟩ := h
  refine ⟨⟨h1, h2, rfl, rfl, rfl, fun p hp => ⟨rfl, rfl, ⟨fun z => absurd z (has0 p), fun z => ?_⟩, fun _ => rfl⟩, fun p q hp hq => ?_, fun l hl => ⟨rfl, rfl, ?_, rfl⟩⟩, rfl⟩
  · obtain ⟨t, ht, e⟩ := h3.2.1 p hp
    rw [e] at z
    exact absurd z (tn1 t ht)
  · have hq6 : q < 6 := Nat.lt_of_lt_of_le hq h1.1
    constructor
    · show x.2.2 4 (hI ((6 * p + q) / 6) ((6 * p + q) % 6)) = _
      rw [show (6 * p + q) / 6 = p by omega, show (6 * p + q) % 6 = q by omega]
    · show x.2.2 4 (hI ((6 * q + p) / 6) ((6 * q + p) % 6)) = _
      rw [show (6 * q + p) / 6 = q by omega, show (6 * q + p) % 6 = p by omega, hI_comm]
  · obtain ⟨t, ht, e⟩ := h3.2.2.1 l hl
    rw [e]
    exact tn1 t ht
theorem hOk_u4 {n p q : Nat} {c : Ct} {v : Int32} (h : hOk n c) (hn : n ≤ 6) (hp : p < q) (hq : q < n) (h0 : 0 ≤ v) (h9 : v ≤ 99) : hOk n (u2 c 4 (hI p q) v) := fun a b ha hb => by
  by_cases e : a = p ∧ b = q
  · obtain ⟨rfl, rfl⟩ := e
    rw [u2_same]; exact ⟨h0, h9⟩
  · rw [u2_ne (Or.inr fun z => e (hI_inj ha (by omega) hp (by omega) z))]; exact h a b ha hb
theorem hOk_week {n nL : Nat} {c : Ct} (hn : n ≤ 6) (h : hOk n c) : hOk n (weekF n nL c).2 := by
  refine fr_inv (fun _ (s : Int32 × Ct) => hOk n s.2) (stepL n) (Nat.zero_le nL) (s0 := (0, hatesF n (u2 c 0 10 (c 0 10 + 1)))) ?_ (fun l s _ _ hs => ?_)
  · refine fr_inv (fun _ (x : Ct) => hOk n x) _ (Nat.zero_le n) (fun a b ha hb => by rw [u2_off (by decide)]; exact h a b ha hb) (fun p x _ hp hx => ?_)
    exact fr_inv (fun _ (x : Ct) => hOk n x) _ (show p + 1 ≤ n by omega) hx fun q x h1 hq hx => hOk_u4 hx hn (by omega) hq (heldF_in _).1 (heldF_in _).2
  · unfold stepL
    split
    · exact hs
    · split
      · exact hs
      next p q e =>
        have := opS_in p q e
        show hOk n (opens s.2 l p q)
        unfold opens
        exact hOk_u4 (fun a b ha hb => by rw [u2_off (by decide), u2_off (by decide)]; exact hs a b ha hb) hn this.1 this.2.1 (heldF_in _).1 (heldF_in _).2
theorem ok_spec {k d1 d2 d3 d4 : Nat} {x : SC} (h : okB k d1 d2 d3 d4 x = true) (hk : isK k) : (k = 103 ∧ d1 < x.1 ∧ d2 < 4) ∨ (k = 104 ∧ d1 < x.1 ∧ d2 < x.1 ∧ d1 ≠ d2) ∨ (k = 107 ∧ d1 < 6 ∧ d3 < 4 ∧ x.1 < 6) ∨ (k = 108 ∧ d3 < 4 ∧ x.2.1 < 6) ∨ (k = 115 ∧ d1 < x.2.1) ∨ (k = 119 ∧ 1 ≤ 10 * d1 + d2 ∧ 10 * d1 + d2 ≤ 60 ∧ wkN x.2.2 + (10 * d1 + d2) ≤ 999) := by
  unfold okB at h
  rcases hk with rfl | rfl | rfl | rfl | rfl | rfl
  · rw [if_pos rfl] at h
    exact Or.inl ⟨rfl, of_decide_eq_true h⟩
  · rw [if_neg (by decide), if_pos rfl] at h
    exact Or.inr (Or.inl ⟨rfl, of_decide_eq_true h⟩)
  · rw [if_neg (by decide), if_neg (by decide), if_pos rfl] at h
    exact Or.inr (Or.inr (Or.inl ⟨rfl, of_decide_eq_true h⟩))
  · rw [if_neg (by decide), if_neg (by decide), if_neg (by decide), if_pos rfl] at h
    exact Or.inr (Or.inr (Or.inr (Or.inl ⟨rfl, of_decide_eq_true h⟩)))
  · rw [if_neg (by decide), if_neg (by decide), if_neg (by decide), if_neg (by decide), if_pos rfl] at h
    exact Or.inr (Or.inr (Or.inr (Or.inr (Or.inl ⟨rfl, of_decide_eq_true h⟩))))
  · rw [if_neg (by decide), if_neg (by decide), if_neg (by decide), if_neg (by decide), if_neg (by decide)] at h
    exact Or.inr (Or.inr (Or.inr (Or.inr (Or.inr ⟨rfl, of_decide_eq_true h⟩))))
theorem gX_next {k d1 d2 d3 d4 : Nat} {x : SC} (h : gX x) (hk : isK k) (ho : okB k d1 d2 d3 d4 x = true) (h4 : k = 104 → 10 * d3 + d4 ≤ 99) (h8 : k = 108 → 10 * d1 + d2 ≤ 99) : gX (nxC k d1 d2 d3 d4 x) := by
  obtain ⟨hm, h0⟩ := mkRM h
  obtain ⟨g1, g2, g3, g4⟩ := h
  have hn := g1.1
  have hL := g1.2.1
  rcases ok_spec ho hk with ⟨rfl, q1, q2⟩ | ⟨rfl, q1, q2, q3⟩ | ⟨rfl, q1, q2, q3⟩ | ⟨rfl, q1, q2⟩ | ⟨rfl, q1⟩ | ⟨rfl, q1, q2, q3⟩
  · have := RM_town (p := d1) hm h0 (tn1 d2 q2)
    exact ⟨this.1, this.2.1, gC_town g3 (by omega) q2, nC_u2 g4 (by decide) _ _⟩
  · have b := held99 (10 * d3 + d4) (by have := h4 rfl; omega)
    have := RM_sets hm q1 q2 q3 b.2.1 b.2.2
    exact ⟨this.1, this.2.1, gC_hate g3 (by omega) (by omega), nC_u2 g4 (by decide) _ _⟩
  · have := RM_add (a := nI d1) (b := nI d2) hm h0 q3 (tn1 d3 q2)
    exact ⟨this.1, this.2.1, gC_add g3 g4 q3 q2, (zn_add q3 ⟨g3.1, g4⟩).2⟩
  · have d9 : (-9 : Int32) < nI (10 * d1 + d2) := Int32.lt_of_lt_of_le (show (-9 : Int32) < 0 by decide) (n_le0 (by have := h8 rfl; omega))
    have := RM_addL hm q2 (tn1 d3 q1) d9
    exact ⟨this.1, this.2.1, gC_addL g3 g4 q2 q1 (h8 rfl), (zn_addL q2 ⟨g3.1, g4⟩).2⟩
  · have := (RM_turn hm q1).1
    exact ⟨this.1, this.2.1, gC_open g3, nC_u2 g4 (by decide) _ _⟩
  · have w := gC_wk g3
    exact ⟨vC_weeks g1, fr_inv (fun _ c => hOk x.1 c) _ (Nat.zero_le _) g2 fun _ _ _ _ hc => hOk_week hn hc, gC_weeks hn hL g3 g4 w.1 q3, (zn_weeks hn hL ⟨g3.1, g4⟩).2⟩
/-! the class's -/
theorem isF_if {n d : Nat} (hn : n < 2147483648) (hd : d < 2147483648) : isF n (nI d) = if d < n then 1 else 0 := by
  unfold isF
  rw [if_neg (n_lt0 hd)]
  by_cases h : d < n
  · rw [if_neg (nI_ge h hn), if_pos h]
  · rw [if_pos (nI_le (by omega) hd), if_neg h]
theorem s_digit {st : St} {s a : Nat} {K : Int32 → St → Prop} (hs : s ≤ 96) (e : st 4 1 = nI s) (ha : a < 2147483648) (h : K (sgF (st 5) s a - 48) st) : w_X7_digit (nI a) st K := by
  unfold w_X7_digit
  exact s_sign hs e ha h
theorem s_twoDigits {st : St} {s a : Nat} {K : Int32 → St → Prop} (hs : s ≤ 96) (e : st 4 1 = nI s) (ha : a < 1000) (h : K (10 * (sgF (st 5) s a - 48) + (sgF (st 5) s (a + 1) - 48)) st) : w_X7_twoDigits (nI a) st K := by
  unfold w_X7_twoDigits
  refine s_digit hs e (by omega) ?_
  rw [nI_inc]
  exact s_digit hs e (by omega) h
theorem two_v {a b : Int32} {d1 d2 : Nat} (h1 : a = nI d1) (h2 : b = nI d2) : 10 * a + b = nI (10 * d1 + d2) := by
  rw [h1, h2]
  have e : (10 : Int32) * nI d1 = nI (10 * d1) := nI_mul 10 d1
  rw [e, nI_add]
/-- the digits of a good statement -/
def dgs (sg : Nat → Int32) (k a : Nat) : Prop := ∀ j, j < dgN (nI k) → sg (a + 1 + j) - 48 = nI (dN (sg (a + 1 + j))) ∧ dN (sg (a + 1 + j)) ≤ 9
theorem dgs_of {sg : Nat → Int32} {k a : Nat} (h : fstG (ndP sg) (dgN (nI k)) (a + 1) = -9) (ha : a < 1000) : dgs sg k a := fun j hj => by
  rcases fstG_some (P := ndP sg) (dgN (nI k)) (a + 1) with ⟨-, h2⟩ | ⟨n, h1, h2, h3, -⟩
  · have := h2 (a + 1 + j) (by omega) (by omega)
    unfold ndP at this
    refine dg_v ?_
    cases z : isDg (sg (a + 1 + j)) with
    | true => rfl
    | false => rw [z] at this; cases this
  · have hd := dgN_le (nI k)
    rw [h3] at h
    exact absurd h (ne9 (by omega))
def okA (sg : Nat → Int32) (k a : Nat) (x : SC) : Bool := okB k (dN (sg (a + 1))) (dN (sg (a + 1 + 1))) (dN (sg (a + 1 + 2))) (dN (sg (a + 1 + 3))) x
def nxA (sg : Nat → Int32) (k a : Nat) (x : SC) : SC := nxC k (dN (sg (a + 1))) (dN (sg (a + 1 + 1))) (dN (sg (a + 1 + 2))) (dN (sg (a + 1 + 3))) x
theorem s_isRight {st : St} {s a k : Nat} {x : SC} {K : Int32 → St → Prop} (hs : s ≤ 96) (e : st 4 1 = nI s) (ha : a < 900) (hk : isK k) (ek : sgF (st 5) s a = nI k) (hd : dgs (sgF (st 5) s) k a) (hx : gX x) (h : K (if okA (sgF (st 5) s) k a x then 1 else 0) (sv st 19 x.2.2)) : w_X7_isRight (nI a) 19 (sv st 19 x.2.2) K := by
  obtain ⟨g1, g2, g3, g4⟩ := hx
  have hn := g1.1
  have hL := g1.2.1
  have e' : sv st 19 x.2.2 4 1 = nI s := by rw [sv_off (by decide)]; exact e
  have e5 : sv st 19 x.2.2 5 = st 5 := sv_off (by decide)
  have q7 : sv st 19 x.2.2 19 7 = nI x.1 := by rw [sv_0]; exact g1.2.2.1
  have q8 : sv st 19 x.2.2 19 8 = nI x.2.1 := by rw [sv_0]; exact g1.2.2.2.1
  have i2 : nI a + 2 = nI (a + 2) := nI_add a 2
  have i3 : nI a + 3 = nI (a + 3) := nI_add a 3
  unfold w_X7_isRight
  rw [nI_inc]
  refine s_digit hs e' (by omega) ?_
  rw [i2]
  refine s_digit hs e' (by omega) ?_
  rw [i3]
  refine s_digit hs e' (by omega) (s_twoDigits hs e' (by omega) (s_sign hs e' (by omega) ?_))
  rw [e5, ek]
  unfold okA at h
  rcases hk with rfl | rfl | rfl | rfl | rfl | rfl
  · have d1 := hd 0 (by decide)
    have d2 := hd 1 (by decide)
    rw [Nat.add_zero] at d1
    rw [okB_103] at h
    refine y1 (by decide) ?_
    rw [d1.1, d2.1]
    refine s_hasKeeper q7 ?_
    rw [isF_if (by omega) (by omega)]
    by_cases z1 : dN (sgF (st 5) s (a + 1)) < x.1
    · rw [if_pos z1]
      refine n1 (by decide) (s_isTown ?_)
      rw [townF_isF, isF_if (by decide) (by omega)]
      by_cases z2 : dN (sgF (st 5) s (a + 1 + 1)) < 4
      · rw [if_pos z2]
        rw [decide_eq_true ⟨z1, z2⟩, if_pos rfl] at h
        exact n1 (by decide) h
      · rw [if_neg z2]
        rw [decide_eq_false (fun y => z2 y.2), if_neg (by decide)] at h
        exact y1 rfl h
    · rw [if_neg z1]
      rw [decide_eq_false (fun y => z1 y.1), if_neg (by decide)] at h
      exact y1 rfl h
  · have d1 := hd 0 (by decide)
    have d2 := hd 1 (by decide)
    rw [Nat.add_zero] at d1
    rw [okB_104] at h
    refine n1 (by decide) (y1 (by decide) ?_)
    rw [d1.1, d2.1]
    refine s_areTwo q7 ?_
    unfold twF
    rw [isF_if (by omega) (by omega), isF_if (by omega) (by omega)]
    by_cases z1 : dN (sgF (st 5) s (a + 1)) < x.1
    · rw [if_pos z1, if_neg (by decide)]
      by_cases z2 : dN (sgF (st 5) s (a + 1 + 1)) < x.1
      · rw [if_pos z2, if_neg (by decide)]
        by_cases z3 : dN (sgF (st 5) s (a + 1)) = dN (sgF (st 5) s (a + 1 + 1))
        · rw [decide_eq_false (fun y => y.2.2 z3), if_neg (by decide)] at h
          rw [if_pos (by show nI (dN (sgF (st 5) s (a + 1))) = nI (dN (sgF (st 5) s (a + 1 + 1))); rw [z3])]
          exact ⟨Or.inl rfl, h⟩
        · rw [decide_eq_true ⟨z1, z2, z3⟩, if_pos rfl] at h
          rw [if_neg (fun y => z3 (nI_eqI (by omega) (by omega) y))]
          exact ⟨Or.inr rfl, h⟩
      · rw [decide_eq_false (fun y => z2 y.2.1), if_neg (by decide)] at h
        rw [if_neg z2, if_pos rfl]
        exact ⟨Or.inl rfl, h⟩
    · rw [decide_eq_false (fun y => z1 y.1), if_neg (by decide)] at h
      rw [if_neg z1, if_pos rfl]
      exact ⟨Or.inl rfl, h⟩
  · have d1 := hd 0 (by decide)
    have d3 := hd 2 (by decide)
    rw [Nat.add_zero] at d1
    rw [okB_107] at h
    refine n1 (by decide) (n1 (by decide) (y1 (by decide) ?_))
    rw [d1.1, d3.1]
    by_cases z1 : dN (sgF (st 5) s (a + 1)) < 6
    · refine n1 (nI_ge z1 (by decide)) (s_isTown ?_)
      rw [townF_isF, isF_if (by decide) (by omega)]
      by_cases z2 : dN (sgF (st 5) s (a + 1 + 2)) < 4
      · rw [if_pos z2]
        refine n1 (by decide) ?_
        unfold w_X1_hasKeeperRoom
        rw [q7]
        by_cases z3 : x.1 < 6
        · rw [decide_eq_true ⟨z1, z2, z3⟩, if_pos rfl] at h
          exact n1 (nI_ge z3 (by decide)) (n1 (by decide) h)
        · rw [decide_eq_false (fun y => z3 y.2.2), if_neg (by decide)] at h
          exact y1 (nI_le (show 6 ≤ x.1 by omega) (by omega)) (y1 rfl h)
      · rw [if_neg z2]
        rw [decide_eq_false (fun y => z2 y.2.1), if_neg (by decide)] at h
        exact y1 rfl h
    · rw [decide_eq_false (fun y => z1 y.1), if_neg (by decide)] at h
      exact y1 (nI_le (show 6 ≤ dN (sgF (st 5) s (a + 1)) by omega) (by omega)) h
  · have d3 := hd 2 (by decide)
    rw [okB_108] at h
    refine n1 (by decide) (n1 (by decide) (n1 (by decide) (y1 (by decide) ?_)))
    rw [d3.1]
    refine s_isTown ?_
    rw [townF_isF, isF_if (by decide) (by omega)]
    by_cases z2 : dN (sgF (st 5) s (a + 1 + 2)) < 4
    · rw [if_pos z2]
      refine n1 (by decide) ?_
      unfold w_X1_hasLetterRoom
      rw [q8]
      by_cases z3 : x.2.1 < 6
      · rw [decide_eq_true ⟨z2, z3⟩, if_pos rfl] at h
        exact n1 (nI_ge z3 (by decide)) (n1 (by decide) h)
      · rw [decide_eq_false (fun y => z3 y.2), if_neg (by decide)] at h
        exact y1 (nI_le (show 6 ≤ x.2.1 by omega) (by omega)) (y1 rfl h)
    · rw [if_neg z2]
      rw [decide_eq_false (fun y => z2 y.1), if_neg (by decide)] at h
      exact y1 rfl h
  · have d1 := hd 0 (by decide)
    rw [Nat.add_zero] at d1
    rw [okB_115] at h
    refine n1 (by decide) (n1 (by decide) (n1 (by decide) (n1 (by decide) (y1 (by decide) ?_))))
    rw [d1.1]
    refine s_hasLetter q8 ?_
    rw [isF_if (by omega) (by omega)]
    by_cases z1 : dN (sgF (st 5) s (a + 1)) < x.2.1
    · rw [if_pos z1]
      rw [decide_eq_true z1, if_pos rfl] at h
      exact ⟨Or.inr rfl, h⟩
    · rw [if_neg z1]
      rw [decide_eq_false z1, if_neg (by decide)] at h
      exact ⟨Or.inl rfl, h⟩
  · have d1 := hd 0 (by decide)
    have d2 := hd 1 (by decide)
    rw [Nat.add_zero] at d1
    rw [okB_119] at h
    have wk := gC_wk g3
    refine n1 (by decide) (n1 (by decide) (n1 (by decide) (n1 (by decide) (n1 (by decide) ?_))))
    rw [two_v d1.1 d2.1]
    by_cases z1 : 1 ≤ 10 * dN (sgF (st 5) s (a + 1)) + dN (sgF (st 5) s (a + 1 + 1))
    · refine n1 (fun y => absurd ((nJ_lt (b := 1) (by omega) (by decide)).mp y) (by omega)) ?_
      by_cases z2 : 10 * dN (sgF (st 5) s (a + 1)) + dN (sgF (st 5) s (a + 1 + 1)) ≤ 60
      · refine n1 (fun y => absurd ((nJ_lt (a := 60) (by decide) (by omega)).mp y) (by omega)) ?_
        unfold w_X1_weekNow
        rw [sv_0, wk.1]
        show ((999 : Int32) - nI (wkN x.2.2) < nI (10 * dN (sgF (st 5) s (a + 1)) + dN (sgF (st 5) s (a + 1 + 1))) → K 0 (sv st 19 x.2.2)) ∧ (¬ (999 : Int32) - nI (wkN x.2.2) < nI (10 * dN (sgF (st 5) s (a + 1)) + dN (sgF (st 5) s (a + 1 + 1))) → K 1 (sv st 19 x.2.2))
        rw [show (999 : Int32) - nI (wkN x.2.2) = nI (999 - wkN x.2.2) from nI_sub' (a := 999) wk.2]
        by_cases z3 : wkN x.2.2 + (10 * dN (sgF (st 5) s (a + 1)) + dN (sgF (st 5) s (a + 1 + 1))) ≤ 999
        · rw [decide_eq_true ⟨z1, z2, z3⟩, if_pos rfl] at h
          exact n1 (fun y => absurd ((nJ_lt (by omega) (by omega)).mp y) (by omega)) h
        · rw [decide_eq_false (fun y => z3 y.2.2), if_neg (by decide)] at h
          exact y1 ((nJ_lt (by omega) (by omega)).mpr (by omega)) h
      · rw [decide_eq_false (fun y => z2 y.2.1), if_neg (by decide)] at h
        exact y1 ((nJ_lt (a := 60) (by decide) (by omega)).mpr (by omega)) h
    · rw [decide_eq_false (fun y => z1 y.1), if_neg (by decide)] at h
      exact y1 ((nJ_lt (b := 1) (by omega) (by decide)).mpr (by omega)) h
theorem s_comes {st : St} {s a k : Nat} {x : SC} {K : St → Prop} (hs : s ≤ 96) (e : st 4 1 = nI s) (ha : a < 900) (hk : isK k) (ek : sgF (st 5) s a = nI k) (hd : dgs (sgF (st 5) s) k a) (hx : gX x) (ho : okA (sgF (st 5) s) k a x = true) (h : K (sv st 19 (nxA (sgF (st 5) s) k a x).2.2)) : w_X7_comes (nI a) 19 (sv st 19 x.2.2) K := by
  obtain ⟨g1, g2, g3, g4⟩ := hx
  have hn := g1.1
  have hL := g1.2.1
  have e' : sv st 19 x.2.2 4 1 = nI s := by rw [sv_off (by decide)]; exact e
  have e5 : sv st 19 x.2.2 5 = st 5 := sv_off (by decide)
  have i2 : nI a + 2 = nI (a + 2) := nI_add a 2
  have i3 : nI a + 3 = nI (a + 3) := nI_add a 3
  have sp := ok_spec ho hk
  unfold nxA at h
  unfold w_X7_comes
  rw [nI_inc]
  refine s_digit hs e' (by omega) ?_
  rw [i2]
  refine s_digit hs e' (by omega) (s_sign hs e' (by omega) ?_)
  rw [e5, ek, i3]
  rcases sp with ⟨rfl, q1, q2⟩ | ⟨rfl, q1, q2, q3⟩ | ⟨rfl, q1, q2, q3⟩ | ⟨rfl, q1, q2⟩ | ⟨rfl, q1⟩ | ⟨rfl, q1, q2, q3⟩
  · have d1 := hd 0 (by decide)
    have d2 := hd 1 (by decide)
    rw [Nat.add_zero] at d1
    rw [nxC_103] at h
    refine y1 (by decide) ?_
    rw [d1.1, d2.1]
    exact m_move (by omega) h
  · have d1 := hd 0 (by decide)
    have d2 := hd 1 (by decide)
    have d3 := hd 2 (by decide)
    have d4 := hd 3 (by decide)
    rw [Nat.add_zero] at d1
    rw [nxC_104] at h
    refine n1 (by decide) (y1 (by decide) (s_twoDigits hs e' (by omega) ?_))
    have ev := two_v d3.1 d4.1
    rw [e5, d1.1, d2.1]
    show w_X1_setHate 19 _ _ (10 * (sgF (st 5) s (a + 1 + 2) - 48) + (sgF (st 5) s (a + 1 + 3) - 48)) _ _
    rw [ev]
    refine s_setHate (by omega) (by omega) ?_
    rw [(held99 _ (by omega)).1]
    exact h
  · have d1 := hd 0 (by decide)
    have d2 := hd 1 (by decide)
    have d3 := hd 2 (by decide)
    rw [Nat.add_zero] at d1
    rw [nxC_107] at h
    refine n1 (by decide) (n1 (by decide) (y1 (by decide) (s_digit hs e' (by omega) ?_)))
    rw [e5, d1.1, d2.1, d3.1]
    exact s_addKeeper q3 g1.2.2.1 h
  · have d1 := hd 0 (by decide)
    have d2 := hd 1 (by decide)
    have d3 := hd 2 (by decide)
    rw [Nat.add_zero] at d1
    rw [nxC_108] at h
    refine n1 (by decide) (n1 (by decide) (n1 (by decide) (y1 (by decide) (s_digit hs e' (by omega) (s_twoDigits hs e' (by omega) ?_)))))
    rw [e5, d3.1, two_v d1.1 d2.1]
    exact s_addLetter q2 g1.2.2.2.1 h
  · have d1 := hd 0 (by decide)
    rw [Nat.add_zero] at d1
    rw [nxC_115] at h
    refine n1 (by decide) (n1 (by decide) (n1 (by decide) (n1 (by decide) (y1 (by decide) ?_))))
    rw [d1.1]
    unfold w_X1_turnSeal
    refine s_hasLetter (n := x.2.1) (by rw [sv_0]; exact g1.2.2.2.1) (n1 (by rw [isF_in (by omega) q1]; decide) ?_)
    rw [sv_0, sv_u20]
    exact h
  · have d1 := hd 0 (by decide)
    have d2 := hd 1 (by decide)
    rw [Nat.add_zero] at d1
    rw [nxC_119] at h
    refine n1 (by decide) (n1 (by decide) (n1 (by decide) (n1 (by decide) (n1 (by decide) (s_twoDigits hs e' (by omega) ?_)))))
    rw [e5, two_v d1.1 d2.1]
    exact s_passWeeks (by omega) g1 h
/-! the check's -/
/-- what a statement that comes leaves of the check -/
def CF (t t' : St) : Prop := (∀ j, j ≠ 0 → (j < 2 ∨ 8 < j) → j ≠ 14 → t' j = t j) ∧ ∀ a, a ≠ 8 → a ≠ 9 → a ≠ 10 → a ≠ 25 → t' 0 a = t 0 a
theorem t_comes {t : St} {i k a : Nat} {sg : Nat → Int32} {x : SC} {K : Int32 → St → Prop} (hi : i < 48) (hm : RM x.1 x.2.1 t x.2.2) (g : gC x.1 x.2.1 x.2.2) (h0 : t 0 11 = 0) (hk : isK k) (hmk : t 10 i = nI k) (ht : toldK sg k (a + 1) (3 * i) (t 12)) (hd : dgs sg k a)
    (h1 : okA sg k a x = true → ∀ t', RM (nxA sg k a x).1 (nxA sg k a x).2.1 t' (nxA sg k a x).2.2 → CF t t' → K 1 t') (h2 : okA sg k a x = false → K 0 t) : w_X9_comes (nI i) t K := by
  have g1 := hm.1
  have hn := g1.1
  have hL := g1.2.1
  have k8 := hm.2.2.1
  have k9 := hm.2.2.2.1
  have e3 : (3 : Int32) * nI i = nI (3 * i) := nI_mul 3 i
  have vI : vp_in (nI (3 * i)) 144 := vp_in_nI (by omega) (by decide)
  have vI1 : vp_in (nI (3 * i + 1)) 144 := vp_in_nI (by omega) (by decide)
  have vI2 : vp_in (nI (3 * i + 2)) 144 := vp_in_nI (by omega) (by decide)
  have c0 : (nI (3 * i)).toNatClampNeg = 3 * i := clI (show 3 * i < 144 by omega) (by decide)
  have c1 : (nI (3 * i + 1)).toNatClampNeg = 3 * i + 1 := clI (show 3 * i + 1 < 144 by omega) (by decide)
  have c2 : (nI (3 * i + 2)).toNatClampNeg = 3 * i + 2 := clI (show 3 * i + 2 < 144 by omega) (by decide)
  have i2 : nI (3 * i) + 2 = nI (3 * i + 2) := nI_add _ 2
  obtain ⟨tk, th, tl, tg, ts, tw⟩ := ht
  unfold w_X9_comes
  rw [clI (show i < 48 by omega) (by decide), hmk, e3, nI_inc, i2, c0, c1, c2]
  refine ⟨vp_in_nI hi (by decide), ?_⟩
  unfold okA at h1 h2
  unfold nxA at h1
  rcases hk with rfl | rfl | rfl | rfl | rfl | rfl
  · obtain ⟨r1, r2⟩ := tg rfl
    have d1 := hd 0 (by decide)
    have d2 := hd 1 (by decide)
    rw [Nat.add_zero] at d1
    rw [okB_103] at h1 h2
    rw [nxC_103] at h1
    refine y1 (by decide) ⟨vI, t_isKeeper k8 ?_⟩
    rw [r1, isF_if (by omega) (by omega)]
    by_cases z1 : dN (sg (a + 1)) < x.1
    · rw [if_pos z1]
      refine n1 (by decide) ⟨vI1, t_isTown ?_⟩
      rw [r2, townF_isF, isF_if (by decide) (by have := d2.2; omega)]
      by_cases z2 : dN (sg (a + 1 + 1)) < 4
      · rw [if_pos z2]
        refine n2 (by decide) ⟨vI, vI1, ?_⟩
        rw [r1, clI (show dN (sg (a + 1)) < 6 by omega) (by decide)]
        have := h1 (decide_eq_true ⟨z1, z2⟩)
        exact ⟨vp_in_nI (by omega) (by decide), this _ (RM_town hm h0 (tn1 _ z2)) ⟨fun j p q r => u2_off (by omega), fun b p q r s => by rw [u2_off (by decide)]⟩⟩
      · rw [if_neg z2]
        exact y2 rfl (h2 (decide_eq_false fun y => z2 y.2))
    · rw [if_neg z1]
      exact y1 rfl (h2 (decide_eq_false fun y => z1 y.1))
  · obtain ⟨r1, r2, r3⟩ := th rfl
    have d1 := hd 0 (by decide)
    have d2 := hd 1 (by decide)
    have d3 := hd 2 (by decide)
    have d4 := hd 3 (by decide)
    rw [Nat.add_zero] at d1
    rw [okB_104] at h1 h2
    rw [nxC_104] at h1
    refine n1 (by decide) (y1 (by decide) ⟨vI, vI1, t_areTwo k8 ?_⟩)
    rw [r1, r2]
    have etw : twF x.1 (nI (dN (sg (a + 1)))) (nI (dN (sg (a + 1 + 1)))) = if (dN (sg (a + 1)) < x.1 ∧ dN (sg (a + 1 + 1)) < x.1 ∧ dN (sg (a + 1)) ≠ dN (sg (a + 1 + 1))) then 1 else 0 := by
      unfold twF
      rw [isF_if (by omega) (by omega), isF_if (by omega) (by have := d2.2; omega)]
      by_cases z1 : dN (sg (a + 1)) < x.1
      · rw [if_pos z1, if_neg (by decide)]
        by_cases z2 : dN (sg (a + 1 + 1)) < x.1
        · rw [if_pos z2, if_neg (by decide)]
          by_cases z3 : dN (sg (a + 1)) = dN (sg (a + 1 + 1))
          · rw [if_pos (by rw [z3]), if_neg (fun y => y.2.2 z3)]
          · rw [if_neg (fun y => z3 (nI_eqI (by omega) (by omega) y)), if_pos ⟨z1, z2, z3⟩]
        · rw [if_neg z2, if_pos rfl, if_neg (fun y => z2 y.2.1)]
      · rw [if_neg z1, if_pos rfl, if_neg (fun y => z1 y.1)]
    rw [etw]
    by_cases z : dN (sg (a + 1)) < x.1 ∧ dN (sg (a + 1 + 1)) < x.1 ∧ dN (sg (a + 1)) ≠ dN (sg (a + 1 + 1))
    · rw [if_pos z]
      refine n2 (by decide) ⟨vI, vI1, vI2, ?_⟩
      rw [r3]
      have := h1 (decide_eq_true z)
      have b := held99 (10 * dN (sg (a + 1 + 2)) + dN (sg (a + 1 + 3))) (by have := d3.2; have := d4.2; omega)
      exact t_sets (by omega) (by omega) (this _ (RM_sets hm z.1 z.2.1 z.2.2 b.2.1 b.2.2) ⟨fun j p q r => ef_sets j (by omega), fun b _ _ _ _ => by rw [ef_sets 0 (by decide)]⟩)
    · rw [if_neg z]
      exact y2 rfl (h2 (decide_eq_false z))
  · obtain ⟨r1, r2, r3⟩ := tk rfl
    have d1 := hd 0 (by decide)
    have d3 := hd 2 (by decide)
    rw [Nat.add_zero] at d1
    rw [okB_107] at h1 h2
    rw [nxC_107] at h1
    refine n1 (by decide) (n1 (by decide) (y1 (by decide) ⟨vI, vI1, vI2, ?_⟩))
    unfold w_X9_comesKeeper
    rw [r1, r2, r3]
    by_cases z1 : dN (sg (a + 1)) < 6
    · refine n1 (fun y => absurd ((nJ_lt (a := 5) (by decide) (by omega)).mp y) (by omega)) (t_isTown ?_)
      rw [townF_isF, isF_if (by decide) (by have := d3.2; omega)]
      by_cases z2 : dN (sg (a + 1 + 2)) < 4
      · rw [if_pos z2, k8]
        refine n1 (by decide) ?_
        by_cases z3 : x.1 < 6
        · have := h1 (decide_eq_true ⟨z1, z2, z3⟩)
          exact n2 (fun y => absurd ((n6 hn).mp y) (by omega)) (t_addsKeeper z3 k8 ⟨Or.inr rfl, this _ (RM_add hm h0 z3 (tn1 _ z2)) ⟨fun j p q r => ms_off p (by omega) (by omega) (by omega) (by omega), fun b p _ _ _ => ms_0 p⟩⟩)
        · exact y2 ((n6 hn).mpr (by omega)) ⟨Or.inl rfl, h2 (decide_eq_false fun y => z3 y.2.2)⟩
      · rw [if_neg z2]
        exact y1 rfl ⟨Or.inl rfl, h2 (decide_eq_false fun y => z2 y.2.1)⟩
    · exact y1 ((nJ_lt (a := 5) (by decide) (by omega)).mpr (by omega)) ⟨Or.inl rfl, h2 (decide_eq_false fun y => z1 y.1)⟩
  · obtain ⟨r1, r2⟩ := tl rfl
    have d1 := hd 0 (by decide)
    have d2 := hd 1 (by decide)
    have d3 := hd 2 (by decide)
    rw [Nat.add_zero] at d1
    rw [okB_108] at h1 h2
    rw [nxC_108] at h1
    refine n1 (by decide) (n1 (by decide) (n1 (by decide) (y1 (by decide) ⟨vI, vI1, ?_⟩)))
    unfold w_X9_comesLetter
    rw [r1, r2]
    refine t_isTown ?_
    rw [townF_isF, isF_if (by decide) (by have := d3.2; omega)]
    by_cases z2 : dN (sg (a + 1 + 2)) < 4
    · rw [if_pos z2, k9]
      refine n1 (by decide) ?_
      by_cases z3 : x.2.1 < 6
      · have := h1 (decide_eq_true ⟨z2, z3⟩)
        have d9 : (-9 : Int32) < nI (10 * dN (sg (a + 1)) + dN (sg (a + 1 + 1))) := Int32.lt_of_lt_of_le (show (-9 : Int32) < 0 by decide) (n_le0 (by have := d1.2; have := d2.2; omega))
        exact n2 (fun y => absurd ((n6 hL).mp y) (by omega)) (t_addsLetter z3 k9 ⟨Or.inr rfl, this _ (RM_addL hm z3 (tn1 _ z2) d9) ⟨fun j p q r => by unfold mlF; rw [u2_off p, u2_off (by omega), u2_off (by omega), u2_off (by omega)], fun b _ p _ _ => by unfold mlF; rw [u2_0 p, u2_off (by decide), u2_off (by decide), u2_off (by decide)]⟩⟩)
      · exact y2 ((n6 hL).mpr (by omega)) ⟨Or.inl rfl, h2 (decide_eq_false fun y => z3 y.2)⟩
    · rw [if_neg z2]
      exact y1 rfl ⟨Or.inl rfl, h2 (decide_eq_false fun y => z2 y.1)⟩
  · have r1 := ts rfl
    have d1 := hd 0 (by decide)
    rw [Nat.add_zero] at d1
    rw [okB_115] at h1 h2
    rw [nxC_115] at h1
    refine n1 (by decide) (n1 (by decide) (n1 (by decide) (n1 (by decide) (y1 (by decide) ⟨vI, t_isLetter k9 ?_⟩))))
    rw [r1, isF_if (by omega) (by omega)]
    by_cases z1 : dN (sg (a + 1)) < x.2.1
    · rw [if_pos z1, clI (show dN (sg (a + 1)) < 6 by omega) (by decide)]
      have := h1 (decide_eq_true z1)
      have v6 : vp_in (nI (dN (sg (a + 1)))) 6 := vp_in_nI (by omega) (by decide)
      exact n2 (by decide) ⟨vI, vI, v6, v6, this _ (RM_turn hm z1).1 ⟨fun j p q r => u2_off (by omega), fun b _ _ _ _ => by rw [u2_off (by decide)]⟩⟩
    · rw [if_neg z1]
      exact y2 rfl (h2 (decide_eq_false z1))
  · have r1 := tw rfl
    have d1 := hd 0 (by decide)
    have d2 := hd 1 (by decide)
    rw [Nat.add_zero] at d1
    have db : 10 * dN (sg (a + 1)) + dN (sg (a + 1 + 1)) ≤ 99 := by have := d1.2; have := d2.2; omega
    rw [okB_119] at h1 h2
    rw [nxC_119] at h1
    have wk := gC_wk g
    have m10 : t 0 10 = nI (wkN x.2.2) := hm.2.2.2.2.1.trans wk.1
    refine n1 (by decide) (n1 (by decide) (n1 (by decide) (n1 (by decide) (n1 (by decide) ⟨vI, ?_⟩))))
    unfold w_X9_comesWeeks
    rw [r1]
    refine t_isIn ?_
    by_cases z1 : 1 ≤ 10 * dN (sg (a + 1)) + dN (sg (a + 1 + 1))
    · rw [if_neg (show ¬ nI (10 * dN (sg (a + 1)) + dN (sg (a + 1 + 1))) < 1 from fun y => absurd ((nJ_lt (b := 1) (by omega) (by decide)).mp y) (by omega))]
      by_cases z2 : 10 * dN (sg (a + 1)) + dN (sg (a + 1 + 1)) ≤ 60
      · rw [if_neg (show ¬ (60 : Int32) < nI (10 * dN (sg (a + 1)) + dN (sg (a + 1 + 1))) from fun y => absurd ((nJ_lt (a := 60) (by decide) (by omega)).mp y) (by omega)), m10, nI_add]
        refine n1 (by decide) ?_
        by_cases z3 : wkN x.2.2 + (10 * dN (sg (a + 1)) + dN (sg (a + 1 + 1))) ≤ 999
        · have := h1 (decide_eq_true ⟨z1, z2, z3⟩)
          exact y1 (nI_le z3 (by decide)) (t_goesOn (by omega) hm fun t' q1 q2 => ⟨Or.inr rfl, this t' q1 ⟨fun j p q r => q2.1 j p (by omega) (by omega) r, fun b _ _ p q => q2.2 b p q⟩⟩)
        · exact n1 (nI_ge (show 999 < _ by omega) (by omega)) ⟨Or.inl rfl, h2 (decide_eq_false fun y => z3 y.2.2)⟩
      · rw [if_pos (show (60 : Int32) < nI (10 * dN (sg (a + 1)) + dN (sg (a + 1 + 1))) from (nJ_lt (a := 60) (by decide) (by omega)).mpr (by omega))]
        exact y1 rfl ⟨Or.inl rfl, h2 (decide_eq_false fun y => z2 y.2.1)⟩
    · rw [if_pos (show nI (10 * dN (sg (a + 1)) + dN (sg (a + 1 + 1))) < 1 from (nJ_lt (b := 1) (by omega) (by decide)).mpr (by omega))]
      exact y1 rfl ⟨Or.inl rfl, h2 (decide_eq_false fun y => z1 y.1)⟩
