/-! pure part: counts, the row of numbers, judging; loops that end early -/
def fstG (P : Nat → Bool) : Nat → Nat → Int32
  | 0, _ => -9
  | d + 1, i => if P i then nI i else fstG P d (i + 1)
theorem lo_fst {W : Nat → Nat → Prop} {P : Nat → Bool} {Q : Int32 → Prop} {r i0 : Nat} (hi : i0 ≤ r) (hx : Q (-9) → ∃ n, W n r) (hp : ∀ i, i0 ≤ i → i < r → P i = true → Q (nI i) → ∃ n, W n i) (hn : ∀ n i, i0 ≤ i → i < r → P i = false → W n (i + 1) → W (n + 1) i) (h : Q (fstG P (r - i0) i0)) : ∃ n, W n i0 := by
  have key : ∀ d i, i0 ≤ i → i + d = r → Q (fstG P d i) → ∃ n, W n i := by
    intro d
    induction d with
    | zero =>
      intro i h1 h2 h3
      have : i = r := by omega
      subst this
      exact hx h3
    | succ d ih =>
      intro i h1 h2 h3
      cases e : P i with
      | true =>
        rw [fstG, e] at h3
        exact hp i h1 (by omega) e h3
      | false =>
        rw [fstG, e] at h3
        obtain ⟨n, hw⟩ := ih (i + 1) (by omega) (by omega) h3
        exact ⟨n + 1, hn n i h1 (by omega) e hw⟩
  exact key (r - i0) i0 (Nat.le_refl _) (by omega) h
theorem fstG_cg {P P' : Nat → Bool} : ∀ d i, (∀ j, i ≤ j → j < i + d → P j = P' j) → fstG P d i = fstG P' d i
  | 0, _, _ => rfl
  | d + 1, i, h => by
    rw [fstG, fstG, h i (Nat.le_refl i) (by omega), fstG_cg d (i + 1) fun j a b => h j (by omega) (by omega)]
theorem R_parts {st st' mt mt' : St} (h : R st mt) (hc : ∀ j, 10 ≤ j → st' j = st j) (h9 : st' 9 0 = st 9 0) (lv : ∀ i, i < 75 → lvM mt' i = lvM mt i) (h11 : mt' 0 11 = mt 0 11) (h1 : Rref st' mt') (h2 : Rtell st' mt') (h3 : Rrow st' mt')
    (hk1 : st' 0 3 = st 0 3) (hk2 : mt' 0 20 = mt 0 20) (h13 : mt' 13 = mt 13) (hp1 : st' 2 1 = st 2 1) (hp2 : st' 2 2 = st 2 2) (hp3 : mt' 0 23 = mt 0 23) : R st' mt' := by
  obtain ⟨⟨a1, a1'⟩, a2, a3, a4, a5, a6, a7, ⟨a, b, m1, m2, m3, m4, m5, m6⟩⟩ := h
  have oc : ∀ k, 10 ≤ k → cv st' k = cv st k := fun k hk => cv_eq fun j _ _ => hc j (by omega)
  refine ⟨⟨by rw [oc 11 (by decide)]; exact a1.cg lv, by rw [h11]; exact a1'⟩, fun k hk => ?_, by rw [h9]; exact a3, h1, h2, h3, ?_, ⟨a, b, m1, m2, by rw [hp1]; exact m3, by rw [hp2]; exact m4, by rw [hp3]; exact m5, fun i hi => ?_⟩⟩
  · obtain ⟨i, hi, rfl⟩ := hk
    rw [oc _ (by omega)]
    exact a2 _ ⟨i, hi, rfl⟩
  · rcases a7 with ⟨p, q⟩ | ⟨p, q, z⟩
    · exact Or.inl ⟨by rw [hk1]; exact p, by rw [hk2]; exact q⟩
    · refine Or.inr ⟨by rw [hk1]; exact p, by rw [hk2]; exact q, ?_⟩
      rw [oc 27 (by decide), h13]
      exact z
  · rw [oc _ (by have := @pI_lt a b i; omega), h13]
    exact m6 i hi
theorem lv_u2 {mt : St} {j i : Nat} {v : Int32} (h : (j ≠ 0 ∧ (j < 2 ∨ 8 < j)) ∨ (j = 0 ∧ i ≠ 8 ∧ i ≠ 9 ∧ i ≠ 10)) : ∀ a, a < 75 → lvM (u2 mt j i v) a = lvM mt a := by
  intro a _
  have o : ∀ b, 2 ≤ b → b ≤ 8 → u2 mt j i v b = mt b := fun b h1 h2 => u2_off (by omega)
  have o0 : ∀ b, b = 8 ∨ b = 9 ∨ b = 10 → u2 mt j i v 0 b = mt 0 b := fun b hb => u2_ne (by omega)
  unfold lvM
  rw [o 2 (by decide) (by decide), o 3 (by decide) (by decide), o 4 (by decide) (by decide), o 5 (by decide) (by decide), o 6 (by decide) (by decide), o 7 (by decide) (by decide), o 8 (by decide) (by decide), o0 8 (by decide), o0 9 (by decide), o0 10 (by decide)]
theorem sim_count {st mt : St} (h : R st mt) (x1 : Int32) : w_X8_count x1 st (fun r st' => w_X9_count x1 mt (fun r' mt' => r = r' ∧ R st' mt')) := by
  obtain ⟨n, nL, hm, g, hn, hL, h7, h8, k8, k9⟩ := h.ctx
  have h' := h
  obtain ⟨-, -, -, hr, ⟨s, t1, t2, t3, -⟩, ⟨r, r1, r2, r3, -⟩, -, ⟨a, b, m1, m2, m3, m4, m5, -⟩⟩ := h'
  unfold w_X8_count
  refine ⟨fun z => ?_, fun z0 => ⟨fun z => ?_, fun z1 => ⟨fun z => ?_, fun z2 => ⟨fun z => ?_, fun z3 => ⟨fun z => x_allHate hn h7 ?_, fun z4 => ⟨fun z => ?_, fun z5 => ⟨fun z => ?_, fun z6 => ⟨fun z => ?_, fun z7 => ?_⟩⟩⟩⟩⟩⟩⟩⟩
  · subst z
    unfold w_X9_count w_X1_keeperCount
    rw [h7]
    exact t_isIn' (y1 (by decide) (y1 rfl ⟨k8.symm, h⟩))
  · subst z
    unfold w_X9_count w_X1_letterCount
    rw [h8]
    exact t_isIn' (y1 (by decide) (n1 (by decide) (y1 rfl ⟨k9.symm, h⟩)))
  · subst z
    unfold w_X9_count w_X1_weekNow
    exact t_isIn' (y1 (by decide) (n1 (by decide) (n1 (by decide) (y1 rfl ⟨hm.2.2.2.2.1.symm, h⟩))))
  · subst z
    unfold w_X9_count w_X1_openBits
    exact t_isIn' (y1 (by decide) (n1 (by decide) (n1 (by decide) (n1 (by decide) (y1 rfl (t_openOnes hm ⟨hm.1.2.2.2.2.2.1, h⟩))))))
  · subst z
    unfold w_X9_count
    exact t_isIn' (y1 (by decide) (n1 (by decide) (n1 (by decide) (n1 (by decide) (n1 (by decide) (y1 rfl (t_allHate hm ⟨rfl, h⟩)))))))
  · subst z
    unfold w_X9_count w_X7_size
    exact t_isIn' (y1 (by decide) (n1 (by decide) (n1 (by decide) (n1 (by decide) (n1 (by decide) (n1 (by decide) (y1 rfl ⟨t2.trans t3.symm, h⟩)))))))
  · subst z
    unfold w_X9_count w_X6_size
    exact t_isIn' (y1 (by decide) (n1 (by decide) (n1 (by decide) (n1 (by decide) (n1 (by decide) (n1 (by decide) (n1 (by decide) (y1 rfl ⟨r2.trans r3.symm, h⟩))))))))
  · subst z
    unfold w_X9_count w_X5_size
    exact t_isIn' (y1 (by decide) (n1 (by decide) (n1 (by decide) (n1 (by decide) (n1 (by decide) (n1 (by decide) (n1 (by decide) (n1 (by decide) (y1 rfl ⟨m4.trans m5.symm, h⟩)))))))))
  · have out : inF x1 11 16 = 0 → w_X9_count x1 mt (fun r' mt' => (-9) = r' ∧ R st mt') := fun e => by
      unfold w_X9_count
      exact t_isIn' (y1 e (n1 z0 (n1 z1 (n1 z2 (n1 z3 (n1 z4 (n1 z5 (n1 z6 (n1 z7 ⟨rfl, h⟩)))))))))
    refine ⟨fun z8 => out (if_pos z8), fun z8 => ⟨fun z9 => out (by unfold inF; rw [if_neg z8, if_pos z9]), fun z9 => ?_⟩⟩
    have e : ¬ inF x1 11 16 = 0 := by unfold inF; rw [if_neg z8, if_neg z9]; decide
    have e' : rangeF x1 (nI 11) (nI 16) = 0 := by unfold rangeF; rw [if_neg (show ¬ x1 < nI 11 from z8), if_neg (show ¬ nI 16 < x1 from z9)]
    obtain ⟨i, i1, i2, rfl⟩ := rg_nI (by decide) (by decide) e'
    have es : nI i - 10 = nI (i - 10) := (show ∀ i, i < 17 → 11 ≤ i → nI i - 10 = nI (i - 10) by decide +kernel) i (by omega) i1
    unfold w_X9_count
    rw [es]
    refine s_at (show i - 10 < 7 by omega) (by decide) (t_isIn' (n1 e ⟨vp_in_nI (show i - 10 < 7 by omega) (by decide), ?_⟩))
    rw [clI (show i - 10 < 7 by omega) (by decide)]
    exact ⟨hr _ (by omega), h⟩
theorem u2_0 {mt : St} {i j : Nat} {v : Int32} (h : i ≠ j) : u2 mt 0 j v 0 i = mt 0 i := u2_ne (Or.inr h)
theorem R_row {st mt : St} {r : Nat} (h : R st mt) (st' mt' : St) (hs : ∀ j, j ≠ 6 → j ≠ 7 → st' j = st j) (hm : ∀ j, j ≠ 0 → j ≠ 16 → mt' j = mt j) (h0 : ∀ a, a ≠ 29 → mt' 0 a = mt 0 a) (hr : Rrow st' mt') : R st' mt' := by
  obtain ⟨s, t1, t2, t3, t4⟩ := h.2.2.2.2.1
  refine R_parts h (fun j hj => hs j (by omega) (by omega)) (by rw [hs 9 (by decide) (by decide)]) (fun i _ => ?_) (h0 11 (by decide)) (fun i hi => by rw [hs 1 (by decide) (by decide), hm 1 (by decide) (by decide)]; exact h.2.2.2.1 i hi) ⟨s, t1, by rw [hs 4 (by decide) (by decide)]; exact t2, by rw [h0 16 (by decide)]; exact t3, fun i hi => by rw [hs 5 (by decide) (by decide), hm 9 (by decide) (by decide)]; exact t4 i hi⟩ hr
    (by rw [hs 0 (by decide) (by decide)]) (h0 20 (by decide)) (hm 13 (by decide) (by decide)) (by rw [hs 2 (by decide) (by decide)]) (by rw [hs 2 (by decide) (by decide)]) (h0 23 (by decide))
  unfold lvM
  rw [hm 2 (by decide) (by decide), hm 3 (by decide) (by decide), hm 4 (by decide) (by decide), hm 5 (by decide) (by decide), hm 6 (by decide) (by decide), hm 7 (by decide) (by decide), hm 8 (by decide) (by decide), h0 8 (by decide), h0 9 (by decide), h0 10 (by decide)]
theorem R_clear {st mt : St} (h : R st mt) : R (u2 st 6 1 0) (u2 mt 0 29 0) :=
  R_row (r := 0) h _ _ (fun j a _ => u2_off a) (fun j a _ => u2_off a) (fun a ha => u2_0 ha) ⟨0, by decide, u2_same, u2_same, fun i hi => absurd hi (Nat.not_lt_zero i)⟩
theorem sim_clear {st mt : St} (h : R st mt) : w_X8_clear st (fun r st' => w_X9_clear mt (fun r' mt' => r = r' ∧ R st' mt')) := by
  obtain ⟨r, r1, r2, r3, -⟩ := h.2.2.2.2.2.1
  unfold w_X8_clear w_X6_size w_X6_empty w_X9_clear
  exact ⟨r2.trans r3.symm, R_clear h⟩
theorem nI_eqI {a b : Nat} (ha : a < 2147483648) (hb : b < 2147483648) (h : nI a = nI b) : a = b := by
  have := congrArg Int32.toNatClampNeg h
  rwa [nI_clamp (show a < 2 ^ 31 from ha), nI_clamp (show b < 2 ^ 31 from hb)] at this
theorem nJ_lt {a b : Nat} (ha : a < 2147483648) (hb : b < 2147483648) : nI a < nI b ↔ a < b := by
  constructor
  · intro h
    exact Nat.not_le.mp fun q => i_nlt.mpr (nI_le q ha) h
  · intro h
    exact i_nle.mp (nI_ge h hb)
theorem nJ_le {a b : Nat} (ha : a < 2147483648) (hb : b < 2147483648) : nI a ≤ nI b ↔ a ≤ b := by
  constructor
  · intro h
    exact Nat.not_lt.mp fun q => nI_ge q ha h
  · intro h
    exact nI_le h hb
theorem sim_row {st mt : St} (h : R st mt) (x1 : Int32) : w_X8_row x1 st (fun r st' => w_X9_row x1 mt (fun r' mt' => r = r' ∧ R st' mt')) := by
  obtain ⟨r, r1, r2, r3, r4⟩ := h.2.2.2.2.2.1
  have cl : r < 12 → (nI r).toNatClampNeg = r := fun z => clI z (by decide)
  have e12 : ∀ r, r < 12 → (if nI r + 1 < 12 then nI r + 1 else 12) = nI (r + 1) := by decide +kernel
  unfold w_X8_row
  refine s_range ?_
  by_cases e : rangeF x1 0 99 = 0
  · unfold w_X6_isFull
    rw [r2, e]
    by_cases hr : r < 12
    · have q1 : nI r < 12 := (nJ_lt (by omega) (by decide)).mpr hr
      refine y1 q1 (y1 rfl ?_)
      rw [w_X8_row_b23]
      refine s_firstOf (y1 rfl ?_)
      unfold w_X6_add
      rw [r2]
      refine s_put hr (by decide) ?_
      have q2 : u2 st 7 r x1 6 1 = nI r := by rw [u2_off (by decide)]; exact r2
      rw [q2, e12 r hr, u2_same]
      unfold w_X9_row
      refine t_bound ?_
      rw [e]
      refine y2 rfl (n2 (by rw [r3]; exact fun z => absurd (nI_eqI (by omega) (by decide) (show nI r = nI 12 from z)) (by omega)) ?_)
      rw [w_X9_row_b24, r3, cl hr]
      refine y1 rfl ⟨vp_in_nI hr (by decide), ?_⟩
      have q3 : u2 mt 16 r x1 0 29 = nI r := by rw [u2_off (by decide)]; exact r3
      rw [q3, u2_same, nI_inc]
      refine ⟨rfl, R_row (r := r + 1) h _ _ (fun j a b => by rw [u2_off a, u2_off b]) (fun j a b => by rw [u2_off a, u2_off b]) (fun a ha => by rw [u2_0 ha, u2_off (by decide)]) ⟨r + 1, by omega, u2_same, u2_same, fun i hi => ?_⟩⟩
      rw [u2_off (show (7 : Nat) ≠ 6 by decide), u2_off (show (16 : Nat) ≠ 0 by decide)]
      by_cases ei : i = r
      · subst ei; rw [u2_same, u2_same]
      · rw [u2_ne (Or.inr ei), u2_ne (Or.inr ei)]; exact r4 i (by omega)
    · have er : r = 12 := by omega
      subst er
      refine n1 (by decide) (n1 (by decide) ?_)
      rw [w_X8_row_b23]
      refine s_firstOf (n1 (by decide) (s_refused rO6 ?_))
      unfold w_X9_row
      refine t_bound ?_
      rw [e]
      refine y2 rfl (y2 r3 ?_)
      rw [w_X9_row_b24]
      exact n1 (by decide) (t_no rO6 ⟨rfl, R_ref h rO6⟩)
  · have fin : ∀ v, w_X8_row_b23 x1 (fun r st' => w_X9_row x1 mt (fun r' mt' => r = r' ∧ R st' mt')) v (rangeF x1 0 99) st := fun v => by
      rw [w_X8_row_b23]
      refine s_firstOf ?_
      rw [f1 e]
      refine n1 e (s_refused (rg_ok e) ?_)
      unfold w_X9_row
      refine t_bound (n2 e ?_)
      rw [w_X9_row_b24]
      exact n1 e (t_no (rg_ok e) ⟨rfl, R_ref h (rg_ok e)⟩)
    unfold w_X6_isFull
    exact ⟨fun _ => y1 rfl (fin 0), fun _ => n1 (by decide) (fin (-6))⟩
theorem R_tell {st mt : St} (h : R st mt) (st' mt' : St) (hs : ∀ j, j ≠ 4 → j ≠ 5 → st' j = st j) (hm : ∀ j, j ≠ 0 → j ≠ 9 → j ≠ 10 → j ≠ 11 → j ≠ 12 → mt' j = mt j) (h0 : ∀ a, a ≠ 16 → a ≠ 17 → a ≠ 18 → mt' 0 a = mt 0 a) (hr : Rtell st' mt') : R st' mt' := by
  obtain ⟨s, t1, t2, t3, t4⟩ := h.2.2.2.2.2.1
  refine R_parts h (fun j hj => hs j (by omega) (by omega)) (by rw [hs 9 (by decide) (by decide)]) (fun i _ => ?_) (h0 11 (by decide) (by decide) (by decide)) (fun i hi => by rw [hs 1 (by decide) (by decide), hm 1 (by decide) (by decide) (by decide) (by decide) (by decide)]; exact h.2.2.2.1 i hi) hr ⟨s, t1, by rw [hs 6 (by decide) (by decide)]; exact t2, by rw [h0 29 (by decide) (by decide) (by decide)]; exact t3, fun i hi => by rw [hs 7 (by decide) (by decide), hm 16 (by decide) (by decide) (by decide) (by decide) (by decide)]; exact t4 i hi⟩
    (by rw [hs 0 (by decide) (by decide)]) (h0 20 (by decide) (by decide) (by decide)) (hm 13 (by decide) (by decide) (by decide) (by decide) (by decide)) (by rw [hs 2 (by decide) (by decide)]) (by rw [hs 2 (by decide) (by decide)]) (h0 23 (by decide) (by decide) (by decide))
  unfold lvM
  rw [hm 2 (by decide) (by decide) (by decide) (by decide) (by decide), hm 3 (by decide) (by decide) (by decide) (by decide) (by decide), hm 4 (by decide) (by decide) (by decide) (by decide) (by decide), hm 5 (by decide) (by decide) (by decide) (by decide) (by decide), hm 6 (by decide) (by decide) (by decide) (by decide) (by decide), hm 7 (by decide) (by decide) (by decide) (by decide) (by decide), hm 8 (by decide) (by decide) (by decide) (by decide) (by decide), h0 8 (by decide) (by decide) (by decide), h0 9 (by decide) (by decide) (by decide), h0 10 (by decide) (by decide) (by decide)]
theorem sim_feed {st mt : St} (h : R st mt) (x1 : Int32) : w_X8_feed x1 st (fun r st' => w_X9_feed x1 mt (fun r' mt' => r = r' ∧ R st' mt')) := by
  obtain ⟨r, r1, r2, r3, r4⟩ := h.2.2.2.2.1
  have cl : r < 96 → (nI r).toNatClampNeg = r := fun z => clI z (by decide)
  have e12 : ∀ r, r < 96 → (if nI r + 1 < 96 then nI r + 1 else 96) = nI (r + 1) := by decide +kernel
  unfold w_X8_feed
  refine s_range ?_
  by_cases e : rangeF x1 0 255 = 0
  · unfold w_X7_isFull
    rw [r2, e]
    by_cases hr : r < 96
    · have q1 : nI r < 96 := (nJ_lt (by omega) (by decide)).mpr hr
      refine y1 q1 (y1 rfl ?_)
      rw [w_X8_feed_b24]
      refine s_firstOf (y1 rfl ?_)
      unfold w_X7_add
      rw [r2]
      refine s_put hr (by decide) ?_
      have q2 : u2 st 5 r x1 4 1 = nI r := by rw [u2_off (by decide)]; exact r2
      rw [q2, e12 r hr, u2_same]
      unfold w_X9_feed
      refine t_bound ?_
      rw [e]
      refine y2 rfl (n2 (by rw [r3]; exact fun z => absurd (nI_eqI (by omega) (by decide) (show nI r = nI 96 from z)) (by omega)) ?_)
      rw [w_X9_feed_b25, r3, cl hr]
      refine y1 rfl ⟨vp_in_nI hr (by decide), ?_⟩
      have q3 : u2 mt 9 r x1 0 16 = nI r := by rw [u2_off (by decide)]; exact r3
      rw [q3, u2_same, nI_inc]
      refine ⟨rfl, R_tell h _ _ (fun j a b => by rw [u2_off a, u2_off b]) (fun j a b _ _ _ => by rw [u2_off a, u2_off b]) (fun a ha _ _ => by rw [u2_0 ha, u2_off (by decide)]) ⟨r + 1, by omega, u2_same, u2_same, fun i hi => ?_⟩⟩
      rw [u2_off (show (5 : Nat) ≠ 4 by decide), u2_off (show (9 : Nat) ≠ 0 by decide)]
      by_cases ei : i = r
      · subst ei; rw [u2_same, u2_same]
      · rw [u2_ne (Or.inr ei), u2_ne (Or.inr ei)]; exact r4 i (by omega)
    · have er : r = 96 := by omega
      subst er
      refine n1 (by decide) (n1 (by decide) ?_)
      rw [w_X8_feed_b24]
      refine s_firstOf (n1 (by decide) (s_refused rO6 ?_))
      unfold w_X9_feed
      refine t_bound ?_
      rw [e]
      refine y2 rfl (y2 r3 ?_)
      rw [w_X9_feed_b25]
      exact n1 (by decide) (t_no rO6 ⟨rfl, R_ref h rO6⟩)
  · have fin : ∀ v, w_X8_feed_b24 x1 (fun r st' => w_X9_feed x1 mt (fun r' mt' => r = r' ∧ R st' mt')) v (rangeF x1 0 255) st := fun v => by
      rw [w_X8_feed_b24]
      refine s_firstOf ?_
      rw [f1 e]
      refine n1 e (s_refused (rg_ok e) ?_)
      unfold w_X9_feed
      refine t_bound (n2 e ?_)
      rw [w_X9_feed_b25]
      exact n1 e (t_no (rg_ok e) ⟨rfl, R_ref h (rg_ok e)⟩)
    unfold w_X7_isFull
    exact ⟨fun _ => y1 rfl (fin 0), fun _ => n1 (by decide) (fin (-6))⟩
def hsS (c : Ct) (p q : Nat) : Int32 := if p = q then 0 else c 4 (hI p q)
theorem x_hateOrSelf {st : St} {p q : Nat} {K : Int32 → St → Prop} (hp : p < 6) (hq : q < 6) (h : K (hsS (cv st 11) p q) st) : w_X3_hateOrSelf (nI p) (nI q) st K := by
  unfold w_X3_hateOrSelf
  unfold hsS at h
  by_cases e : p = q
  · subst e
    rw [if_pos rfl] at h
    exact y2 rfl h
  · rw [if_neg e] at h
    exact n2 (fun z => e (nI_eqI (by omega) (by omega) z)) (x_hateOf hp hq h)
def jgP (n : Nat) (st : St) (p q : Nat) : Bool := decide (n ≤ q) || decide (st 7 q ≠ hsS (cv st 11) p q)
theorem sim_judge {st mt : St} (h : R st mt) (x1 : Int32) : w_X8_judge x1 st (fun r st' => w_X9_judge x1 mt (fun r' mt' => r = r' ∧ R st' mt')) := by
  obtain ⟨n, nL, hm, g, hn, hL, h7, h8, k8, k9⟩ := h.ctx
  obtain ⟨r, r1, r2, r3, r4⟩ := h.2.2.2.2.2.1
  unfold w_X8_judge
  refine s_keeperRef h7 ?_
  by_cases e : isF n x1 = 0
  · rw [nb0 e]
    refine n1 (by decide) (s_refused rO1 ?_)
    unfold w_X9_judge
    exact t_isKeeper k8 (y2 e (t_no rO1 ⟨rfl, R_ref h rO1⟩))
  · rw [nb1 e]
    obtain ⟨p, hp, rfl⟩ := isF_1 (by omega) e
    refine y1 rfl ?_
    unfold w_X3_firstMisjudged
    refine lo_fst (W := fun m q => w_X3_firstMisjudged_L9 (nI p) _ m (nI q) st) (P := jgP n st p) (Q := fun v => w_X6_empty st (fun st33 => w_X9_judge (nI p) mt (fun r' mt' => v = r' ∧ R st33 mt'))) (Nat.zero_le r) (fun hQ => ⟨1, ?_⟩) (fun q _ hq hP hQ => ⟨1, ?_⟩) (fun m q _ hq hP hw => ?_) ?_
    · rw [w_X3_firstMisjudged_L9, w_X3_firstMisjudged_L9q]
      unfold w_X6_size
      rw [r2]
      exact y1 (nI_le (Nat.le_refl r) (by omega)) hQ
    · rw [w_X3_firstMisjudged_L9, w_X3_firstMisjudged_L9q]
      unfold w_X6_size
      rw [r2]
      refine n1 (nI_ge hq (by omega)) (s_hasKeeper h7 ?_)
      by_cases e2 : q < n
      · rw [isF_in (by omega) e2]
        refine n1 (by decide) ?_
        unfold w_X6_number
        refine s_at (by omega) (by decide) (x_hateOrSelf (by omega) (by omega) (n1 (fun z => ?_) hQ))
        rw [jgP, z] at hP
        simp [Nat.not_le.mpr e2] at hP
      · have : isF n (nI q) = 0 := by
          unfold isF
          rw [if_neg (n_lt0 (show q < 2147483648 by omega)), if_pos (nI_le (by omega) (by omega))]
        rw [this]
        exact y1 rfl hQ
    · rw [w_X3_firstMisjudged_L9, w_X3_firstMisjudged_L9q]
      unfold w_X6_size
      rw [r2]
      have e2 : q < n := by
        have : decide (n ≤ q) = false := by
          cases z : decide (n ≤ q) with
          | true => rw [jgP, z] at hP; simp at hP
          | false => rfl
        exact Nat.not_le.mp (of_decide_eq_false this)
      have e3 : st 7 q = hsS (cv st 11) p q := by
        rw [jgP, decide_eq_false (Nat.not_le.mpr e2), Bool.false_or] at hP
        exact Classical.not_not.mp (of_decide_eq_false hP)
      refine n1 (nI_ge hq (by omega)) (s_hasKeeper h7 ?_)
      rw [isF_in (by omega) e2]
      refine n1 (by decide) ?_
      unfold w_X6_number
      refine s_at (by omega) (by decide) (x_hateOrSelf (by omega) (by omega) (y1 e3 ?_))
      rw [nI_inc]
      exact hw
    · unfold w_X6_empty w_X9_judge
      refine t_isKeeper k8 (n2 e ?_)
      rw [r3]
      have k8' : u2 mt 0 29 0 0 8 = nI n := by rw [u2_0 (by decide)]; exact k8
      have ok : R (u2 st 6 1 0) (u2 mt 0 29 0) := R_clear h
      have hj : ∀ q, q < n → q < r → (u2 mt 0 29 0) 16 q = st 7 q := fun q _ hq => by rw [u2_off (by decide)]; exact (r4 q hq).symm
      refine lo_fst (W := fun m q => w_X9_judge_L26 (nI p) _ m (nI r) (nI q) (u2 mt 0 29 0)) (P := jgP n st p) (Q := fun v => fstG (jgP n st p) (r - 0) 0 = v ∧ R (u2 st 6 1 0) (u2 mt 0 29 0)) (Nat.zero_le r) (fun hQ => ⟨1, ?_⟩) (fun q _ hq hP hQ => ⟨1, ?_⟩) (fun m q _ hq hP hw => ?_) ⟨rfl, ok⟩
      · rw [w_X9_judge_L26, w_X9_judge_L26q]
        exact y1 (nI_le (Nat.le_refl r) (by omega)) hQ
      · rw [w_X9_judge_L26, w_X9_judge_L26q, k8']
        refine n1 (nI_ge hq (by omega)) ?_
        by_cases e2 : q < n
        · have ne : st 7 q ≠ hsS (cv st 11) p q := by
            rw [jgP, decide_eq_false (Nat.not_le.mpr e2), Bool.false_or] at hP
            exact of_decide_eq_true hP
          refine n1 (nI_ge e2 (by omega)) ?_
          by_cases ep : p = q
          · subst ep
            refine y2 rfl ?_
            rw [w_X9_judge_b54, clI (show p < 12 by omega) (by decide), hj p e2 hq]
            refine ⟨vp_in_nI (by omega) (by decide), n1 (fun z => ne ?_) hQ⟩
            rw [← z, hsS, if_pos rfl]
          · refine n2 (fun z => ep (nI_eqI (by omega) (by omega) z.symm)) (t_hateOf (by omega) (by omega) ?_)
            rw [w_X9_judge_b54, clI (show q < 12 by omega) (by decide), hj q e2 hq, u2_off (by decide)]
            refine ⟨vp_in_nI (by omega) (by decide), n1 (fun z => ne ?_) hQ⟩
            rw [← z, hsS, if_neg ep, hm.hate hp e2 ep]
        · exact y1 (nI_le (by omega) (by omega)) hQ
      · rw [w_X9_judge_L26, w_X9_judge_L26q, k8']
        have e2 : q < n := by
          have : decide (n ≤ q) = false := by
            cases z : decide (n ≤ q) with
            | true => rw [jgP, z] at hP; simp at hP
            | false => rfl
          exact Nat.not_le.mp (of_decide_eq_false this)
        have e3 : st 7 q = hsS (cv st 11) p q := by
          rw [jgP, decide_eq_false (Nat.not_le.mpr e2), Bool.false_or] at hP
          exact Classical.not_not.mp (of_decide_eq_false hP)
        refine n1 (nI_ge hq (by omega)) (n1 (nI_ge e2 (by omega)) ?_)
        by_cases ep : p = q
        · subst ep
          refine y2 rfl ?_
          rw [w_X9_judge_b54, clI (show p < 12 by omega) (by decide), hj p e2 hq, nI_inc]
          refine ⟨vp_in_nI (by omega) (by decide), y1 ?_ hw⟩
          rw [e3, hsS, if_pos rfl]
        · refine n2 (fun z => ep (nI_eqI (by omega) (by omega) z.symm)) (t_hateOf (by omega) (by omega) ?_)
          rw [w_X9_judge_b54, clI (show q < 12 by omega) (by decide), hj q e2 hq, u2_off (by decide), nI_inc]
          refine ⟨vp_in_nI (by omega) (by decide), y1 ?_ hw⟩
          rw [e3, hsS, if_neg ep, hm.hate hp e2 ep]
