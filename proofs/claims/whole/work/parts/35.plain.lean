/-! pure part: what is asked and told plainly -/
theorem y1 {p A B : Prop} (h : p) (a : A) : (p → A) ∧ (¬ p → B) := ⟨fun _ => a, fun z => absurd h z⟩
theorem n1 {p A B : Prop} (h : ¬ p) (b : B) : (p → A) ∧ (¬ p → B) := ⟨fun z => absurd z h, fun _ => b⟩
theorem y2 {p A B : Prop} (h : p) (a : A) : (¬ p → B) ∧ (p → A) := ⟨fun z => absurd h z, fun _ => a⟩
theorem n2 {p A B : Prop} (h : ¬ p) (b : B) : (¬ p → B) ∧ (p → A) := ⟨fun _ => b, fun z => absurd z h⟩
theorem R.ctx {st mt : St} (h : R st mt) : ∃ n nL, RM n nL mt (cv st 11) ∧ gC n nL (cv st 11) ∧ n ≤ 6 ∧ nL ≤ 6 ∧ st 11 7 = nI n ∧ st 11 8 = nI nL ∧ mt 0 8 = nI n ∧ mt 0 9 = nI nL := by
  obtain ⟨n, nL, h1, h2⟩ := h.get
  exact ⟨n, nL, h1, h2, h1.1.1, h1.1.2.1, h1.1.2.2.1, h1.1.2.2.2.1, h1.2.2.1, h1.2.2.2.1⟩
theorem tn1 : ∀ t, t < 4 → nI t ≠ -1 := by decide
theorem RM.town {n nL p : Nat} {mt : St} {c : Ct} (h : RM n nL mt c) (g : gC n nL c) (hp : p < n) : mt 4 p = c 3 p := by
  obtain ⟨t, h1, h2⟩ := g.2.1 p hp
  exact (h.2.2.2.2.2.1 p hp).2.2.2 (by rw [h2]; exact tn1 t h1)
theorem RM.hate {n nL p q : Nat} {mt : St} {c : Ct} (h : RM n nL mt c) (hp : p < n) (hq : q < n) (hpq : p ≠ q) : mt 5 (6 * p + q) = c 4 (hI p q) := by
  have r := h.2.2.2.2.2.2.1
  rcases Nat.lt_or_gt_of_ne hpq with z | z
  · exact (r p q z hq).1
  · rw [(r q p z hp).2]
    congr 1
    unfold hI; omega
def inF (x a b : Int32) : Int32 := if x < a then 0 else if b < x then 0 else 1
theorem t_isIn' {v a b : Int32} {mt : St} {K : Int32 → St → Prop} (h : K (inF v a b) mt) : w_X9_isIn v a b mt K := t_isIn h
theorem ch_in {x g : Int32} (h : ¬ inF x 0 g = 0) : choiceF x g = 0 := by
  unfold inF at h
  unfold choiceF
  by_cases h1 : x < 0
  · rw [if_pos h1] at h; exact absurd rfl h
  · by_cases h2 : g < x
    · rw [if_neg h1, if_pos h2] at h; exact absurd rfl h
    · rw [if_neg h1, if_neg h2]
theorem ch_out {x g : Int32} (h : inF x 0 g = 0) : choiceF x g = -2 := by
  unfold inF at h
  unfold choiceF
  by_cases h1 : x < 0
  · rw [if_pos h1]
  · by_cases h2 : g < x
    · rw [if_neg h1, if_pos h2]
    · rw [if_neg h1, if_neg h2] at h; exact absurd h (by decide)
theorem in_nI {x : Int32} {g : Nat} (hg : g < 2147483648) (h : ¬ inF x 0 (nI g) = 0) : ∃ i, i ≤ g ∧ x = nI i := by
  unfold inF at h
  by_cases h1 : x < 0
  · rw [if_pos h1] at h; exact absurd rfl h
  · by_cases h2 : nI g < x
    · rw [if_neg h1, if_pos h2] at h; exact absurd rfl h
    · obtain ⟨j, hj, rfl⟩ := nI_of h1
      refine ⟨j, Nat.not_lt.mp fun q => h2 ?_, rfl⟩
      exact i_nle.mp (nI_ge q hj)
theorem rg_cases (x a b : Int32) : rangeF x a b = 0 ∨ rangeF x a b = -4 ∨ rangeF x a b = -6 := by
  unfold rangeF
  split
  · exact Or.inr (Or.inl rfl)
  · split
    · exact Or.inr (Or.inr rfl)
    · exact Or.inl rfl
theorem rg_nI {x : Int32} {a b : Nat} (ha : a < 2147483648) (hb : b < 2147483648) (h : rangeF x (nI a) (nI b) = 0) : ∃ i, a ≤ i ∧ i ≤ b ∧ x = nI i := by
  unfold rangeF at h
  by_cases h1 : x < nI a
  · rw [if_pos h1] at h; exact absurd h (by decide)
  · by_cases h2 : nI b < x
    · rw [if_neg h1, if_pos h2] at h; exact absurd h (by decide)
    · have h0 : ¬ x < 0 := by
        intro z
        have z1 := Int32.lt_iff_toInt_lt.mp z
        have z2 := Int32.le_iff_toInt_le.mp (i_nlt.mp h1)
        have z3 := Int32.le_iff_toInt_le.mp (n_le0 ha)
        omega
      obtain ⟨j, hj, rfl⟩ := nI_of h0
      refine ⟨j, Nat.not_lt.mp fun q => h1 ?_, Nat.not_lt.mp fun q => h2 ?_, rfl⟩
      · exact i_nle.mp (nI_ge q ha)
      · exact i_nle.mp (nI_ge q hj)
theorem rg_ok {x a b : Int32} (h : ¬ rangeF x a b = 0) : rOk (rangeF x a b) := by
  rcases rg_cases x a b with e | e | e
  · exact absurd e h
  · rw [e]; exact Or.inr (Or.inr (Or.inr (Or.inl rfl)))
  · rw [e]; exact Or.inr (Or.inr (Or.inr (Or.inr rfl)))
theorem rO1 : rOk (-1) := Or.inl rfl
theorem rO2 : rOk (-2) := Or.inr (Or.inl rfl)
theorem rO3 : rOk (-3) := Or.inr (Or.inr (Or.inl rfl))
theorem rO4 : rOk (-4) := Or.inr (Or.inr (Or.inr (Or.inl rfl)))
theorem rO6 : rOk (-6) := Or.inr (Or.inr (Or.inr (Or.inr rfl)))
theorem nb0 {r : Int32} (h : r = 0) : nbF r = -1 := if_pos h
theorem nb1 {r : Int32} (h : ¬ r = 0) : nbF r = 0 := if_neg h
theorem f0 (b c : Int32) : firstF 0 b c = if b = 0 then c else b := rfl
theorem f1 {a : Int32} (h : ¬ a = 0) (b c : Int32) : firstF a b c = a := if_neg h
theorem f00 (c : Int32) : firstF 0 0 c = c := rfl
theorem f01 {b : Int32} (h : ¬ b = 0) (c : Int32) : firstF 0 b c = b := if_neg h
theorem rOk.ne {r : Int32} (hr : rOk r) : ¬ r = 0 := by
  intro e
  subst e
  exact absurd hr (show ¬ ((0 : Int32) = -1 ∨ (0 : Int32) = -2 ∨ (0 : Int32) = -3 ∨ (0 : Int32) = -4 ∨ (0 : Int32) = -6) by decide)
theorem sim_keeperOf {st mt : St} (h : R st mt) (x1 x2 : Int32) : w_X8_keeperOf x1 x2 st (fun r st' => w_X9_keeperOf x1 x2 mt (fun r' mt' => r = r' ∧ R st' mt')) := by
  obtain ⟨n, nL, hm, g, hn, hL, h7, h8, k8, k9⟩ := h.ctx
  unfold w_X8_keeperOf
  refine s_keeperRef h7 (s_choice (s_firstOf ?_))
  by_cases e1 : isF n x1 = 0
  · rw [nb0 e1, f1 (by decide)]
    refine n1 (by decide) (s_refused rO1 ?_)
    unfold w_X9_keeperOf
    exact t_isKeeper k8 (y2 e1 (t_no rO1 ⟨rfl, R_ref h rO1⟩))
  · obtain ⟨p, hp, rfl⟩ := isF_1 (by omega) e1
    rw [nb1 e1, f0]
    obtain ⟨a1, a2, a3, -⟩ := hm.2.2.2.2.2.1 p hp
    have a4 := hm.town g hp
    have cl : (nI p).toNatClampNeg = p := clI (show p < 6 by omega) (by decide)
    have vi : vp_in (nI p) 6 := vp_in_nI (by omega) (by decide)
    have hx : ∀ K : Int32 → St → Prop, (x2 = 0 → K (cv st 11 1 p) mt) → (x2 = 1 → K (cv st 11 2 p) mt) → (x2 = 2 → K (cv st 11 3 p) mt) → (x2 = 3 → K (fadeF (cv st 11) p) mt) → (x2 = 4 → K (stirF (cv st 11) p) mt) → (x2 = 5 → K (wageF (cv st 11) p) mt) → (inF x2 0 5 = 0 → K (-2) (refS mt (-2))) → w_X9_keeperOf (nI p) x2 mt K := by
      intro K q0 q1 q2 q3 q4 q5 q6
      unfold w_X9_keeperOf
      rw [cl]
      refine t_isKeeper k8 (n2 e1 ⟨fun z => ⟨vi, a1 ▸ q0 z⟩, fun z0 => ⟨fun z => ⟨vi, a2 ▸ q1 z⟩, fun z1 => ⟨fun z => ⟨vi, a4 ▸ q2 z⟩, fun z2 => ⟨fun z => t_fadesOf (by omega) ?_, fun z3 => ⟨fun z => t_stirsOf (by omega) ?_, fun z4 => ⟨fun z => t_payOf (by omega) ?_, fun z5 => t_no rO2 (q6 ?_)⟩⟩⟩⟩⟩⟩)
      · rw [a1, a2]; exact q3 z
      · rw [a1, a2]; exact q4 z
      · rw [a1, a2]; exact q5 z
      · by_cases e : inF x2 0 5 = 0
        · exact e
        · obtain ⟨i, hi, rfl⟩ := in_nI (g := 5) (by decide) e
          have : i = 0 ∨ i = 1 ∨ i = 2 ∨ i = 3 ∨ i = 4 ∨ i = 5 := by omega
          rcases this with rfl | rfl | rfl | rfl | rfl | rfl
          · exact absurd rfl z0
          · exact absurd rfl z1
          · exact absurd rfl z2
          · exact absurd rfl z3
          · exact absurd rfl z4
          · exact absurd rfl z5
    by_cases e2 : inF x2 0 5 = 0
    · rw [ch_out e2, if_neg (by decide)]
      have ni : ∀ i, i ≤ 5 → ¬ x2 = nI i := fun i hi z => by
        subst z
        exact (show ∀ i, i ≤ 5 → ¬ inF (nI i) 0 5 = 0 by decide) i hi e2
      refine n1 (by decide) (s_refused rO2 (hx _ (fun z => absurd z (ni 0 (by decide))) (fun z => absurd z (ni 1 (by decide))) (fun z => absurd z (ni 2 (by decide))) (fun z => absurd z (ni 3 (by decide))) (fun z => absurd z (ni 4 (by decide))) (fun z => absurd z (ni 5 (by decide))) fun _ => ⟨rfl, R_ref h rO2⟩))
    · rw [ch_in e2, if_pos rfl]
      obtain ⟨i, hi, rfl⟩ := in_nI (g := 5) (by decide) e2
      refine y1 rfl ⟨fun z0 => x_kindOf (by omega) ?_, fun z0 => ⟨fun z1 => x_figureOf (by omega) ?_, fun z1 => ⟨fun z2 => x_townOf (by omega) ?_, fun z2 => ⟨fun z3 => x_fadeOf (by omega) ?_, fun z3 => ⟨fun z4 => x_stirOf (by omega) ?_, fun z4 => x_wageOf (by omega) ?_⟩⟩⟩⟩⟩
      · rw [z0]; rw [z0] at hx; exact hx _ (fun _ => ⟨rfl, h⟩) (fun z => absurd z (by decide)) (fun z => absurd z (by decide)) (fun z => absurd z (by decide)) (fun z => absurd z (by decide)) (fun z => absurd z (by decide)) (fun z => absurd z (by decide))
      · rw [z1]; rw [z1] at hx; exact hx _ (fun z => absurd z (by decide)) (fun _ => ⟨rfl, h⟩) (fun z => absurd z (by decide)) (fun z => absurd z (by decide)) (fun z => absurd z (by decide)) (fun z => absurd z (by decide)) (fun z => absurd z (by decide))
      · rw [z2]; rw [z2] at hx; exact hx _ (fun z => absurd z (by decide)) (fun z => absurd z (by decide)) (fun _ => ⟨rfl, h⟩) (fun z => absurd z (by decide)) (fun z => absurd z (by decide)) (fun z => absurd z (by decide)) (fun z => absurd z (by decide))
      · rw [z3]; rw [z3] at hx; exact hx _ (fun z => absurd z (by decide)) (fun z => absurd z (by decide)) (fun z => absurd z (by decide)) (fun _ => ⟨rfl, h⟩) (fun z => absurd z (by decide)) (fun z => absurd z (by decide)) (fun z => absurd z (by decide))
      · rw [z4]; rw [z4] at hx; exact hx _ (fun z => absurd z (by decide)) (fun z => absurd z (by decide)) (fun z => absurd z (by decide)) (fun z => absurd z (by decide)) (fun _ => ⟨rfl, h⟩) (fun z => absurd z (by decide)) (fun z => absurd z (by decide))
      · refine hx _ (fun z => absurd z z0) (fun z => absurd z z1) (fun z => absurd z z2) (fun z => absurd z z3) (fun z => absurd z z4) (fun _ => ⟨rfl, h⟩) (fun z => absurd z e2)
theorem sim_letterOf {st mt : St} (h : R st mt) (x1 x2 : Int32) : w_X8_letterOf x1 x2 st (fun r st' => w_X9_letterOf x1 x2 mt (fun r' mt' => r = r' ∧ R st' mt')) := by
  obtain ⟨n, nL, hm, g, hn, hL, h7, h8, k8, k9⟩ := h.ctx
  unfold w_X8_letterOf
  refine s_letterRef h8 (s_choice (s_firstOf ?_))
  by_cases e1 : isF nL x1 = 0
  · rw [nb0 e1, f1 (by decide)]
    refine n1 (by decide) (s_refused rO1 ?_)
    unfold w_X9_letterOf
    exact t_isLetter k9 (y2 e1 (t_no rO1 ⟨rfl, R_ref h rO1⟩))
  · obtain ⟨l, hl, rfl⟩ := isF_1 (by omega) e1
    rw [nb1 e1, f0]
    obtain ⟨a1, a2, a3, a4⟩ := hm.2.2.2.2.2.2.2 l hl
    have cl : (nI l).toNatClampNeg = l := clI (show l < 6 by omega) (by decide)
    have vi : vp_in (nI l) 6 := vp_in_nI (by omega) (by decide)
    have hx : ∀ K : Int32 → St → Prop, (x2 = 0 → K (cv st 11 5 l) mt) → (x2 = 1 → K (cv st 11 6 l) mt) → (x2 = 2 → K (if (ob (cv st 11)).testBit l then 1 else 0) mt) → (x2 = 3 → K (oI (openerF (cv st 11) n l)) mt) → (inF x2 0 3 = 0 → K (-2) (refS mt (-2))) → w_X9_letterOf (nI l) x2 mt K := by
      intro K q0 q1 q2 q3 q6
      unfold w_X9_letterOf
      rw [cl]
      refine t_isLetter k9 (n2 e1 ⟨fun z => ⟨vi, a1 ▸ q0 z⟩, fun z0 => ⟨fun z => ⟨vi, a2 ▸ q1 z⟩, fun z1 => ⟨fun z => ⟨vi, a4 ▸ q2 z⟩, fun z2 => ⟨fun z => ⟨vi, vi, t_opensAt hm (by rw [a2]; exact a3) ?_⟩, fun z3 => t_no rO2 (q6 ?_)⟩⟩⟩⟩)
      · rw [a1, a2]; exact q3 z
      · by_cases e : inF x2 0 3 = 0
        · exact e
        · obtain ⟨i, hi, rfl⟩ := in_nI (g := 3) (by decide) e
          have : i = 0 ∨ i = 1 ∨ i = 2 ∨ i = 3 := by omega
          rcases this with rfl | rfl | rfl | rfl
          · exact absurd rfl z0
          · exact absurd rfl z1
          · exact absurd rfl z2
          · exact absurd rfl z3
    by_cases e2 : inF x2 0 3 = 0
    · rw [ch_out e2, if_neg (by decide)]
      have ni : ∀ i, i ≤ 3 → ¬ x2 = nI i := fun i hi z => by
        subst z
        exact (show ∀ i, i ≤ 3 → ¬ inF (nI i) 0 3 = 0 by decide) i hi e2
      refine n1 (by decide) (s_refused rO2 (hx _ (fun z => absurd z (ni 0 (by decide))) (fun z => absurd z (ni 1 (by decide))) (fun z => absurd z (ni 2 (by decide))) (fun z => absurd z (ni 3 (by decide))) fun _ => ⟨rfl, R_ref h rO2⟩))
    · rw [ch_in e2, if_pos rfl]
      obtain ⟨i, hi, rfl⟩ := in_nI (g := 3) (by decide) e2
      refine y1 rfl ⟨fun z0 => x_depthOf (by omega) ?_, fun z0 => ⟨fun z1 => x_letterTownOf (by omega) ?_, fun z1 => ⟨fun z2 => x_isOpen hm.1 (by omega) ?_, fun z2 => x_opener hm.1 hl ?_⟩⟩⟩
      · rw [z0]; rw [z0] at hx; exact hx _ (fun _ => ⟨rfl, h⟩) (fun z => absurd z (by decide)) (fun z => absurd z (by decide)) (fun z => absurd z (by decide)) (fun z => absurd z (by decide))
      · rw [z1]; rw [z1] at hx; exact hx _ (fun z => absurd z (by decide)) (fun _ => ⟨rfl, h⟩) (fun z => absurd z (by decide)) (fun z => absurd z (by decide)) (fun z => absurd z (by decide))
      · rw [z2]; rw [z2] at hx
        by_cases b : (ob (cv st 11)).testBit l = true
        · rw [if_pos b]
          refine n1 (by decide) (hx _ (fun z => absurd z (by decide)) (fun z => absurd z (by decide)) (fun _ => ?_) (fun z => absurd z (by decide)) (fun z => absurd z (by decide)))
          rw [if_pos b]; exact ⟨rfl, h⟩
        · rw [if_neg b]
          refine y1 rfl (hx _ (fun z => absurd z (by decide)) (fun z => absurd z (by decide)) (fun _ => ?_) (fun z => absurd z (by decide)) (fun z => absurd z (by decide)))
          rw [if_neg b]; exact ⟨rfl, h⟩
      · exact hx _ (fun z => absurd z z0) (fun z => absurd z z1) (fun z => absurd z z2) (fun _ => ⟨rfl, h⟩) (fun z => absurd z e2)
theorem sim_hate {st mt : St} (h : R st mt) (x1 x2 : Int32) : w_X8_hate x1 x2 st (fun r st' => w_X9_hate x1 x2 mt (fun r' mt' => r = r' ∧ R st' mt')) := by
  obtain ⟨n, nL, hm, g, hn, hL, h7, h8, k8, k9⟩ := h.ctx
  unfold w_X8_hate
  refine s_twoRef h7 ?_
  by_cases e : twF n x1 x2 = 0
  · rw [nb0 e]
    refine n1 (by decide) (s_refused rO1 ?_)
    unfold w_X9_hate
    exact t_areTwo k8 (y1 e (t_no rO1 ⟨rfl, R_ref h rO1⟩))
  · rw [nb1 e]
    obtain ⟨p, q, hp, hq, hpq, rfl, rfl⟩ := twF_1 (by omega) e
    refine y1 rfl (x_hateOf (by omega) (by omega) ?_)
    unfold w_X9_hate
    refine t_areTwo k8 (n1 e (t_hateOf (by omega) (by omega) ⟨(hm.hate hp hq hpq).symm, h⟩))
