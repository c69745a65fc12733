/-! pure part: hates, goes, seals, weeks, back, image, restore -/
theorem at11 {st : St} {P : St → Prop} (h : P (sv st 11 (cv st 11))) : P st := rd (k := 11) h
theorem sv11_hx {st : St} {c : Ct} : ∀ j, (j < 11 ∨ 19 ≤ j) → sv st 11 c j = st j := fun j hj => sv_off (by omega)
theorem KB.rm {n nL b : Nat} {mt s : St} {c : Ct} (k : KB mt s b) (h : RM n nL mt c) : RM n nL s c := RM_off h (fun j p q => k.1 j (by omega) (by omega)) (fun i p q => k.2.1 i (by omega) (by omega) (by omega))
theorem sim_hates {st mt : St} (h : R st mt) (x1 x2 x3 : Int32) : w_X8_hates x1 x2 x3 st (fun r st' => w_X9_hates x1 x2 x3 mt (fun r' mt' => r = r' ∧ R st' mt')) := by
  obtain ⟨n, nL, hm, g, hn, hL, h7, h8, k8, k9⟩ := h.ctx
  unfold w_X8_hates
  refine s_twoRef h7 (s_range (s_firstOf ?_))
  by_cases e1 : twF n x1 x2 = 0
  · rw [nb0 e1, f1 (by decide)]
    refine n1 (by decide) (s_refused rO1 ?_)
    unfold w_X9_hates
    refine t_areTwo k8 (y2 e1 ?_)
    rw [w_X9_hates_b20]
    exact n1 (by decide) (t_no rO1 ⟨rfl, R_ref h rO1⟩)
  · rw [nb1 e1]
    by_cases e2 : rangeF x3 0 99 = 0
    · rw [rg0 e2]
      obtain ⟨p, q, hp, hq, hpq, rfl, rfl⟩ := twF_1 (by omega) e1
      obtain ⟨v, -, hv, rfl⟩ := rg_nI (a := 0) (b := 99) (by decide) (by decide) e2
      have hv9 := held99 v (by omega)
      refine y1 rfl (rem2 h fun a b ha hb hR e23 => x_hateOf (by omega) (by omega) ?_)
      rw [rm_11 ha]
      refine at11 (P := fun s => w_X1_setHate 11 (nI p) (nI q) (nI v) s _) (s_setHate (by omega) (by omega) ?_)
      rw [rm_11 ha, hv9.1]
      unfold w_X9_hates
      refine t_areTwo k8 (n2 e1 (t_bound ?_))
      rw [e2, w_X9_hates_b20]
      refine y1 rfl (t_keepsBack hb e23 fun s k => t_hateOf (by omega) (by omega) (t_sets (by omega) (by omega) ⟨?_, ?_⟩))
      · exact ((k.rm hm).hate hp hq hpq).symm
      · have c' : cv (sv (rmX st a b) 11 (u2 (cv st 11) 4 (hI p q) (nI v))) 11 = u2 (cv st 11) 4 (hI p q) (nI v) := cv_sv (nC_u2 nC_cv (by decide) _ _)
        exact R_set (hR s k) sv11_hx (by rw [c']; exact RM_sets (k.rm hm) hp hq hpq hv9.2.1 hv9.2.2) (by rw [c']; exact gC_hate g (by omega) (by omega)) (fun a _ _ _ _ _ _ _ => by rw [ef_sets 0 (by decide)]) (fun j p q r => ef_sets j (by omega))
    · rw [f01 e2]
      refine n1 e2 (s_refused (rg_ok e2) ?_)
      unfold w_X9_hates
      refine t_areTwo k8 (n2 e1 (t_bound ?_))
      rw [w_X9_hates_b20]
      exact n1 e2 (t_no (rg_ok e2) ⟨rfl, R_ref h (rg_ok e2)⟩)
theorem sim_goes {st mt : St} (h : R st mt) (x1 x2 : Int32) : w_X8_goes x1 x2 st (fun r st' => w_X9_goes x1 x2 mt (fun r' mt' => r = r' ∧ R st' mt')) := by
  obtain ⟨n, nL, hm, g, hn, hL, h7, h8, k8, k9⟩ := h.ctx
  unfold w_X8_goes
  refine s_keeperRef h7 (s_townRef (s_firstOf ?_))
  by_cases e1 : isF n x1 = 0
  · rw [nb0 e1, f1 (by decide)]
    refine n1 (by decide) (s_refused rO1 ?_)
    unfold w_X9_goes
    refine t_isKeeper k8 (y1 e1 ?_)
    rw [w_X9_goes_b15]
    exact t_no rO1 ⟨rfl, R_ref h rO1⟩
  · rw [nb1 e1]
    by_cases e2 : townF x2 = 0
    · rw [nb0 e2, f01 (by decide)]
      refine n1 (by decide) (s_refused rO1 ?_)
      unfold w_X9_goes
      refine t_isKeeper k8 (n1 e1 (t_isTown (y2 e2 ?_)))
      rw [w_X9_goes_b15]
      exact t_no rO1 ⟨rfl, R_ref h rO1⟩
    · rw [nb1 e2, f00]
      obtain ⟨p, hp, rfl⟩ := isF_1 (by omega) e1
      obtain ⟨t, ht, rfl⟩ := town_nI e2
      refine y1 rfl (rem2 h fun a b ha hb hR e23 => x_townOf (by omega) ?_)
      rw [rm_11 ha]
      refine at11 (P := fun s => w_X1_move 11 (nI p) (nI t) s _) (m_move (by omega) ?_)
      rw [rm_11 ha]
      unfold w_X9_goes
      refine t_isKeeper k8 (n1 e1 (t_isTown (n2 e2 (t_keepsBack hb e23 fun s k => ?_))))
      rw [clI (show p < 6 by omega) (by decide), (k.rm hm).town g hp]
      have c' : cv (sv (rmX st a b) 11 (u2 (cv st 11) 3 p (nI t))) 11 = u2 (cv st 11) 3 p (nI t) := cv_sv (nC_u2 nC_cv (by decide) _ _)
      refine ⟨vp_in_nI (by omega) (by decide), vp_in_nI (by omega) (by decide), rfl, R_set (hR s k) sv11_hx (by rw [c']; exact RM_town (k.rm hm) ((k.2.1 11 (by decide) (by decide) (by decide)).trans (out0 h)) (tn1 t ht)) (by rw [c']; exact gC_town g (by omega) ht) (fun a _ _ _ _ _ _ _ => by rw [u2_off (by decide)]) (fun j p q r => u2_off (by omega))⟩
theorem xor_bit : ∀ b, b < 64 → ∀ l, l < 6 → nI b ^^^ ((1 : Int32) <<< (nI l &&& 31)) = nI (b ^^^ 2 ^ l) := by decide +kernel
theorem xor_tb {b l j : Nat} : (b ^^^ 2 ^ l).testBit j = (b.testBit j != decide (l = j)) := by
  rw [Nat.testBit_xor, Nat.testBit_two_pow]
theorem xor_lt {b l nL : Nat} (h : b < 2 ^ nL) (hl : l < nL) : b ^^^ 2 ^ l < 2 ^ nL := Nat.xor_lt_two_pow h (Nat.pow_lt_pow_right (by decide) hl)
theorem RM_turn {n nL l : Nat} {mt : St} {c : Ct} (h : RM n nL mt c) (hl : l < nL) : RM n nL (u2 mt 8 l (1 - mt 8 l)) (u2 c 0 9 (c 0 9 ^^^ ((1 : Int32) <<< (nI l &&& 31)))) ∧ ob (u2 c 0 9 (c 0 9 ^^^ ((1 : Int32) <<< (nI l &&& 31)))) = ob c ^^^ 2 ^ l := by
  obtain ⟨g1, g2, g3, g4, g5, g6, g7, g8⟩ := h
  have g1' := g1
  obtain ⟨h1, h2, h3, h4, h5, h6, h7⟩ := g1'
  have hb := p64 h2 h7
  have e9 : u2 c 0 9 (c 0 9 ^^^ ((1 : Int32) <<< (nI l &&& 31))) 0 9 = nI (ob c ^^^ 2 ^ l) := by
    rw [u2_same]
    conv => lhs; rw [h6]
    exact xor_bit _ hb l (by omega)
  have hlt : ob c ^^^ 2 ^ l < 2 ^ nL := xor_lt h7 hl
  have eo : ob (u2 c 0 9 (c 0 9 ^^^ ((1 : Int32) <<< (nI l &&& 31)))) = ob c ^^^ 2 ^ l := ob_of e9 (p64 h2 hlt)
  refine ⟨⟨vC_of h1 h2 (by rw [u2_ne (Or.inr (by decide))]; exact h3) (by rw [u2_ne (Or.inr (by decide))]; exact h4) (fun j hj => by rw [u2_off (by decide)]; exact h5 j hj) ⟨_, hlt, e9⟩, fun p q a b => by rw [u2_off (by decide)]; exact g2 p q a b,
    by rw [u2_off (by decide)]; exact g3, by rw [u2_off (by decide)]; exact g4, by rw [u2_off (by decide), u2_ne (Or.inr (by decide))]; exact g5, fun p hp => ?_, fun p q a b => ?_, fun j hj => ?_⟩, eo⟩
  · rw [u2_off (by decide), u2_off (by decide), u2_off (by decide), u2_off (by decide), u2_off (by decide), u2_off (by decide), u2_off (by decide)]
    exact g6 p hp
  · rw [u2_off (by decide), u2_off (by decide)]
    exact g7 p q a b
  · have gg := g8 j hj
    rw [u2_off (show (6 : Nat) ≠ 8 by decide), u2_off (show (7 : Nat) ≠ 8 by decide), u2_off (show (5 : Nat) ≠ 0 by decide), u2_off (show (6 : Nat) ≠ 0 by decide), eo, xor_tb]
    refine ⟨gg.1, gg.2.1, gg.2.2.1, ?_⟩
    by_cases e : j = l
    · subst e
      rw [u2_same, gg.2.2.2, decide_eq_true rfl]
      cases (ob c).testBit j <;> decide
    · rw [u2_ne (Or.inr e), gg.2.2.2, decide_eq_false (Ne.symm e)]
      cases (ob c).testBit j <;> rfl
theorem gC_open {n nL : Nat} {c : Ct} {v : Int32} (g : gC n nL c) : gC n nL (u2 c 0 9 v) :=
  gC_cg g (zC_u2 g.1 (show 9 < lenC 0 by decide) (fun _ => by decide)) (by rw [u2_off (by decide)]; exact g.2.1) (u2_off (by decide)) (u2_off (by decide)) (by rw [u2_ne (Or.inr (by decide))]; exact g.2.2.2.2)
theorem sim_seals {st mt : St} (h : R st mt) (x1 : Int32) : w_X8_seals x1 st (fun r st' => w_X9_seals x1 mt (fun r' mt' => r = r' ∧ R st' mt')) := by
  obtain ⟨n, nL, hm, g, hn, hL, h7, h8, k8, k9⟩ := h.ctx
  unfold w_X8_seals
  refine s_letterRef h8 ?_
  by_cases e1 : isF nL x1 = 0
  · rw [nb0 e1]
    refine n1 (by decide) (s_refused rO1 ?_)
    unfold w_X9_seals
    exact t_isLetter k9 (y2 e1 (t_no rO1 ⟨rfl, R_ref h rO1⟩))
  · rw [nb1 e1]
    obtain ⟨l, hl, rfl⟩ := isF_1 (by omega) e1
    refine y1 rfl (rem2 h fun a b ha hb hR e23 => ?_)
    have c18 : rmX st a b 11 8 = nI nL := by
      have : cv (rmX st a b) 11 0 8 = cv st 11 0 8 := by rw [rm_11 ha]
      exact this.trans h8
    unfold w_X1_turnSeal
    refine s_hasLetter c18 (n1 e1 ?_)
    have ec : u2 (rmX st a b) 11 9 (rmX st a b 11 9 ^^^ ((1 : Int32) <<< (nI l &&& 31))) = sv (rmX st a b) 11 (u2 (cv st 11) 0 9 (cv st 11 0 9 ^^^ ((1 : Int32) <<< (nI l &&& 31)))) := by
      have e9 : rmX st a b 11 9 = cv st 11 0 9 := by
        have : cv (rmX st a b) 11 0 9 = cv st 11 0 9 := by rw [rm_11 ha]
        exact this
      have e0 : sv (rmX st a b) 11 (cv st 11) = rmX st a b := by
        rw [← rm_11 (b := b) ha]; exact sv_cv
      rw [e9, ← sv_u20, e0]
    rw [ec]
    have c' : cv (sv (rmX st a b) 11 (u2 (cv st 11) 0 9 (cv st 11 0 9 ^^^ ((1 : Int32) <<< (nI l &&& 31))))) 11 = u2 (cv st 11) 0 9 (cv st 11 0 9 ^^^ ((1 : Int32) <<< (nI l &&& 31))) := cv_sv (nC_u2 nC_cv (by decide) _ _)
    obtain ⟨rt, eo⟩ := RM_turn hm hl
    refine m_isOpen rt.1 (by omega) ?_
    rw [eo, xor_tb, decide_eq_true rfl]
    have key : ∀ v : Int32, (1 - mt 8 l) = v → w_X9_seals (nI l) mt (fun r' mt' => v = r' ∧ R (sv (rmX st a b) 11 (u2 (cv st 11) 0 9 (cv st 11 0 9 ^^^ ((1 : Int32) <<< (nI l &&& 31))))) mt') := fun v ev => by
      unfold w_X9_seals
      refine t_isLetter k9 (n2 e1 (t_keepsBack hb e23 fun s k => ?_))
      rw [clI (show l < 6 by omega) (by decide), u2_same]
      have e8 : s 8 l = mt 8 l := by rw [k.1 8 (by decide) (by decide)]
      refine ⟨vp_in_nI (by omega) (by decide), vp_in_nI (by omega) (by decide), vp_in_nI (by omega) (by decide), by rw [e8]; exact ev.symm, R_set (hR s k) sv11_hx (by rw [c']; exact (RM_turn (k.rm hm) hl).1) (by rw [c']; exact gC_open g) (fun a _ _ _ _ _ _ _ => by rw [u2_off (by decide)]) (fun j p q r => u2_off (by omega))⟩
    have a4 := (hm.2.2.2.2.2.2.2 l hl).2.2.2
    cases et : (ob (cv st 11)).testBit l with
    | true =>
      rw [et, if_pos rfl] at a4
      exact y1 rfl (key 0 (by rw [a4]; decide))
    | false =>
      rw [et, if_neg (by decide)] at a4
      exact n1 (by decide) (key 1 (by rw [a4]; decide))
theorem weekF_off {n nL j : Nat} {c : Ct} (h0 : j ≠ 0) (h4 : j ≠ 4) (h7 : j ≠ 7) : (weekF n nL c).2 j = c j :=
  fr_inv (fun _ (s : Int32 × Ct) => s.2 j = c j) (stepL n) (Nat.zero_le nL) (s0 := (0, hatesF n (u2 c 0 10 (c 0 10 + 1)))) (by
    show hatesF n (u2 c 0 10 (c 0 10 + 1)) j = c j
    rw [hatesF_off h4, u2_off h0]) (fun l s _ _ e => by rw [stepL_off h0 h4 h7]; exact e)
theorem weekF_10 {n nL : Nat} {c : Ct} : (weekF n nL c).2 0 10 = c 0 10 + 1 :=
  fr_inv (fun _ (s : Int32 × Ct) => s.2 0 10 = c 0 10 + 1) (stepL n) (Nat.zero_le nL) (s0 := (0, hatesF n (u2 c 0 10 (c 0 10 + 1)))) (by
    show hatesF n (u2 c 0 10 (c 0 10 + 1)) 0 10 = c 0 10 + 1
    rw [hatesF_off (by decide), u2_same]) (fun l s _ _ e => by rw [stepL_0 (by decide)]; exact e)
theorem gC_weeks {n nL w i : Nat} {c : Ct} (hn : n ≤ 6) (hL : nL ≤ 6) (g : gC n nL c) (hz : nC c) (e : c 0 10 = nI w) (hw : w + i ≤ 999) : gC n nL (weeksF n nL i c) := by
  have off : ∀ j, j ≠ 0 → j ≠ 4 → j ≠ 7 → weeksF n nL i c j = c j := fun j a b d => fr_inv (fun _ (x : Ct) => x j = c j) _ (Nat.zero_le i) rfl fun _ s _ _ e => by rw [weekF_off a b d]; exact e
  have w10 : weeksF n nL i c 0 10 = nI (w + i) := fr_inv (fun k (x : Ct) => x 0 10 = nI (w + k)) _ (Nat.zero_le i) e fun k s _ _ e => by rw [weekF_10, e, nI_inc]; rfl
  exact gC_cg g (zn_weeks hn hL ⟨g.1, hz⟩).1 (by rw [off 3 (by decide) (by decide) (by decide)]; exact g.2.1) (off 5 (by decide) (by decide) (by decide)) (off 6 (by decide) (by decide) (by decide)) ⟨w + i, hw, w10⟩
theorem sim_weeks {st mt : St} (h : R st mt) (x1 : Int32) : w_X8_weeks x1 st (fun r st' => w_X9_weeks x1 mt (fun r' mt' => r = r' ∧ R st' mt')) := by
  obtain ⟨n, nL, hm, g, hn, hL, h7, h8, k8, k9⟩ := h.ctx
  obtain ⟨w, hw, ew⟩ := g.2.2.2.2
  have e10 : st 11 10 = nI w := ew
  have m10 : mt 0 10 = nI w := hm.2.2.2.2.1.trans ew
  unfold w_X8_weeks
  refine s_range ?_
  unfold w_X1_weekNow
  rw [e10]
  by_cases e1 : rangeF x1 1 60 = 0
  · rw [e1]
    obtain ⟨i, hi1, hi, rfl⟩ := rg_nI (a := 1) (b := 60) (by decide) (by decide) e1
    have es : (999 : Int32) - nI w = nI (999 - w) := nI_sub' (a := 999) (by omega)
    have ea : nI w + nI i = nI (w + i) := nI_add w i
    rw [es]
    by_cases e2 : w + i ≤ 999
    · refine y1 (nI_le (show i ≤ 999 - w by omega) (by omega)) ?_
      rw [w_X8_weeks_b28]
      refine s_firstOf (y1 rfl (rem2 h fun a b ha hb hR e23 => ?_))
      have v11 : vC n nL (cv (rmX st a b) 11) := by rw [rm_11 ha]; exact hm.1
      refine at11 (P := fun s => w_X1_passWeeks 11 (nI i) s _) (s_passWeeks (by omega) v11 ?_)
      rw [rm_11 ha]
      have c' : cv (sv (rmX st a b) 11 (weeksF n nL i (cv st 11))) 11 = weeksF n nL i (cv st 11) := cv_sv (zn_weeks hn hL ⟨g.1, nC_cv⟩).2
      unfold w_X9_weeks
      refine t_bound ?_
      rw [e1, m10, ea]
      refine y2 rfl (y1 (nI_le e2 (by decide)) ?_)
      rw [w_X9_weeks_b27]
      refine y1 rfl (t_keepsBack hb e23 fun s k => t_goesOn (by omega) (k.rm hm) fun s1 q1 q2 => t_openOnes q1 (t_bits (by have := p64 q1.1.2.1 q1.1.2.2.2.2.2.2; omega) ⟨rfl, R_set (hR s k) sv11_hx (by rw [c']; exact q1) (by rw [c']; exact gC_weeks hn hL g nC_cv ew e2) (fun a p1 p2 p3 p4 p5 p6 p7 => q2.2 a p3 p6) (fun j p1 p2 p3 => q2.1 j p1 (by omega) (by omega) p3)⟩))
    · refine n1 (nI_ge (show 999 - w < i by omega) (by omega)) ?_
      rw [w_X8_weeks_b28]
      refine s_firstOf (n1 (by decide) (s_refused rO6 ?_))
      unfold w_X9_weeks
      refine t_bound ?_
      rw [e1, m10, ea]
      refine y2 rfl (n1 (nI_ge (show 999 < w + i by omega) (by omega)) ?_)
      rw [w_X9_weeks_b27]
      exact n1 (by decide) (t_no rO6 ⟨rfl, R_ref h rO6⟩)
  · have fin : ∀ v, w_X8_weeks_b28 x1 (fun r st' => w_X9_weeks x1 mt (fun r' mt' => r = r' ∧ R st' mt')) v (rangeF x1 1 60) st := fun v => by
      rw [w_X8_weeks_b28]
      refine s_firstOf ?_
      rw [f1 e1]
      refine n1 e1 (s_refused (rg_ok e1) ?_)
      unfold w_X9_weeks
      refine t_bound (n2 e1 ?_)
      rw [w_X9_weeks_b27]
      exact n1 e1 (t_no (rg_ok e1) ⟨rfl, R_ref h (rg_ok e1)⟩)
    exact ⟨fun _ => fin 0, fun _ => fin (-6)⟩
theorem sim_back {st mt : St} (h : R st mt) : w_X8_back st (fun r st' => w_X9_back mt (fun r' mt' => r = r' ∧ R st' mt')) := by
  have h' := h
  obtain ⟨h1, h2, h3, h4, h5, h6, h7, ⟨a, b, m1, m2, m3, m4, m5, m6⟩⟩ := h'
  unfold w_X8_back w_X5_size
  rw [m4]
  by_cases e : b = 0
  · subst e
    refine y2 rfl (s_refused rO3 ?_)
    unfold w_X9_back
    exact y2 m5 (t_no rO3 ⟨rfl, R_ref h rO3⟩)
  · have nb : ¬ nI b = 0 := fun z => e ((nI_inj0 (by omega)).mp z)
    refine n2 nb ?_
    unfold w_X5_takeBack
    rw [m3, m8b a m1]
    refine s_country (by omega) ⟨fun z => (by cases z), fun q hq => ?_⟩
    cases hq
    rw [m4]
    refine n1 (fun z => absurd ((nJ_le (b := 0) (by omega) (by decide)).mp z) (by omega)) ?_
    have la : (a + 7) % 8 < 8 := by omega
    refine s_become (by omega) (h2 11 isC_11) (h2 _ (isC_past la)) ?_
    have o2 : ∀ c, sv st 11 c 2 = st 2 := fun c => sv_off (by omega)
    have q2 : u2 (sv st 11 (bec (cv st (35 + 8 * ((a + 7) % 8))))) 2 1 (nI ((a + 7) % 8)) 2 2 = nI b := by
      rw [u2_ne (Or.inr (by decide)), o2]; exact m4
    have e1 : nI b - 1 = nI (b - 1) := nI_sub' (b := 1) (by omega)
    rw [q2, e1]
    show w_X9_back mt (fun r' mt' => (u2 (u2 (sv st 11 (bec (cv st (35 + 8 * ((a + 7) % 8))))) 2 1 (nI ((a + 7) % 8))) 2 2 (nI (b - 1))) 2 2 = r' ∧ R (u2 (u2 (sv st 11 (bec (cv st (35 + 8 * ((a + 7) % 8))))) 2 1 (nI ((a + 7) % 8))) 2 2 (nI (b - 1))) mt')
    rw [u2_same]
    -- the check's side
    unfold w_X9_back
    rw [m5]
    refine n2 nb ?_
    have q3 : u2 mt 0 23 (nI b - 1) 0 23 = nI (b - 1) := by rw [u2_same, e1]
    have q4 : (3 : Int32) + nI (b - 1) = nI (3 + (b - 1)) := n3b (b - 1) (by omega)
    rw [q3, q4]
    refine t_puts (w := 3 + (b - 1)) (by omega) fun s b1 b2 b3 => ?_
    have s23 : s 0 23 = nI (b - 1) := (b3 23 (by decide) (by decide) (by decide) (by decide) (by decide)).trans q3
    have s0 : ∀ x, x ≠ 8 → x ≠ 9 → x ≠ 10 → x ≠ 21 → x ≠ 22 → x ≠ 23 → s 0 x = mt 0 x := fun x y1 y2 y3 y4 y5 y6 => by
      rw [b3 x y1 y2 y3 y4 y5, u2_0 y6]
    have sj : ∀ j, j ≠ 0 → (j < 2 ∨ 8 < j) → s j = mt j := fun j y1 y2 => by rw [b2 j y1 y2, u2_off y1]
    have ep : pI a b (b - 1) = 35 + 8 * ((a + 7) % 8) := by unfold pI; omega
    have rb := m6 (b - 1) (by omega)
    rw [ep] at rb
    have lvs : RB (lvM s) (bec (cv st (35 + 8 * ((a + 7) % 8)))) := (rb.cg fun j hj => by
      rw [b1 j hj, u2_off (by decide)]
      congr 1; omega).bec
    refine ⟨s23.symm, ?_⟩
    have oc : ∀ k, 19 ≤ k → cv (u2 (u2 (sv st 11 (bec (cv st (35 + 8 * ((a + 7) % 8))))) 2 1 (nI ((a + 7) % 8))) 2 2 (nI (b - 1))) k = cv st k := fun k hk => by
      rw [cv_u2 (by omega), cv_u2 (by omega), cv_off (by omega)]
    have o11 : cv (u2 (u2 (sv st 11 (bec (cv st (35 + 8 * ((a + 7) % 8))))) 2 1 (nI ((a + 7) % 8))) 2 2 (nI (b - 1))) 11 = bec (cv st (35 + 8 * ((a + 7) % 8))) := by
      rw [cv_u2 (by omega), cv_u2 (by omega), cv_sv (nC_bec nC_cv)]
    have oj : ∀ j, j ≠ 2 → j < 11 → u2 (u2 (sv st 11 (bec (cv st (35 + 8 * ((a + 7) % 8))))) 2 1 (nI ((a + 7) % 8))) 2 2 (nI (b - 1)) j = st j := fun j y1 y2 => by
      rw [u2_off y1, u2_off y1, sv_off (by omega)]
    refine ⟨⟨by rw [o11]; exact lvs, by rw [s0 11 (by decide) (by decide) (by decide) (by decide) (by decide) (by decide)]; exact h1.2⟩, fun k hk => ?_, by rw [oj 9 (by decide) (by decide)]; exact h3, h4.tr (oj 1 (by decide) (by decide)) (sj 1 (by decide) (by decide)), h5.tr (oj 4 (by decide) (by decide)) (oj 5 (by decide) (by decide)) (s0 16 (by decide) (by decide) (by decide) (by decide) (by decide) (by decide)) (sj 9 (by decide) (by decide)),
      h6.tr (oj 6 (by decide) (by decide)) (oj 7 (by decide) (by decide)) (s0 29 (by decide) (by decide) (by decide) (by decide) (by decide) (by decide)) (sj 16 (by decide) (by decide)), h7.tr (by rw [oj 0 (by decide) (by decide)]) (oc 27 (by decide)) (s0 20 (by decide) (by decide) (by decide) (by decide) (by decide) (by decide)) (fun x _ => by rw [sj 13 (by decide) (by decide)]),
      ⟨(a + 7) % 8, b - 1, la, by omega, ?_, ?_, s23, fun i hi => ?_⟩⟩
    · obtain ⟨i, hi, rfl⟩ := hk
      by_cases e : i = 0
      · subst e
        rw [o11]; exact zC_bec (h2 _ (isC_past la))
      · rw [oc _ (by omega)]; exact h2 _ ⟨i, hi, rfl⟩
    · rw [u2_ne (Or.inr (by decide)), u2_same]
    · rw [u2_same]
    · have ep2 : pI ((a + 7) % 8) (b - 1) i = pI a b i := by unfold pI; omega
      rw [ep2, oc _ (by have := @pI_lt a b i; omega)]
      exact (m6 i (by omega)).cg fun j _ => by rw [sj 13 (by decide) (by decide)]
theorem sim_image {st mt : St} (h : R st mt) : w_X8_image st (fun r st' => w_X9_image mt (fun r' mt' => r = r' ∧ R st' mt')) := by
  have h' := h
  obtain ⟨h1, h2, h3, h4, h5, h6, h7, h8⟩ := h'
  obtain ⟨n, nL, hm, g⟩ := h.get
  unfold w_X8_image
  refine s_become (by decide) (h2 27 isC_27) (h2 11 isC_11) ?_
  unfold w_X1_weekNow w_X9_image
  refine t_saves (w := 0) (by decide) fun s a1 a2 a3 => ?_
  have oj : ∀ j, j ≠ 0 → j < 27 ∨ 35 ≤ j → u2 (sv st 27 (bec (cv st 11))) 0 3 1 j = st j := fun j p q => by rw [u2_off p, sv_off (by omega)]
  have s0 : ∀ x, x ≠ 21 → x ≠ 22 → x ≠ 20 → s 0 x = mt 0 x := fun x p q r => by rw [a2 x p q, u2_0 r]
  have sj : ∀ j, j ≠ 0 → j ≠ 13 → s j = mt j := fun j p q => by rw [a1 j p q, u2_off p]
  have oc : ∀ k, 1 ≤ k → (k + 8 ≤ 27 ∨ 35 ≤ k) → cv (u2 (sv st 27 (bec (cv st 11))) 0 3 1) k = cv st k := fun k p q => by rw [cv_u2 (by omega), cv_off (by omega)]
  have o27 : cv (u2 (sv st 27 (bec (cv st 11))) 0 3 1) 27 = bec (cv st 11) := by rw [cv_u2 (by omega), cv_sv (nC_bec nC_cv)]
  have lv : ∀ i, i < 75 → lvM (u2 mt 0 20 1) i = lvM mt i := lv_u2 (Or.inr ⟨rfl, by decide, by decide, by decide⟩)
  have lvs : ∀ i, i < 75 → lvM s i = lvM mt i := fun i _ => by
    unfold lvM
    rw [sj 2 (by decide) (by decide), sj 3 (by decide) (by decide), sj 4 (by decide) (by decide), sj 5 (by decide) (by decide), sj 6 (by decide) (by decide), sj 7 (by decide) (by decide), sj 8 (by decide) (by decide), s0 8 (by decide) (by decide) (by decide), s0 9 (by decide) (by decide) (by decide), s0 10 (by decide) (by decide) (by decide)]
  refine ⟨?_, ⟨⟨by rw [oc 11 (by decide) (by decide)]; exact h1.1.cg lvs, by rw [s0 11 (by decide) (by decide) (by decide)]; exact h1.2⟩, fun k hk => ?_, by rw [oj 9 (by decide) (by decide)]; exact h3, h4.tr (oj 1 (by decide) (by decide)) (sj 1 (by decide) (by decide)), h5.tr (oj 4 (by decide) (by decide)) (oj 5 (by decide) (by decide)) (s0 16 (by decide) (by decide) (by decide)) (sj 9 (by decide) (by decide)), h6.tr (oj 6 (by decide) (by decide)) (oj 7 (by decide) (by decide)) (s0 29 (by decide) (by decide) (by decide)) (sj 16 (by decide) (by decide)), ?_,
    h8.tr (oj 2 (by decide) (by decide)) (fun a b i => oc _ (by have := @pI_lt a b i; omega) (by have := @pI_lt a b i; omega)) (s0 23 (by decide) (by decide) (by decide)) (fun x hx => by rw [a3, if_neg (by omega), u2_off (by decide)])⟩⟩
  · have e1 : u2 (sv st 27 (bec (cv st 11))) 0 3 1 11 10 = cv st 11 0 10 := by
      rw [oj 11 (by decide) (by decide)]; rfl
    rw [e1, s0 10 (by decide) (by decide) (by decide)]
    exact hm.2.2.2.2.1.symm
  · obtain ⟨i, hi, rfl⟩ := hk
    by_cases e : i = 2
    · subst e; rw [o27]; exact zC_bec (h2 11 isC_11)
    · rw [oc _ (by omega) (by omega)]; exact h2 _ ⟨i, hi, rfl⟩
  · refine Or.inr ⟨u2_same, ?_, ?_⟩
    · rw [a2 20 (by decide) (by decide), u2_same]
    · rw [o27]
      refine (h1.1.cg fun i hi => ?_).bec
      rw [a3, if_pos (by omega)]
      exact lv _ (by omega)
theorem sim_restore {st mt : St} (h : R st mt) : w_X8_restore st (fun r st' => w_X9_restore mt (fun r' mt' => r = r' ∧ R st' mt')) := by
  have h' := h
  obtain ⟨h1, h2, h3, h4, h5, h6, h7, ⟨a, b, m1, m2, m3, m4, m5, m6⟩⟩ := h'
  unfold w_X8_restore
  rcases h7 with ⟨p, q⟩ | ⟨p, q, z⟩
  · refine y2 p (s_refused rO3 ?_)
    unfold w_X9_restore
    exact y2 q (t_no rO3 ⟨rfl, R_ref h rO3⟩)
  · refine n2 (by rw [p]; decide) (s_become (by decide) (h2 11 isC_11) (h2 27 isC_27) ?_)
    unfold w_X5_forget w_X1_weekNow w_X9_restore
    refine n2 (by rw [q]; decide) (t_puts (w := 0) (by decide) fun s b1 b2 b3 => ?_)
    have oj : ∀ j, j ≠ 2 → j < 11 ∨ 19 ≤ j → u2 (sv st 11 (bec (cv st 27))) 2 2 0 j = st j := fun j y1 y2 => by rw [u2_off y1, sv_off (by omega)]
    have oc : ∀ k, 19 ≤ k → cv (u2 (sv st 11 (bec (cv st 27))) 2 2 0) k = cv st k := fun k hk => by rw [cv_u2 (by omega), cv_off (by omega)]
    have o11 : cv (u2 (sv st 11 (bec (cv st 27))) 2 2 0) 11 = bec (cv st 27) := by rw [cv_u2 (by omega), cv_sv (nC_bec nC_cv)]
    have s0 : ∀ x, x ≠ 8 → x ≠ 9 → x ≠ 10 → x ≠ 21 → x ≠ 22 → x ≠ 23 → u2 s 0 23 0 0 x = mt 0 x := fun x y1 y2 y3 y4 y5 y6 => by rw [u2_0 y6, b3 x y1 y2 y3 y4 y5]
    have sj : ∀ j, j ≠ 0 → (j < 2 ∨ 8 < j) → u2 s 0 23 0 j = mt j := fun j y1 y2 => by rw [u2_off y1, b2 j y1 y2]
    have lvs : RB (lvM (u2 s 0 23 0)) (bec (cv st 27)) := (z.cg fun j hj => by
      rw [lv_u2 (Or.inr ⟨rfl, by decide, by decide, by decide⟩) j hj, b1 j hj]
      congr 1; omega).bec
    have hR : R (u2 (sv st 11 (bec (cv st 27))) 2 2 0) (u2 s 0 23 0) := by
      refine ⟨⟨by rw [o11]; exact lvs, by rw [s0 11 (by decide) (by decide) (by decide) (by decide) (by decide) (by decide)]; exact h1.2⟩, fun k hk => ?_, by rw [oj 9 (by decide) (by decide)]; exact h3, h4.tr (oj 1 (by decide) (by decide)) (sj 1 (by decide) (by decide)), h5.tr (oj 4 (by decide) (by decide)) (oj 5 (by decide) (by decide)) (s0 16 (by decide) (by decide) (by decide) (by decide) (by decide) (by decide)) (sj 9 (by decide) (by decide)),
        h6.tr (oj 6 (by decide) (by decide)) (oj 7 (by decide) (by decide)) (s0 29 (by decide) (by decide) (by decide) (by decide) (by decide) (by decide)) (sj 16 (by decide) (by decide)), ?_, ⟨a, 0, m1, by decide, ?_, u2_same, u2_same, fun i hi => absurd hi (Nat.not_lt_zero i)⟩⟩
      · obtain ⟨i, hi, rfl⟩ := hk
        by_cases e : i = 0
        · subst e
          rw [o11]; exact zC_bec (h2 27 isC_27)
        · rw [oc _ (by omega)]; exact h2 _ ⟨i, hi, rfl⟩
      · refine Or.inr ⟨by rw [oj 0 (by decide) (by decide)]; exact p, by rw [s0 20 (by decide) (by decide) (by decide) (by decide) (by decide) (by decide)]; exact q, ?_⟩
        rw [oc 27 (by decide), sj 13 (by decide) (by decide)]
        exact z
      · rw [u2_ne (Or.inr (by decide)), sv_off (by decide)]; exact m3
    refine ⟨?_, hR⟩
    obtain ⟨n, nL, hm, -⟩ := hR.get
    exact hm.2.2.2.2.1.symm
