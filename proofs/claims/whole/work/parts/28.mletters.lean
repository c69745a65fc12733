/-! pure part: the letters of a week, on the check's side -/
theorem RM_off {n nL : Nat} {mt mt' : St} {c : Ct} (h : RM n nL mt c) (h2 : ∀ j, 2 ≤ j → j ≤ 8 → mt' j = mt j) (h0 : ∀ i, 8 ≤ i → i ≤ 11 → mt' 0 i = mt 0 i) : RM n nL mt' c := by
  obtain ⟨g1, g2, g3, g4, g5, g6, g7, g8⟩ := h
  refine ⟨g1, g2, by rw [h0 8 (by decide) (by decide)]; exact g3, by rw [h0 9 (by decide) (by decide)]; exact g4, by rw [h0 10 (by decide) (by decide)]; exact g5, fun p hp => ?_, fun p q a b => ?_, fun l hl => ?_⟩
  · rw [h2 2 (by decide) (by decide), h2 3 (by decide) (by decide), h2 4 (by decide) (by decide), h0 11 (by decide) (by decide)]
    exact g6 p hp
  · rw [h2 5 (by decide) (by decide)]
    exact g7 p q a b
  · rw [h2 6 (by decide) (by decide), h2 7 (by decide) (by decide), h2 8 (by decide) (by decide)]
    exact g8 l hl
theorem RM_7 {n nL : Nat} {mt : St} {c : Ct} {i : Nat} {v : Int32} (h : RM n nL mt c) : RM n nL mt (u2 c 7 i v) := by
  obtain ⟨g1, g2, g3, g4, g5, g6, g7, g8⟩ := h
  refine ⟨vC_u4 g1 (by decide) (by decide), fun p q a b => by rw [u2_off (by decide)]; exact g2 p q a b, g3, g4, by rw [u2_off (by decide)]; exact g5, fun p hp => ?_, fun p q a b => ?_, fun l hl => ?_⟩
  · rw [u2_off (by decide), u2_off (by decide), u2_off (by decide)]
    exact g6 p hp
  · rw [u2_off (by decide)]
    exact g7 p q a b
  · rw [u2_off (by decide), u2_off (by decide), ob_off (by decide)]
    exact g8 l hl
theorem tb_or {b l j : Nat} : (b ||| 2 ^ l).testBit j = (b.testBit j || decide (l = j)) := by
  rw [Nat.testBit_or, Nat.testBit_two_pow]
theorem RM_open {n nL l : Nat} {mt : St} {c : Ct} (h : RM n nL mt c) (hl : l < nL) : RM n nL (u2 mt 8 l 1) (u2 c 0 9 (c 0 9 ||| lbit l)) := by
  obtain ⟨g1, g2, g3, g4, g5, g6, g7, g8⟩ := h
  have g1' := g1
  obtain ⟨h1, h2, h3, h4, h5, h6, h7⟩ := g1'
  have hb := p64 h2 h7
  have e9 : u2 c 0 9 (c 0 9 ||| lbit l) 0 9 = nI (ob c ||| 2 ^ l) := by
    rw [u2_same]
    conv => lhs; rw [h6]
    exact or_bit _ hb l (by omega)
  have hlt : ob c ||| 2 ^ l < 2 ^ nL := Nat.or_lt_two_pow h7 (Nat.pow_lt_pow_right (by decide) hl)
  have eo : ob (u2 c 0 9 (c 0 9 ||| lbit l)) = ob c ||| 2 ^ l := ob_of e9 (p64 h2 hlt)
  refine ⟨vC_of h1 h2 (by rw [u2_ne (Or.inr (by decide))]; exact h3) (by rw [u2_ne (Or.inr (by decide))]; exact h4) (fun j hj => by rw [u2_off (by decide)]; exact h5 j hj) ⟨_, hlt, e9⟩, fun p q a b => by rw [u2_off (by decide)]; exact g2 p q a b,
    by rw [u2_off (by decide)]; exact g3, by rw [u2_off (by decide)]; exact g4, by rw [u2_off (by decide), u2_ne (Or.inr (by decide))]; exact g5, fun p hp => ?_, fun p q a b => ?_, fun j hj => ?_⟩
  · rw [u2_off (by decide), u2_off (by decide), u2_off (by decide), u2_off (by decide), u2_off (by decide), u2_off (by decide), u2_off (by decide)]
    exact g6 p hp
  · rw [u2_off (by decide), u2_off (by decide)]
    exact g7 p q a b
  · have g := g8 j hj
    rw [u2_off (by decide), u2_off (by decide), u2_off (by decide), u2_off (by decide), eo, tb_or]
    refine ⟨g.1, g.2.1, g.2.2.1, ?_⟩
    by_cases e : j = l
    · subst e
      rw [u2_same]
      simp
    · rw [u2_ne (Or.inr e), g.2.2.2]
      simp [Ne.symm e]
theorem stepL_open {n l : Nat} {s : Int32 × Ct} (h : bitF (s.2 0 9) (nI l) = 1) : stepL n l s = s := by
  unfold stepL
  rw [if_pos h]
theorem stepL_none {n l : Nat} {s : Int32 × Ct} (h : ¬ bitF (s.2 0 9) (nI l) = 1) (ho : openerF s.2 n l = none) : stepL n l s = s := by
  unfold stepL
  rw [if_neg h, ho]
theorem stepL_some {n l p q : Nat} {s : Int32 × Ct} (h : ¬ bitF (s.2 0 9) (nI l) = 1) (ho : openerF s.2 n l = some (p, q)) : stepL n l s = (s.1 ||| lbit l, opens s.2 l p q) := by
  unfold stepL
  rw [if_neg h, ho]
theorem lb_ne : ∀ b, b < 64 → ∀ l, l < 6 → ¬ nI (b ||| 2 ^ l) = 0 := by decide +kernel
theorem s10 : ∀ p, p < 6 → ∀ q, q < 6 → 0 ≤ nI (10 * p + q) := by decide +kernel
def LI (n nL : Nat) (c : Ct) (mt : St) (l : Nat) (mt' : St) : Prop :=
  ∃ b cnt, (fr 0 l (stepL n) (0, c)).1 = nI b ∧ b < 2 ^ l ∧ RM n nL mt' (fr 0 l (stepL n) (0, c)).2 ∧ wf mt mt' ∧ mt' 0 25 = nI cnt ∧ cnt ≤ l ∧ (cnt = 0 ↔ b = 0) ∧ ∀ j, j < l → mt' 14 j = if b.testBit j then (fr 0 l (stepL n) (0, c)).2 7 j else -9
theorem opens_7 {c : Ct} {l p q j : Nat} (h : j ≠ l) : opens c l p q 7 j = c 7 j := by
  unfold opens
  rw [u2_off (by decide), u2_ne (Or.inr h), u2_off (by decide)]
theorem opens_7s {c : Ct} {l p q : Nat} : opens c l p q 7 l = nI (10 * p + q) := by
  unfold opens
  rw [u2_off (by decide), u2_same]
theorem t_letters {n nL : Nat} {mt : St} {c : Ct} {K : St → Prop} (h : RM n nL mt c) (h25 : mt 0 25 = 0) (hk : ∀ mt', LI n nL c mt nL mt' → K mt') : ∃ m, w_X9_goesWeek_L57 K m 0 mt := by
  refine lo_rel (fun m l (s : St) => w_X9_goesWeek_L57 K m (nI l) s) (LI n nL c mt) mt (Nat.zero_le nL) ⟨0, 0, rfl, by decide, h, wf_rf, h25, Nat.le_refl 0, Iff.rfl, fun j hj => absurd hj (Nat.not_lt_zero j)⟩ (fun s hI m => ?_) (fun m l s _ hl hI hw => ?_)
  · obtain ⟨b, cnt, e1, e2, e3, e4, e5, e6, e7, e8⟩ := hI
    rw [w_X9_goesWeek_L57, w_X9_goesWeek_L57q, e3.2.2.2.1]
    exact ⟨fun _ => hk s ⟨b, cnt, e1, e2, e3, e4, e5, e6, e7, e8⟩, fun h9 => absurd (nI_le (Nat.le_refl nL) (by have := e3.1.2.1; omega)) h9⟩
  · obtain ⟨b, cnt, e1, e2, e3, e4, e5, e6, e7, e8⟩ := hI
    have hL := e3.1.2.1
    have hn := e3.1.1
    have g8 := e3.2.2.2.2.2.2.2 l hl
    have hob := e3.1.2.2.2.2.2
    have hbt := bit_is _ (p64 hL hob.2) l (by omega)
    have fs : fr 0 (l + 1) (stepL n) (0, c) = stepL n l (fr 0 l (stepL n) (0, c)) := fr_succ (Nat.zero_le l) _ _
    have hb64 : b < 64 := p64 (show l ≤ 6 by omega) e2
    -- nothing is opened: the next
    have skip : (fr 0 (l + 1) (stepL n) (0, c)) = (fr 0 l (stepL n) (0, c)) → LI n nL c mt (l + 1) (u2 s 14 l (-9)) := by
      intro e
      refine ⟨b, cnt, by rw [e]; exact e1, Nat.lt_of_lt_of_le e2 (Nat.pow_le_pow_right (by decide) (by omega)), by rw [e]; exact RM_off e3 (fun j a b => u2_off (by omega)) (fun i _ _ => by rw [u2_off (by decide)]), e4.tr (wf_u2 (Or.inr (Or.inr rfl))), by rw [u2_off (by decide)]; exact e5, by omega, e7, fun j hj => ?_⟩
      rw [e]
      by_cases ej : j = l
      · subst ej
        rw [u2_same, Nat.testBit_lt_two_pow e2]
        rfl
      · rw [u2_ne (Or.inr ej)]
        exact e8 j (by omega)
    rw [w_X9_goesWeek_L57, w_X9_goesWeek_L57q, e3.2.2.2.1, clI (show l < 6 by omega) (by decide)]
    refine ⟨fun h9 => absurd h9 (nI_ge hl (by omega)), fun _ => ⟨vp_in_nI (by omega) (by decide), fun ho => ⟨vp_in_nI (by omega) (by decide), vp_in_nI (by omega) (by decide), ?_⟩, fun ho => ?_⟩⟩
    · -- sealed
      have hsl : ¬ (ob (fr 0 l (stepL n) (0, c)).2).testBit l = true := fun z => ho (by rw [g8.2.2.2, if_pos z])
      have hbf : ¬ bitF ((fr 0 l (stepL n) (0, c)).2 0 9) (nI l) = 1 := by
        rw [hob.1, hbt, if_neg hsl]; decide
      refine t_opensAt e3 (by rw [g8.2.1]; exact g8.2.2.1) ?_
      rw [g8.1, g8.2.1]
      have hop : (opS (fr 0 l (stepL n) (0, c)).2 n ((fr 0 l (stepL n) (0, c)).2 6 l) ((fr 0 l (stepL n) (0, c)).2 5 l)).1 = openerF (fr 0 l (stepL n) (0, c)).2 n l := rfl
      rw [hop, w_X9_goesWeek_b101]
      cases ho2 : openerF (fr 0 l (stepL n) (0, c)).2 n l with
      | none =>
        have e : stepL n l (fr 0 l (stepL n) (0, c)) = fr 0 l (stepL n) (0, c) := stepL_none hbf ho2
        refine ⟨vp_in_nI (by omega) (by decide), vp_in_nI (by omega) (by decide), ?_⟩
        rw [clI (show l < 6 by omega) (by decide), u2_same]
        refine ⟨fun h9 => absurd h9 (by decide), fun _ => ?_⟩
        rw [w_X9_goesWeek_b171, nI_inc]
        exact hw _ (skip (fs.trans e))
      | some pq =>
        obtain ⟨p, q⟩ := pq
        have hpq := opS_in p q ho2
        have h10 := o10 p (by omega) q (by omega)
        have e : stepL n l (fr 0 l (stepL n) (0, c)) = ((fr 0 l (stepL n) (0, c)).1 ||| lbit l, opens (fr 0 l (stepL n) (0, c)).2 l p q) := stepL_some hbf ho2
        refine ⟨vp_in_nI (by omega) (by decide), vp_in_nI (by omega) (by decide), ?_⟩
        rw [clI (show l < 6 by omega) (by decide), u2_same]
        show (0 ≤ nI (10 * p + q) → _) ∧ _
        refine ⟨fun _ => ⟨vp_in_nI (by omega) (by decide), vp_in_nI (by omega) (by decide), vp_in_nI (by omega) (by decide), ?_⟩, fun h9 => absurd (s10 p (by omega) q (by omega)) h9⟩
        simp only [oI]
        rw [h10.2.1, h10.1]
        refine t_hateOf (by omega) (by omega) (t_held (t_sets (by omega) (by omega) ?_))
        rw [w_X9_goesWeek_b171, nI_inc]
        have q1 := RM_7 (i := l) (v := nI (10 * p + q)) (RM_open e3 hl)
        have q2 : RM n nL (u2 (u2 (u2 s 14 l (nI (10 * p + q))) 8 l 1) 0 25 (u2 (u2 s 14 l (nI (10 * p + q))) 8 l 1 0 25 + 1)) (u2 (u2 (fr 0 l (stepL n) (0, c)).2 0 9 ((fr 0 l (stepL n) (0, c)).2 0 9 ||| lbit l)) 7 l (nI (10 * p + q))) := by
          refine RM_off q1 (fun j a b => ?_) (fun i a b => ?_)
          · rw [u2_off (by omega)]
            unfold u2 u1
            by_cases e8 : j = 8
            · subst e8; simp
            · rw [if_neg e8, if_neg (by omega), if_neg e8]
          · rw [u2_ne (Or.inr (by omega)), u2_off (by decide), u2_off (by decide), u2_off (by decide)]
        have hh : u2 (u2 (u2 s 14 l (nI (10 * p + q))) 8 l 1) 0 25 (u2 (u2 s 14 l (nI (10 * p + q))) 8 l 1 0 25 + 1) 5 (6 * p + q) = (fr 0 l (stepL n) (0, c)).2 4 (hI p q) := by
          rw [u2_off (by decide), u2_off (by decide), u2_off (by decide)]
          exact (e3.2.2.2.2.2.2.1 p q hpq.1 hpq.2.1).1
        have h25' : u2 (u2 s 14 l (nI (10 * p + q))) 8 l 1 0 25 = nI cnt := by rw [u2_off (by decide), u2_off (by decide)]; exact e5
        rw [hh, hlF_held]
        refine hw _ ⟨b ||| 2 ^ l, cnt + 1, ?_, Nat.or_lt_two_pow (Nat.lt_of_lt_of_le e2 (Nat.pow_le_pow_right (by decide) (by omega))) (Nat.pow_lt_pow_right (by decide) (by omega)), ?_, ?_, ?_, by omega, ?_, fun j hj => ?_⟩
        · rw [fs, e, e1]; exact or_bit b hb64 l (by omega)
        · rw [fs, e]
          exact (RM_hate q2 hpq.1 hpq.2.1 (heldF_in _).1 (heldF_in _).2).1
        · exact ((((e4.tr (wf_u2 (Or.inr (Or.inr rfl)))).tr (wf_u2 (Or.inr (Or.inl rfl)))).tr (wf_u20 (Or.inr rfl))).tr wf_sets)
        · unfold setsF
          rw [u2_off (by decide), u2_off (by decide), u2_same, h25', nI_inc]
        · refine ⟨fun z => by omega, fun z => absurd ?_ (lb_ne b hb64 l (by omega))⟩
          rw [z]; rfl
        · rw [fs, e, tb_or]
          unfold setsF
          rw [u2_off (by decide), u2_off (by decide), u2_off (by decide), u2_off (by decide)]
          by_cases ej : j = l
          · subst ej
            rw [u2_same]
            simp [opens_7s]
          · rw [u2_ne (Or.inr ej), e8 j (by omega)]
            simp only [decide_eq_false (Ne.symm ej), Bool.or_false]
            split
            · exact (opens_7 ej).symm
            · rfl
    · -- open already
      have hsl : (ob (fr 0 l (stepL n) (0, c)).2).testBit l = true := by
        cases hq : (ob (fr 0 l (stepL n) (0, c)).2).testBit l with
        | true => rfl
        | false =>
          rw [g8.2.2.2, hq] at ho
          exact absurd ho (by decide)
      have e : stepL n l (fr 0 l (stepL n) (0, c)) = fr 0 l (stepL n) (0, c) := stepL_open (by rw [hob.1, hbt, if_pos hsl])
      rw [w_X9_goesWeek_b101]
      refine ⟨vp_in_nI (by omega) (by decide), vp_in_nI (by omega) (by decide), ?_⟩
      rw [clI (show l < 6 by omega) (by decide), u2_same]
      refine ⟨fun h9 => absurd h9 (by decide), fun _ => ?_⟩
      rw [w_X9_goesWeek_b171, nI_inc]
      exact hw _ (skip (fs.trans e))
