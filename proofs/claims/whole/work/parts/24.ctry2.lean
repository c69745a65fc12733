/-! pure part: weeks, a country that becomes as another is -/
def ob (c : Ct) : Nat := (c 0 9).toNatClampNeg
def vC (n nL : Nat) (c : Ct) : Prop := n ≤ 6 ∧ nL ≤ 6 ∧ c 0 7 = nI n ∧ c 0 8 = nI nL ∧ dOk nL c ∧ c 0 9 = nI (ob c) ∧ ob c < 2 ^ nL
theorem p64 {nL : Nat} (h : nL ≤ 6) {b : Nat} (hb : b < 2 ^ nL) : b < 64 := Nat.lt_of_lt_of_le hb (Nat.pow_le_pow_right (by decide) h)
theorem or_bit : ∀ b, b < 64 → ∀ l, l < 6 → nI b ||| lbit l = nI (b ||| 2 ^ l) := by decide +kernel
theorem bit_is : ∀ b, b < 64 → ∀ l, l < 6 → bitF (nI b) (nI l) = if b.testBit l then 1 else 0 := by decide +kernel
theorem ob_of {c : Ct} {b : Nat} (h : c 0 9 = nI b) (hb : b < 64) : ob c = b := by
  unfold ob
  rw [h, nI_clamp (show b < 2 ^ 31 by omega)]
theorem opens_ob {c : Ct} {l p q b : Nat} (h : c 0 9 = nI b) (hb : b < 64) (hl : l < 6) : opens c l p q 0 9 = nI (b ||| 2 ^ l) := by
  unfold opens
  rw [u2_off (by decide), u2_off (by decide), u2_same, h, or_bit b hb l hl]
theorem stepL_ob {n nL l : Nat} {s : Int32 × Ct} (hL : nL ≤ 6) (hl : l < nL) (h : ∃ b, b < 2 ^ nL ∧ s.2 0 9 = nI b) : ∃ b, b < 2 ^ nL ∧ (stepL n l s).2 0 9 = nI b := by
  obtain ⟨b, h1, h2⟩ := h
  unfold stepL
  split
  · exact ⟨b, h1, h2⟩
  · split
    · exact ⟨b, h1, h2⟩
    next p q _ => exact ⟨b ||| 2 ^ l, Nat.or_lt_two_pow h1 (Nat.pow_lt_pow_right (by decide) hl), opens_ob (p := p) (q := q) h2 (p64 hL h1) (by omega)⟩
theorem vC_of {n nL : Nat} {c : Ct} (h1 : n ≤ 6) (h2 : nL ≤ 6) (h3 : c 0 7 = nI n) (h4 : c 0 8 = nI nL) (h5 : dOk nL c) (h6 : ∃ b, b < 2 ^ nL ∧ c 0 9 = nI b) : vC n nL c := by
  obtain ⟨b, g1, g2⟩ := h6
  have e := ob_of g2 (p64 h2 g1)
  exact ⟨h1, h2, h3, h4, h5, by rw [e]; exact g2, by rw [e]; exact g1⟩
theorem vC_week {n nL : Nat} {c : Ct} (h : vC n nL c) : vC n nL (weekF n nL c).2 := by
  obtain ⟨h1, h2, h3, h4, h5, h6, h7⟩ := h
  have b0 : ∀ i, i ≠ 10 → hatesF n (u2 c 0 10 (c 0 10 + 1)) 0 i = c 0 i := fun i hi => by rw [hatesF_off (by decide), u2_ne (Or.inr hi)]
  have b5 : hatesF n (u2 c 0 10 (c 0 10 + 1)) 5 = c 5 := by rw [hatesF_off (by decide), u2_off (by decide)]
  have key := fr_inv (fun _ (s : Int32 × Ct) => s.2 0 7 = nI n ∧ s.2 0 8 = nI nL ∧ dOk nL s.2 ∧ ∃ b, b < 2 ^ nL ∧ s.2 0 9 = nI b) (stepL n) (Nat.zero_le nL)
    (s0 := (0, hatesF n (u2 c 0 10 (c 0 10 + 1)))) ⟨(b0 7 (by decide)).trans h3, (b0 8 (by decide)).trans h4, fun l hl => by
      show (-9) < hatesF n (u2 c 0 10 (c 0 10 + 1)) 5 l
      rw [b5]
      exact h5 l hl, ob c, h7, (b0 9 (by decide)).trans h6⟩
    (fun l s _ h2' hI => ⟨by rw [stepL_0 (by decide)]; exact hI.1, by rw [stepL_0 (by decide)]; exact hI.2.1, fun j hj => by rw [stepL_off (by decide) (by decide) (by decide)]; exact hI.2.2.1 j hj, stepL_ob h2 h2' hI.2.2.2⟩)
  exact vC_of h1 h2 key.1 key.2.1 key.2.2.1 key.2.2.2
def weeksF (n nL w : Nat) (c : Ct) : Ct := fr 0 w (fun _ c => (weekF n nL c).2) c
theorem vC_weeks {n nL w : Nat} {c : Ct} (h : vC n nL c) : vC n nL (weeksF n nL w c) := fr_inv (fun _ c => vC n nL c) _ (Nat.zero_le w) h (fun _ _ _ _ h => vC_week h)
theorem s_openCount {st : St} {k n nL : Nat} {c : Ct} {K : Int32 → St → Prop} (hc : vC n nL c) (h : K (nI (pc (ob c))) (sv st k c)) : w_X1_openCount k (sv st k c) K := by
  obtain ⟨-, h2, -, -, -, h6, h7⟩ := hc
  unfold w_X1_openCount
  rw [sv_0, h6]
  exact s_bitCount (Nat.lt_of_lt_of_le (p64 h2 h7) (by decide)) h
theorem s_week1 {st : St} {k n nL : Nat} {c : Ct} {K : Int32 → St → Prop} (hc : vC n nL c) (h : K (weekF n nL c).1 (sv st k (weekF n nL c).2)) : w_X1_passWeek k (sv st k c) K :=
  s_passWeek hc.1 hc.2.1 hc.2.2.1 hc.2.2.2.1 hc.2.2.2.2.1 h
theorem s_passWeeks {st : St} {k n nL w : Nat} {c : Ct} {K : Int32 → St → Prop} (hw : w < 2147483648) (hc : vC n nL c) (h : K (nI (pc (ob (weeksF n nL w c)))) (sv st k (weeksF n nL w c))) : w_X1_passWeeks k (nI w) (sv st k c) K := by
  unfold w_X1_passWeeks
  refine lo_fr (fun m i c => w_X1_passWeeks_L2 k (nI w) K m (nI i) (sv st k c)) (fun _ c => (weekF n nL c).2) (fun _ c => vC n nL c) c (Nat.zero_le w) hc (fun _ _ _ _ h => vC_week h) (fun hv m => ?_) (fun m i c _ h2 hv hk => ?_)
  · rw [w_X1_passWeeks_L2, w_X1_passWeeks_L2q]
    refine ⟨fun _ => ?_, fun h9 => absurd (nI_le (Nat.le_refl w) hw) h9⟩
    rw [w_X1_passWeeks_b18]
    exact s_openCount hv h
  · rw [w_X1_passWeeks_L2, w_X1_passWeeks_L2q]
    refine ⟨fun h9 => absurd h9 (nI_ge h2 hw), fun _ => s_week1 hv ?_⟩
    rw [nI_inc]
    exact hk
def lenC (j : Nat) : Nat := if j = 0 then 11 else if j = 4 then 36 else 6
def zC (c : Ct) : Prop := (∀ j i, lenC j ≤ i → c j i = 0) ∧ ∀ i, i < 7 → c 0 i = 0
theorem cpy_z {f g : Nat → Int32} {n : Nat} (hf : ∀ i, n ≤ i → f i = 0) (hg : ∀ i, n ≤ i → g i = 0) : va_cpy f g 0 0 n = f := by
  funext i
  unfold va_cpy
  by_cases h : i < n
  · rw [if_pos ⟨Nat.zero_le _, by omega⟩]; congr 1; omega
  · rw [if_neg (by omega), hf i (by omega), hg i (by omega)]
theorem s_fill {k n : Nat} {v : Int32} {st : St} {K : St → Prop} (hn : n < 2147483648) (h : K (u1 st k (fun i => if i < n then v else st k i))) : w_J7_fill_53178 k n v st K := by
  have e : fr 0 n (fun i st => u2 st k i v) st = u1 st k (fun i => if i < n then v else st k i) := by
    have key := fr_inv (fun i (s : St) => s = u1 st k (fun j => if j < i then v else st k j)) (fun i st => u2 st k i v) (Nat.zero_le n) (s0 := st) (by
      funext a b
      unfold u1
      split
      next h => subst h; simp
      next => rfl) (fun i s _ _ e => by
      subst e
      funext a b
      unfold u2 u1 upd
      by_cases ha : a = k
      · subst ha
        simp only [if_true]
        by_cases hb : b = i
        · subst hb; simp
        · rw [if_neg hb]
          by_cases h3 : b < i
          · rw [if_pos h3, if_pos (by omega)]
          · rw [if_neg h3, if_neg (by omega)]
      · simp only [if_neg ha])
    exact key
  unfold w_J7_fill_53178
  refine lo_fr (fun m i (s : St) => w_J7_fill_53178_L5 k n v K m (nI i) (nI n) s) (fun i st => u2 st k i v) (fun _ _ => True) st (Nat.zero_le n) trivial (fun _ _ _ _ _ => trivial) (fun _ m => ?_) (fun m i s _ h2 _ hk => ?_)
  · rw [w_J7_fill_53178_L5, w_J7_fill_53178_L5q, e]
    exact ⟨fun _ => h, fun h9 => absurd (nI_le (Nat.le_refl n) hn) h9⟩
  · rw [w_J7_fill_53178_L5, w_J7_fill_53178_L5q]
    refine ⟨fun h9 => absurd h9 (nI_ge h2 hn), fun _ => ⟨vp_in_nI h2 hn, ?_⟩⟩
    rw [nI_inc, nI_clamp (show i < 2 ^ 31 by omega)]
    exact hk
def opN : Nat → Int32 := fun i => if i < 6 then -9 else 0
/-- what a country is that becomes as another is -/
def bec (c : Ct) : Ct := fun j => if j = 7 then opN else c j
theorem st_of_cv {st : St} {k j : Nat} (hj : j < 8) : st (k + j) = cv st k j := by unfold cv; rw [if_pos hj]
theorem s_become {st : St} {k k' : Nat} {K : St → Prop} (hkk : k' + 8 ≤ k ∨ k + 8 ≤ k') (hz : zC (cv st k)) (hz' : zC (cv st k')) (h : K (sv st k (bec (cv st k')))) : w_X1_become k k' st K := by
  have step : ∀ (c : Ct) (j n : Nat), j < 8 → lenC j = n → c j = cv st k j → u1 (sv st k c) (k + j) (va_cpy (sv st k c (k' + j)) (sv st k c (k + j)) 0 0 n) = sv st k (u1 c j (cv st k' j)) := by
    intro c j n hj hl hc
    rw [sv_u1 hj, sv_at hj, sv_off (by omega), hc, st_of_cv (st := st) (k := k') hj, cpy_z (fun i hi => hz'.1 j i (by omega)) (fun i hi => hz.1 j i (by omega))]
  unfold w_X1_become
  rw [← sv_cv (st := st) (k := k)]
  refine s_copy (by decide) ?_
  rw [step (cv st k) 1 6 (by decide) rfl rfl]
  refine s_copy (by decide) ?_
  rw [step (u1 (cv st k) 1 (cv st k' 1)) 2 6 (by decide) rfl rfl]
  refine s_copy (by decide) ?_
  rw [step (u1 (u1 (cv st k) 1 (cv st k' 1)) 2 (cv st k' 2)) 3 6 (by decide) rfl rfl]
  refine s_copy (by decide) ?_
  rw [step (u1 (u1 (u1 (cv st k) 1 (cv st k' 1)) 2 (cv st k' 2)) 3 (cv st k' 3)) 4 36 (by decide) rfl rfl]
  refine s_copy (by decide) ?_
  rw [step (u1 (u1 (u1 (u1 (cv st k) 1 (cv st k' 1)) 2 (cv st k' 2)) 3 (cv st k' 3)) 4 (cv st k' 4)) 5 6 (by decide) rfl rfl]
  refine s_copy (by decide) ?_
  rw [step (u1 (u1 (u1 (u1 (u1 (cv st k) 1 (cv st k' 1)) 2 (cv st k' 2)) 3 (cv st k' 3)) 4 (cv st k' 4)) 5 (cv st k' 5)) 6 6 (by decide) rfl rfl]
  refine s_fill (by decide) ?_
  rw [sv_u1 (by decide)]
  have r0 : ∀ (c : Ct) (i : Nat), sv st k c k' i = cv st k' 0 i := fun c i => by rw [sv_off (by omega)]; exact congrFun (st_of_cv (st := st) (k := k') (j := 0) (by decide)) i
  simp only [sv_u20, r0]
  refine Eq.mp (congrArg (fun c => K (sv st k c)) ?_) h
  funext j i
  by_cases h0 : j = 0
  · subst h0
    simp only [bec, u2, u1, upd, sv_7]
    by_cases e10 : i = 10
    · subst e10; simp [upd]
    · by_cases e9 : i = 9
      · subst e9; simp [upd]
      · by_cases e8 : i = 8
        · subst e8; simp [upd]
        · by_cases e7 : i = 7
          · subst e7; simp [upd]
          · have z : cv st k' 0 i = cv st k 0 i := by
              by_cases hi : i < 7
              · rw [hz'.2 i hi, hz.2 i hi]
              · have l0 : lenC 0 = 11 := rfl
                rw [hz'.1 0 i (by omega), hz.1 0 i (by omega)]
            simp [upd, e10, e9, e8, e7, z]
  · by_cases h7 : j = 7
    · subst h7
      simp only [bec, u2, u1, upd, sv_7, opN]
      have l7 : lenC 7 = 6 := rfl
      have z : ¬ i < 6 → cv st k 7 i = 0 := fun h => hz.1 7 i (by omega)
      by_cases hi : i < 6
      · simp [upd, hi, opN]
      · simp [upd, hi, z hi, opN]
    · by_cases h8 : 8 ≤ j
      · rw [show bec (cv st k') j = cv st k' j from by simp [bec, h7], nC_cv j h8]
        simp only [u2, u1]
        rw [if_neg h0, if_neg h0, if_neg h0, if_neg h0, if_neg h7, if_neg (by omega), if_neg (by omega), if_neg (by omega), if_neg (by omega), if_neg (by omega), if_neg (by omega), nC_cv j h8]
      · rw [show bec (cv st k') j = cv st k' j from by simp [bec, h7]]
        simp only [u2, u1]
        rw [if_neg h0, if_neg h0, if_neg h0, if_neg h0, if_neg h7]
        have : j = 1 ∨ j = 2 ∨ j = 3 ∨ j = 4 ∨ j = 5 ∨ j = 6 := by omega
        rcases this with rfl | rfl | rfl | rfl | rfl | rfl <;> rfl
