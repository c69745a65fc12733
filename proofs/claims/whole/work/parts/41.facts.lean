/-! pure part: what a week opens, and by whom; loops that end early, with states -/
theorem lo_fstJ {W : Nat → Nat → St → Prop} {P : Nat → Bool} {Q : Int32 → Prop} {J : Nat → St → Prop} {r i0 : Nat} {s : St} (hi : i0 ≤ r) (hj : J i0 s) (hx : ∀ n s, J r s → Q (-9) → W (n + 1) r s) (hp : ∀ n i s, i0 ≤ i → i < r → J i s → P i = true → Q (nI i) → W (n + 2) i s)
    (hn : ∀ n i s, i0 ≤ i → i < r → J i s → P i = false → (∀ s', J (i + 1) s' → W n (i + 1) s') → W (n + 1) i s) (h : Q (fstG P (r - i0) i0)) : ∃ n, W n i0 s := by
  have key : ∀ d i s, i0 ≤ i → i + d = r → J i s → Q (fstG P d i) → W (d + 2) i s := by
    intro d
    induction d with
    | zero =>
      intro i s h1 h2 h3 h4
      have : i = r := by omega
      subst this
      exact hx 1 s h3 h4
    | succ d ih =>
      intro i s h1 h2 h3 h4
      cases e : P i with
      | true =>
        rw [fstG, e] at h4
        exact hp (d + 1) i s h1 (by omega) h3 e h4
      | false =>
        rw [fstG, e] at h4
        exact hn (d + 2) i s h1 (by omega) h3 e fun s' hs' => ih (i + 1) s' (by omega) (by omega) hs' h4
  exact ⟨_, key (r - i0) i0 s (Nat.le_refl _) (by omega) hj h⟩
theorem fstG_some {P : Nat → Bool} : ∀ d i, (fstG P d i = -9 ∧ ∀ j, i ≤ j → j < i + d → P j = false) ∨ (∃ n, i ≤ n ∧ n < i + d ∧ fstG P d i = nI n ∧ P n = true ∧ ∀ j, i ≤ j → j < n → P j = false)
  | 0, i => Or.inl ⟨rfl, fun j a b => absurd b (by omega)⟩
  | d + 1, i => by
    rw [fstG]
    cases e : P i with
    | true => exact Or.inr ⟨i, Nat.le_refl i, by omega, rfl, e, fun j a b => absurd b (by omega)⟩
    | false =>
      rcases fstG_some (P := P) d (i + 1) with ⟨h1, h2⟩ | ⟨n, h1, h2, h3, h4, h5⟩
      · refine Or.inl ⟨h1, fun j a b => ?_⟩
        by_cases z : j = i
        · subst z; exact e
        · exact h2 j (by omega) (by omega)
      · refine Or.inr ⟨n, by omega, by omega, h3, h4, fun j a b => ?_⟩
        by_cases z : j = i
        · subst z; exact e
        · exact h5 j (by omega) b
theorem vC_stepL {n nL l : Nat} {s : Int32 × Ct} (hl : l < nL) (h : vC n nL s.2) : vC n nL (stepL n l s).2 := by
  obtain ⟨h1, h2, h3, h4, h5, h6, h7⟩ := h
  exact vC_of h1 h2 (by rw [stepL_0 (by decide)]; exact h3) (by rw [stepL_0 (by decide)]; exact h4) (fun j hj => by rw [stepL_off (by decide) (by decide) (by decide)]; exact h5 j hj) (stepL_ob h2 hl ⟨ob s.2, h7, h6⟩)
/-- what is opened in a week: bits b -/
def weekN (n nL : Nat) (c : Ct) (s : Int32 × Ct) : Prop :=
  vC n nL s.2 ∧ ∃ b, s.1 = nI b ∧ b < 2 ^ nL ∧ ∀ l, ((ob s.2).testBit l = ((ob c).testBit l || b.testBit l)) ∧ ((ob c).testBit l = true → b.testBit l = false) ∧ (b.testBit l = false → s.2 7 l = c 7 l)
theorem weekN_step {n nL l : Nat} {c : Ct} {s : Int32 × Ct} (hl : l < nL) (h : weekN n nL c s) : weekN n nL c (stepL n l s) := by
  obtain ⟨hv, b, h1, h2, h3⟩ := h
  refine ⟨vC_stepL hl hv, ?_⟩
  have hL := hv.2.1
  by_cases e : bitF (s.2 0 9) (nI l) = 1
  · rw [stepL_open e]; exact ⟨b, h1, h2, h3⟩
  · cases ho : openerF s.2 n l with
    | none => rw [stepL_none e ho]; exact ⟨b, h1, h2, h3⟩
    | some pq =>
      obtain ⟨p, q⟩ := pq
      rw [stepL_some e ho]
      have hb := p64 hL h2
      have ho64 := p64 hL hv.2.2.2.2.2.2
      have hbl : (ob s.2).testBit l = false := by
        cases z : (ob s.2).testBit l with
        | false => rfl
        | true =>
          refine absurd ?_ e
          rw [hv.2.2.2.2.2.1, bit_is _ ho64 l (by omega), if_pos z]
      have eo : ob (opens s.2 l p q) = ob s.2 ||| 2 ^ l := ob_of (opens_ob hv.2.2.2.2.2.1 ho64 (by omega)) (Nat.or_lt_two_pow (n := 6) ho64 (Nat.pow_lt_pow_right (by decide) (by omega)))
      refine ⟨b ||| 2 ^ l, by show s.1 ||| lbit l = _; rw [h1]; exact or_bit b hb l (by omega), Nat.or_lt_two_pow h2 (Nat.pow_lt_pow_right (by decide) hl), fun k => ?_⟩
      obtain ⟨a1, a2, a3⟩ := h3 k
      show (ob (opens s.2 l p q)).testBit k = _ ∧ _ ∧ (_ → opens s.2 l p q 7 k = c 7 k)
      rw [eo, tb_or, tb_or]
      by_cases ek : l = k
      · subst ek
        have c0 : (ob c).testBit l = false := by
          rw [hbl] at a1
          cases z : (ob c).testBit l with
          | false => rfl
          | true => rw [z] at a1; simp at a1
        refine ⟨by simp, fun z => ?_, fun z => ?_⟩
        · rw [c0] at z; cases z
        · simp at z
      · have d : decide (l = k) = false := decide_eq_false ek
        rw [d, Bool.or_false, Bool.or_false, opens_7 (fun z => ek z.symm)]
        exact ⟨a1, a2, a3⟩
theorem vC_hates {n nL : Nat} {c : Ct} (h : vC n nL c) : vC n nL (hatesF n c) := by
  obtain ⟨h1, h2, h3, h4, h5, h6, h7⟩ := h
  exact vC_of h1 h2 (by rw [hatesF_off (by decide)]; exact h3) (by rw [hatesF_off (by decide)]; exact h4) (fun l hl => by rw [hatesF_off (by decide)]; exact h5 l hl) ⟨ob c, h7, by rw [hatesF_off (by decide)]; exact h6⟩
theorem ob_hates {n : Nat} {c : Ct} : ob (hatesF n c) = ob c := by
  unfold ob
  rw [hatesF_off (by decide)]
theorem week_N {n nL : Nat} {c : Ct} (h : vC n nL c) : weekN n nL c (weekF n nL c) := by
  have e7 : hatesF n (u2 c 0 10 (c 0 10 + 1)) 7 = c 7 := by rw [hatesF_off (by decide), u2_off (by decide)]
  have h1 : vC n nL (hatesF n (u2 c 0 10 (c 0 10 + 1))) := vC_hates (vC_wk h)
  have h2 : ob (hatesF n (u2 c 0 10 (c 0 10 + 1))) = ob c := by rw [ob_hates, ob_wk]
  refine fr_inv (fun _ (s : Int32 × Ct) => weekN n nL c s) (stepL n) (Nat.zero_le nL) (s0 := (0, hatesF n (u2 c 0 10 (c 0 10 + 1)))) ⟨h1, 0, rfl, Nat.two_pow_pos nL, fun l => ⟨?_, fun _ => Nat.zero_testBit l, fun _ => ?_⟩⟩ (fun l s _ hl hs => weekN_step hl hs)
  · show (ob (hatesF n (u2 c 0 10 (c 0 10 + 1)))).testBit l = _
    rw [h2, Nat.zero_testBit, Bool.or_false]
  · show hatesF n (u2 c 0 10 (c 0 10 + 1)) 7 l = c 7 l
    rw [e7]
theorem wk_succ {n nL i : Nat} {c : Ct} : wkF n nL (i + 1) c = (weekF n nL (wkF n nL i c)).2 := by
  unfold wkF weeksF
  rw [fr_succ (Nat.zero_le i)]
theorem wk_0 {n nL : Nat} {c : Ct} : wkF n nL 0 c = bec c := rfl
theorem vC_wkF {n nL i : Nat} {c : Ct} (h : vC n nL c) : vC n nL (wkF n nL i c) := vC_weeks (vC_bec h)
theorem zn_wkF {n nL i : Nat} {c : Ct} (hn : n ≤ 6) (hL : nL ≤ 6) (h : zn c) : zn (wkF n nL i c) := zn_weeks hn hL (zn_bec h)
/-- is letter l open behind i weeks? -/
def opP (n nL l : Nat) (c : Ct) (i : Nat) : Bool := (ob (wkF n nL i c)).testBit l
theorem opP_0 {n nL l : Nat} {c : Ct} : opP n nL l c 0 = (ob c).testBit l := rfl
theorem opP_s {n nL l i : Nat} {c : Ct} (h : vC n nL c) (e : opP n nL l c i = true) : opP n nL l c (i + 1) = true := by
  obtain ⟨hv, b, h1, h2, h3⟩ := week_N (vC_wkF (i := i) h)
  unfold opP at *
  rw [wk_succ, (h3 l).1, e, Bool.true_or]
theorem opP_m {n nL l i j : Nat} {c : Ct} (h : vC n nL c) (hij : i ≤ j) (e : opP n nL l c i = true) : opP n nL l c j = true := by
  obtain ⟨d, rfl⟩ := Nat.exists_eq_add_of_le hij
  clear hij
  induction d with
  | zero => exact e
  | succ d ih => exact opP_s h ih
theorem by_keep {n nL l i : Nat} {c : Ct} (h : vC n nL c) (e : opP n nL l c i = true ∨ opP n nL l c (i + 1) = false) : wkF n nL (i + 1) c 7 l = wkF n nL i c 7 l := by
  obtain ⟨hv, b, h1, h2, h3⟩ := week_N (vC_wkF (i := i) h)
  rw [wk_succ]
  refine (h3 l).2.2 ?_
  rcases e with e | e
  · exact (h3 l).2.1 e
  · have := (h3 l).1
    unfold opP at e
    rw [wk_succ] at e
    rw [e] at this
    cases z : b.testBit l with
    | false => rfl
    | true => rw [z] at this; simp at this
theorem by_later {n nL l i j : Nat} {c : Ct} (h : vC n nL c) (hij : i ≤ j) (e : opP n nL l c i = true) : wkF n nL j c 7 l = wkF n nL i c 7 l := by
  obtain ⟨d, rfl⟩ := Nat.exists_eq_add_of_le hij
  clear hij
  induction d with
  | zero => rfl
  | succ d ih =>
    have := by_keep h (Or.inl (opP_m h (Nat.le_add_right i d) e))
    rw [show i + (d + 1) = (i + d) + 1 by omega, this, ih]
theorem by_none {n nL l j : Nat} {c : Ct} (h : vC n nL c) (hl : l < 6) (e : opP n nL l c j = false) : wkF n nL j c 7 l = -9 := by
  induction j with
  | zero =>
    show bec c 7 l = -9
    unfold bec opN
    rw [if_pos rfl, if_pos hl]
  | succ j ih =>
    rw [by_keep h (Or.inr e)]
    refine ih ?_
    cases z : opP n nL l c j with
    | false => rfl
    | true => rw [opP_s h z] at e; cases e
theorem by_open {n nL l j : Nat} {c : Ct} (h : vC n nL c) (hl : l < 6) (e : (ob c).testBit l = true) : wkF n nL j c 7 l = -9 := by
  rw [by_later h (Nat.zero_le j) (show opP n nL l c 0 = true from e)]
  show bec c 7 l = -9
  unfold bec opN
  rw [if_pos rfl, if_pos hl]
def whF (n nL l : Nat) (c : Ct) : Int32 := fstG (opP n nL l c) 61 0
/-- the class's mind, weeks on -/
theorem m_passWeeks {st : St} {n nL w : Nat} {c : Ct} {K : Int32 → St → Prop} (hw : w < 2147483648) (hc : vC n nL c) (h : K (nI (pc (ob (wkF n nL w c)))) (sv st 99 (wkF n nL w c))) : w_X1_passWeeks 99 (nI w) (sv st 99 (bec c)) K :=
  s_passWeeks hw (vC_bec hc) h
theorem x_hateAfter {st : St} {c0 : Ct} {n nL p q w : Nat} {K : Int32 → St → Prop} (hz : zC (cv st 11)) (h0 : zn c0) (hv : vC n nL (cv st 11)) (hp : p < 6) (hq : q < 6) (hw : w < 2147483648) (h : ∀ c', zn c' → K (wkF n nL w (cv st 11) 4 (hI p q)) (sv st 99 c')) : w_X4_hateAfter (nI p) (nI q) (nI w) (sv st 99 c0) K := by
  unfold w_X4_hateAfter
  exact m_become hz h0 (m_passWeeks hw hv (s_hateOf hp hq (h _ (zn_wkF hv.1 hv.2.1 ⟨hz, nC_cv⟩))))
theorem x_openBitsAfter {st : St} {c0 : Ct} {n nL w : Nat} {K : Int32 → St → Prop} (hz : zC (cv st 11)) (h0 : zn c0) (hv : vC n nL (cv st 11)) (hw : w < 2147483648) (h : ∀ c', zn c' → K (nI (ob (wkF n nL w (cv st 11)))) (sv st 99 c')) : w_X4_openBitsAfter (nI w) (sv st 99 c0) K := by
  unfold w_X4_openBitsAfter
  refine m_become hz h0 (m_passWeeks hw hv ?_)
  unfold w_X1_openBits
  rw [sv_0, (vC_wkF hv).2.2.2.2.2.1]
  exact h _ (zn_wkF hv.1 hv.2.1 ⟨hz, nC_cv⟩)
theorem x_allHateAfter {st : St} {c0 : Ct} {n nL w : Nat} {K : Int32 → St → Prop} (hz : zC (cv st 11)) (h0 : zn c0) (hv : vC n nL (cv st 11)) (hw : w < 2147483648) (h : ∀ c', zn c' → K (allF n (wkF n nL w (cv st 11))) (sv st 99 c')) : w_X4_allHateAfter (nI w) (sv st 99 c0) K := by
  unfold w_X4_allHateAfter
  have z := zn_wkF (n := n) (nL := nL) (i := w) hv.1 hv.2.1 (⟨hz, nC_cv⟩ : zn (cv st 11))
  exact m_become hz h0 (m_passWeeks hw hv (m_allHate (vC_wkF hv) z.2 (h _ z)))
theorem rg0 {x a b : Int32} (h : rangeF x a b = 0) (c : Int32) : firstF 0 (rangeF x a b) c = c := by rw [h]; rfl
theorem sim_behind {st mt : St} (h : R st mt) (x1 x2 x3 : Int32) : w_X8_behind x1 x2 x3 st (fun r st' => w_X9_behind x1 x2 x3 mt (fun r' mt' => r = r' ∧ R st' mt')) := by
  obtain ⟨n, nL, hm, g, hn, hL, h7, h8, k8, k9⟩ := h.ctx
  unfold w_X8_behind
  refine s_twoRef h7 (s_range (s_firstOf ?_))
  by_cases e1 : twF n x1 x2 = 0
  · rw [nb0 e1, f1 (by decide)]
    refine n1 (by decide) (s_refused rO1 ?_)
    unfold w_X9_behind
    refine t_areTwo k8 (y2 e1 ?_)
    rw [w_X9_behind_b17]
    exact n1 (by decide) (t_no rO1 ⟨rfl, R_ref h rO1⟩)
  · rw [nb1 e1]
    by_cases e2 : rangeF x3 0 60 = 0
    · rw [rg0 e2]
      obtain ⟨p, q, hp, hq, hpq, rfl, rfl⟩ := twF_1 (by omega) e1
      obtain ⟨w, -, hw, rfl⟩ := rg_nI (a := 0) (b := 60) (by decide) (by decide) e2
      refine y1 rfl (mind0 (fun s => w_X4_hateAfter (nI p) (nI q) (nI w) s _) (fun c0 z0 => x_hateAfter h.z11 z0 hm.1 (by omega) (by omega) (by omega) fun c' zc => ?_) h.z99)
      unfold w_X9_behind
      refine t_areTwo k8 (n2 e1 (t_notWeeks ?_))
      rw [e2, w_X9_behind_b17]
      exact y1 rfl (t_hateIn (by omega) hm hp hq hpq fun mt' hh => ⟨rfl, R_mind h zc hh.tf⟩)
    · rw [f01 e2]
      refine n1 e2 (s_refused (rg_ok e2) ?_)
      unfold w_X9_behind
      refine t_areTwo k8 (n2 e1 (t_notWeeks ?_))
      rw [w_X9_behind_b17]
      exact n1 e2 (t_no (rg_ok e2) ⟨rfl, R_ref h (rg_ok e2)⟩)
theorem sim_used {st mt : St} (h : R st mt) (x1 x2 x3 : Int32) : w_X8_used x1 x2 x3 st (fun r st' => w_X9_used x1 x2 x3 mt (fun r' mt' => r = r' ∧ R st' mt')) := by
  obtain ⟨n, nL, hm, g, hn, hL, h7, h8, k8, k9⟩ := h.ctx
  unfold w_X8_used
  refine s_twoRef h7 (s_range (s_firstOf ?_))
  by_cases e1 : twF n x1 x2 = 0
  · rw [nb0 e1, f1 (by decide)]
    refine n1 (by decide) (s_refused rO1 ?_)
    unfold w_X9_used
    refine t_areTwo k8 (y2 e1 ?_)
    rw [w_X9_used_b17]
    exact n1 (by decide) (t_lower rO1 ⟨rfl, R_ref h rO1⟩)
  · rw [nb1 e1]
    by_cases e2 : rangeF x3 0 60 = 0
    · rw [rg0 e2]
      obtain ⟨p, q, hp, hq, hpq, rfl, rfl⟩ := twF_1 (by omega) e1
      obtain ⟨w, -, hw, rfl⟩ := rg_nI (a := 0) (b := 60) (by decide) (by decide) e2
      refine y1 rfl (x_hateOf (by omega) (by omega) (mind0 (fun s => w_X4_hateAfter (nI p) (nI q) (nI w) s _) (fun c0 z0 => x_hateAfter h.z11 z0 hm.1 (by omega) (by omega) (by omega) fun c' zc => ?_) h.z99))
      unfold w_X9_used
      refine t_areTwo k8 (n2 e1 (t_notWeeks ?_))
      rw [e2, w_X9_used_b17]
      refine y1 rfl (t_hateOf (by omega) (by omega) (t_hateIn (by omega) hm hp hq hpq fun mt' hh => ⟨?_, R_mind h zc hh.tf⟩))
      rw [hm.hate hp hq hpq]
    · rw [f01 e2]
      refine n1 e2 (s_refused (rg_ok e2) ?_)
      unfold w_X9_used
      refine t_areTwo k8 (n2 e1 (t_notWeeks ?_))
      rw [w_X9_used_b17]
      exact n1 e2 (t_lower (rg_ok e2) ⟨rfl, R_ref h (rg_ok e2)⟩)
theorem sim_then {st mt : St} (h : R st mt) (x1 x2 : Int32) : w_X8_then x1 x2 st (fun r st' => w_X9_then x1 x2 mt (fun r' mt' => r = r' ∧ R st' mt')) := by
  obtain ⟨n, nL, hm, g, hn, hL, h7, h8, k8, k9⟩ := h.ctx
  unfold w_X8_then
  refine s_range (s_choice (s_firstOf ?_))
  by_cases e1 : rangeF x1 0 60 = 0
  · rw [e1]
    obtain ⟨w, -, hw, rfl⟩ := rg_nI (a := 0) (b := 60) (by decide) (by decide) e1
    by_cases e2 : inF x2 0 1 = 0
    · rw [ch_out e2, f0, if_neg (by decide)]
      refine n1 (by decide) (s_refused rO2 ?_)
      unfold w_X9_then
      refine t_notWeeks ?_
      rw [e1]
      refine y2 rfl (t_isIn' (y2 e2 ?_))
      rw [w_X9_then_b21]
      exact n1 (by decide) (t_no rO2 ⟨rfl, R_ref h rO2⟩)
    · rw [ch_in e2, f0, if_pos rfl]
      have key : ∀ K : Int32 → St → Prop, w_X9_then_b21 (nI w) x2 K 0 mt → w_X9_then (nI w) x2 mt K := fun K hK => by
        unfold w_X9_then
        refine t_notWeeks ?_
        rw [e1]
        exact y2 rfl (t_isIn' (n2 e2 hK))
      refine y1 rfl ⟨fun z => mind0 (fun s => w_X4_allHateAfter (nI w) s _) (fun c0 z0 => x_allHateAfter h.z11 z0 hm.1 (by omega) fun c' zc => key _ ?_) h.z99, fun z => mind0 (fun s => w_X4_openBitsAfter (nI w) s _) (fun c0 z0 => x_openBitsAfter h.z11 z0 hm.1 (by omega) fun c' zc => key _ ?_) h.z99⟩
      · rw [w_X9_then_b21]
        exact y1 rfl (n2 z (t_think hm fun s e3 e4 => t_goesOn (by omega) e3 fun s1 e5 e6 => t_allHate e5 (t_forget (e4.wf e6) fun s' hh _ _ => ⟨rfl, R_mind h zc hh.tf⟩)))
      · rw [w_X9_then_b21]
        exact y1 rfl (y2 z (t_openIn (by omega) hm fun mt' hh => ⟨rfl, R_mind h zc hh.tf⟩))
  · rw [f1 e1]
    refine n1 e1 (s_refused (rg_ok e1) ?_)
    unfold w_X9_then
    refine t_notWeeks (n2 e1 ?_)
    rw [w_X9_then_b21]
    exact n1 e1 (t_no (rg_ok e1) ⟨rfl, R_ref h (rg_ok e1)⟩)
