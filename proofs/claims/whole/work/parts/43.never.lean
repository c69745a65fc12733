/-! pure part: never, insult, two -/
/-- letter l is opened in week n, first -/
def Fst (n nL : Nat) (c : Ct) (l w : Nat) : Prop := 1 ≤ w ∧ w ≤ 60 ∧ opP n nL l c w = true ∧ opP n nL l c (w - 1) = false
theorem Fst_1 {n nL l w w' : Nat} {c : Ct} (hv : vC n nL c) (h : Fst n nL c l w) (h' : Fst n nL c l w') : w = w' := by
  obtain ⟨a1, a2, a3, a4⟩ := h
  obtain ⟨b1, b2, b3, b4⟩ := h'
  rcases Nat.lt_trichotomy w w' with z | z | z
  · rw [opP_m hv (show w ≤ w' - 1 by omega) a3] at b4; cases b4
  · exact z
  · rw [opP_m hv (show w' ≤ w - 1 by omega) b3] at a4; cases a4
theorem wh_cases {n nL l : Nat} {c : Ct} (hv : vC n nL c) : ((whF n nL l c = -9 ∨ whF n nL l c = 0) ∧ ∀ w, ¬ Fst n nL c l w) ∨ ∃ w, whF n nL l c = nI w ∧ Fst n nL c l w := by
  rcases fstG_some (P := opP n nL l c) 61 0 with ⟨h1, h2⟩ | ⟨w, h1, h2, h3, h4, h5⟩
  · refine Or.inl ⟨Or.inl h1, fun w hw => ?_⟩
    have := h2 w (Nat.zero_le w) (by have := hw.2.1; omega)
    rw [hw.2.2.1] at this; cases this
  · by_cases e : w = 0
    · subst e
      refine Or.inl ⟨Or.inr h3, fun w hw => ?_⟩
      have := opP_m hv (Nat.zero_le (w - 1)) h4
      rw [hw.2.2.2] at this; cases this
    · exact Or.inr ⟨w, h3, by omega, by omega, h4, h5 (w - 1) (Nat.zero_le _) (by omega)⟩
/-- what `first` asks for -/
def ChF (n nL : Nat) (c : Ct) (e : Nat) (v : Int32) (so : Nat) : Prop :=
  (v = -9 ∧ so = 61 ∧ ∀ l, l < e → ∀ w, ¬ Fst n nL c l w) ∨ ∃ l, v = nI l ∧ l < e ∧ Fst n nL c l so ∧ ∀ l' w', l' < e → Fst n nL c l' w' → so < w' ∨ (so = w' ∧ l ≤ l')
theorem ChF_1 {n nL e : Nat} {c : Ct} {v v' : Int32} {s s' : Nat} (h : ChF n nL c e v s) (h' : ChF n nL c e v' s') : v = v' := by
  rcases h with ⟨a1, -, a3⟩ | ⟨l, a1, a2, a3, a4⟩
  · rcases h' with ⟨b1, -, -⟩ | ⟨l', b1, b2, b3, -⟩
    · rw [a1, b1]
    · exact absurd b3 (a3 l' b2 s')
  · rcases h' with ⟨b1, -, b3⟩ | ⟨l', b1, b2, b3, b4⟩
    · exact absurd a3 (b3 l a2 s)
    · have c1 := a4 l' s' b2 b3
      have c2 := b4 l s a2 a3
      have : l = l' := by omega
      rw [a1, b1, this]
theorem x_firstOpened {st : St} {c0 : Ct} {n nL : Nat} {K : Int32 → St → Prop} (hz : zC (cv st 11)) (h0 : zn c0) (hv : vC n nL (cv st 11)) (h : ∀ v so c', ChF n nL (cv st 11) nL v so → zn c' → K v (sv st 99 c')) : w_X4_firstOpened (sv st 99 c0) K := by
  have hL := hv.2.1
  unfold w_X4_firstOpened
  refine m_become hz h0 ?_
  have zz : ∀ i, zn (wkF n nL i (cv st 11)) := fun i => zn_wkF hv.1 hv.2.1 ⟨hz, nC_cv⟩
  show ∃ m, w_X4_firstOpened_L13 K m (nI 1) (sv st 99 (wkF n nL (1 - 1) (cv st 11)))
  refine lo_rel (fun m i (_ : Unit) => w_X4_firstOpened_L13 K m (nI i) (sv st 99 (wkF n nL (i - 1) (cv st 11)))) (fun i _ => ∀ l, l < nL → ∀ w, w < i → ¬ Fst n nL (cv st 11) l w) () (show 1 ≤ 61 by decide) (fun l _ w hw hf => by have := hf.1; omega) (fun _ hI m => ?_) (fun m i _ h1 hi hI hw => ?_)
  · rw [w_X4_firstOpened_L13, w_X4_firstOpened_L13q]
    exact y1 gt61 (h (-9) 61 _ (Or.inl ⟨rfl, rfl, fun l hl w hf => hI l hl w (by have := hf.2.1; omega) hf⟩) (zz 60))
  · rw [w_X4_firstOpened_L13, w_X4_firstOpened_L13q]
    refine n1 (gt60 hi) (s_week1 (vC_wkF hv) ?_)
    rw [weeks_s, show i - 1 + 1 = i by omega]
    obtain ⟨hv', b, g1, g2, g3⟩ := week_N (vC_wkF (i := i - 1) hv)
    rw [g1]
    rw [weeks_s, show i - 1 + 1 = i by omega] at g3
    have bt : ∀ l, b.testBit l = true ↔ Fst n nL (cv st 11) l i := fun l => by
      have q := g3 l
      unfold Fst opP
      constructor
      · intro z
        refine ⟨h1, by omega, by rw [q.1, z, Bool.or_true], ?_⟩
        cases y : (ob (wkF n nL (i - 1) (cv st 11))).testBit l with
        | false => rfl
        | true => rw [q.2.1 y] at z; cases z
      · intro z
        have := q.1
        rw [z.2.2.1, z.2.2.2, Bool.false_or] at this
        exact this.symm
    have b256 : b < 256 := by have := p64 hL g2; omega
    refine lo_fst (W := fun k l => w_X4_firstOpened_L29 (fun v1 st => w_X4_firstOpened_L13 K m v1 st) K k (nI i) (nI b) (nI l) (sv st 99 (wkF n nL i (cv st 11)))) (P := fun l => b.testBit l) (Q := fun v => v = fstG (fun l => b.testBit l) 6 0) (Nat.zero_le 6) (fun hQ => ⟨1, ?_⟩) (fun l _ hl hP hQ => ⟨1, ?_⟩) (fun k l _ hl hP hk => ?_) rfl
    · rw [w_X4_firstOpened_L29, w_X4_firstOpened_L29q]
      refine y1 (nI_le (Nat.le_refl 6) (by decide)) ?_
      rw [w_X4_firstOpened_b52, nI_inc]
      refine hw () fun l hl w hwi hf => ?_
      by_cases e : w = i
      · subst e
        rcases fstG_some (P := fun l => b.testBit l) 6 0 with ⟨-, z2⟩ | ⟨w', z1, z2, z3, z4, -⟩
        · have := z2 l (Nat.zero_le l) (by omega)
          rw [(bt l).mpr hf] at this; cases this
        · have : (-9 : Int32) = nI w' := hQ.trans z3
          exact absurd (show nI w' < 0 by rw [← this]; decide) (n_lt0 (by omega))
      · exact hI l hl w (by omega) hf
    · rw [w_X4_firstOpened_L29, w_X4_firstOpened_L29q]
      refine n1 (nI_ge hl (by decide)) (s_bitN b256 (by omega) ?_)
      rw [if_pos hP]
      have fl := (bt l).mp hP
      have lL : l < nL := by
        refine Nat.not_le.mp fun z => ?_
        have := Nat.testBit_lt_two_pow (Nat.lt_of_lt_of_le g2 (Nat.pow_le_pow_right (by decide) z))
        rw [hP] at this; cases this
      refine y2 rfl (h (nI l) i _ (Or.inr ⟨l, rfl, lL, fl, fun l' w' hl' hf' => ?_⟩) (zz i))
      by_cases e : w' < i
      · exact absurd hf' (hI l' hl' w' e)
      · by_cases e2 : w' = i
        · subst e2
          refine Or.inr ⟨rfl, ?_⟩
          rcases fstG_some (P := fun l => b.testBit l) 6 0 with ⟨z1, -⟩ | ⟨w2, z1, z2, z3, z4, z5⟩
          · have : nI l = -9 := hQ.trans z1
            exact absurd (show nI l < 0 by rw [this]; decide) (n_lt0 (by omega))
          · have e3 : l = w2 := nI_eqI (by omega) (by omega) (hQ.trans z3)
            subst e3
            refine Nat.not_lt.mp fun y => ?_
            have := z5 l' (Nat.zero_le _) y
            rw [(bt l').mpr hf'] at this; cases this
        · exact Or.inl (by omega)
    · rw [w_X4_firstOpened_L29, w_X4_firstOpened_L29q]
      refine n1 (nI_ge hl (by decide)) (s_bitN b256 (by omega) ?_)
      rw [if_neg (by rw [hP]; decide)]
      refine n2 (by decide) ?_
      rw [nI_inc]
      exact hk
theorem t_firstOne {n nL : Nat} {mt : St} {c : Ct} {K : Int32 → St → Prop} (hm : RM n nL mt c) (hk : ∀ v so mt', ChF n nL c nL v so → hf mt mt' → K v mt') : w_X9_firstOne mt K := by
  have hL := hm.1.2.1
  have hv := hm.1
  unfold w_X9_firstOne
  show ∃ m, w_X9_firstOne_L8 K m (-9) (nI 61) (nI 0) mt
  refine lo_rel (fun m l (z : Int32 × Nat × St) => w_X9_firstOne_L8 K m z.1 (nI z.2.1) (nI l) z.2.2) (fun l z => ChF n nL c l z.1 z.2.1 ∧ z.2.1 ≤ 61 ∧ hf mt z.2.2) ((-9 : Int32), 61, mt) (Nat.zero_le nL) ⟨Or.inl ⟨rfl, rfl, fun l hl => absurd hl (Nat.not_lt_zero l)⟩, Nat.le_refl 61, hf_rf⟩ (fun z hI m => ?_) (fun m l z _ hl hI hw => ?_)
  · obtain ⟨i1, i2, i3⟩ := hI
    have hm' := RM_hf hm i3
    rw [w_X9_firstOne_L8, w_X9_firstOne_L8q, hm'.2.2.2.1]
    exact y1 (nI_le (Nat.le_refl nL) (by omega)) (hk _ _ _ i1 i3)
  · obtain ⟨i1, i2, i3⟩ := hI
    have hm' := RM_hf hm i3
    rw [w_X9_firstOne_L8, w_X9_firstOne_L8q, hm'.2.2.2.1]
    refine n1 (nI_ge hl (by omega)) (t_whenOf hm' hl fun s' hh _ => ?_)
    have keep : ChF n nL c (l + 1) z.1 z.2.1 → w_X9_firstOne_b42 (fun v1 v2 v3 st => w_X9_firstOne_L8 K m v1 v2 v3 st) K z.1 (nI z.2.1) (nI l) s' := fun q => by
      rw [w_X9_firstOne_b42, nI_inc]
      exact hw (z.1, z.2.1, s') ⟨q, i2, i3.tr hh⟩
    rcases wh_cases (l := l) hv with ⟨e1, e2⟩ | ⟨w, e1, e2⟩
    · have le0 : whF n nL l c ≤ 0 := by rcases e1 with e | e <;> rw [e] <;> decide
      refine y1 le0 (keep ?_)
      rcases i1 with ⟨a1, a2, a3⟩ | ⟨l0, a1, a2, a3, a4⟩
      · refine Or.inl ⟨a1, a2, fun l' hl' w' hf' => ?_⟩
        by_cases e : l' = l
        · subst e; exact e2 w' hf'
        · exact a3 l' (by omega) w' hf'
      · refine Or.inr ⟨l0, a1, by omega, a3, fun l' w' hl' hf' => ?_⟩
        by_cases e : l' = l
        · subst e; exact absurd hf' (e2 w')
        · exact a4 l' w' (by omega) hf'
    · rw [e1]
      have w1 := e2.1
      have w60 := e2.2.1
      refine n1 (fun y => absurd ((nJ_le (b := 0) (by omega) (by decide)).mp y) (by omega)) ?_
      by_cases lt : w < z.2.1
      · refine y1 ((nJ_lt (by omega) (by omega)).mpr lt) ?_
        rw [w_X9_firstOne_b42, nI_inc]
        refine hw (nI l, w, s') ⟨Or.inr ⟨l, rfl, by omega, e2, fun l' w' hl' hf' => ?_⟩, by show w ≤ 61; omega, i3.tr hh⟩
        by_cases e : l' = l
        · subst e; exact Or.inr ⟨Fst_1 hv e2 hf', Nat.le_refl _⟩
        · rcases i1 with ⟨a1, a2, a3⟩ | ⟨l0, a1, a2, a3, a4⟩
          · exact absurd hf' (a3 l' (by omega) w')
          · have := a4 l' w' (by omega) hf'
            exact Or.inl (show w < w' by omega)
      · refine n1 (fun y => lt ((nJ_lt (by omega) (by omega)).mp y)) (keep ?_)
        rcases i1 with ⟨a1, a2, a3⟩ | ⟨l0, a1, a2, a3, a4⟩
        · omega
        · refine Or.inr ⟨l0, a1, by omega, a3, fun l' w' hl' hf' => ?_⟩
          by_cases e : l' = l
          · subst e
            have := Fst_1 hv e2 hf'
            omega
          · exact a4 l' w' (by omega) hf'
theorem sim_never {st mt : St} (h : R st mt) (x1 : Int32) : w_X8_never x1 st (fun r st' => w_X9_never x1 mt (fun r' mt' => r = r' ∧ R st' mt')) := by
  obtain ⟨n, nL, hm, g, hn, hL, h7, h8, k8, k9⟩ := h.ctx
  unfold w_X8_never
  refine s_choice ?_
  by_cases e : inF x1 0 1 = 0
  · rw [ch_out e]
    refine n1 (by decide) (s_refused rO2 ?_)
    unfold w_X9_never
    exact t_isIn' (y2 e (t_no rO2 ⟨rfl, R_ref h rO2⟩))
  · rw [ch_in e]
    refine y1 rfl ⟨fun z => mind0 (fun s => w_X4_firstOpened s _) (fun c0 z0 => x_firstOpened h.z11 z0 hm.1 fun v so c' hc zc => ?_) h.z99, fun z => mind0 (fun s => w_X4_sealedFar s _) (fun c0 z0 => ?_) h.z99⟩
    · unfold w_X9_never
      exact t_isIn' (n2 e (n2 z (t_firstOne hm fun v' so' mt' hc' hh => ⟨ChF_1 hc hc', R_mind h zc hh.tf⟩)))
    · unfold w_X4_sealedFar w_X1_letterCount
      rw [o11, h8]
      refine x_openBitsAfter (w := 60) h.z11 z0 hm.1 (by decide) fun c' zc => ?_
      unfold w_X9_never
      refine t_isIn' (n2 e (y2 z (t_openIn (w := 60) (by decide) hm fun mt' hh => ⟨?_, R_mind h zc hh.tf⟩)))
      rw [k9]
/-- the name of a two -/
def nmF (p q : Nat) : Int32 := nI (10 * min p q + max p q)
theorem nm_ne {p q : Nat} (hp : p < 6) (hq : q < 6) : (-9 : Int32) ≠ nmF p q := fun z => by
  have : nmF p q < 0 := by rw [← z]; decide
  exact absurd this (n_lt0 (by omega))
theorem t_isOpenedBy {n nL p q l : Nat} {mt : St} {c : Ct} {K : Int32 → St → Prop} (hm : RM n nL mt c) (hp : p < n) (hq : q < n) (hpq : p ≠ q) (hl : l < nL) (hs : (ob c).testBit l = false)
    (hk : ∀ mt', hf mt mt' → K (if wkF n nL 1 c 7 l = nmF p q then 1 else 0) mt') : w_X9_isOpenedBy (nI p) (nI q) (nI l) mt K := by
  have hn := hm.1.1
  have hL := hm.1.2.1
  have cl : (nI l).toNatClampNeg = l := clI (show l < 6 by omega) (by decide)
  unfold w_X9_isOpenedBy
  refine t_think hm fun s e3 e4 => t_goesWeek e3 fun s1 e5 e6 e7 => ?_
  have e5' : RM n nL s1 (wkF n nL 1 c) := e5
  rw [cl, (e5'.2.2.2.2.2.2.2 l hl).2.2.2]
  have vi : vp_in (nI l) 6 := vp_in_nI (by omega) (by decide)
  have fin : ∀ v : Int32, (v = 0 ∨ v = 1) → (if wkF n nL 1 c 7 l = nmF p q then 1 else 0) = v → w_X9_isOpenedBy_b52 (nI p) (nI q) (nI l) K v s1 := fun v hv e => by
    rw [w_X9_isOpenedBy_b52]
    refine t_forget (e4.wf e6) fun s' hh _ _ => ⟨hv, ?_⟩
    rw [← e]
    exact hk s' hh
  refine ⟨vi, ?_⟩
  by_cases eb : (ob (wkF n nL 1 c)).testBit l = true
  · rw [if_pos eb]
    refine y2 rfl ⟨vi, ?_⟩
    obtain ⟨b, cnt, f1, f2, f3, f4, f5, f6⟩ := e7
    obtain ⟨hv, b', g1, g2, g3⟩ := week_N (vC_bec hm.1)
    have ebb : b = b' := nI_eqI (by have := p64 hL f2; omega) (by have := p64 hL g2; omega) (f1.symm.trans g1)
    subst ebb
    have bt : b.testBit l = true := by
      have := (g3 l).1
      rw [ob_bec, hs, Bool.false_or] at this
      rw [← this]
      exact eb
    have e14 : s1 14 l = wkF n nL 1 c 7 l := by
      have := f6 l hl
      rw [if_pos bt] at this
      exact this
    rw [e14]
    have fin2 : w_X9_isOpenedBy_b44 (nI p) (nI q) (nI l) K (nmF p q) (wkF n nL 1 c 7 l) s1 := by
      rw [w_X9_isOpenedBy_b44]
      by_cases en : wkF n nL 1 c 7 l = nmF p q
      · exact y2 en (fin 1 (Or.inr rfl) (if_pos en))
      · refine n2 en ?_
        rw [w_X9_isOpenedBy_b51]
        exact fin 0 (Or.inl rfl) (if_neg en)
    by_cases lt : q ≤ p
    · refine y1 (nI_le lt (by omega)) ?_
      rw [n10 q (by omega) p (by omega)]
      unfold nmF at fin2
      rw [show min p q = q by omega, show max p q = p by omega] at fin2
      exact fin2
    · refine n1 (fun z => lt ((nJ_le (by omega) (by omega)).mp z)) ?_
      rw [n10 p (by omega) q (by omega)]
      unfold nmF at fin2
      rw [show min p q = p by omega, show max p q = q by omega] at fin2
      exact fin2
  · rw [if_neg eb]
    refine n2 (by decide) ?_
    rw [w_X9_isOpenedBy_b51]
    refine fin 0 (Or.inl rfl) (if_neg ?_)
    have : opP n nL l c 1 = false := by
      unfold opP
      cases z : (ob (wkF n nL 1 c)).testBit l with
      | false => rfl
      | true => exact absurd z eb
    rw [by_none hm.1 (by omega) this]
    exact nm_ne (by omega) (by omega)
/-- the country with one two hating more -/
def moF (c : Ct) (p q v : Nat) : Ct := u2 c 4 (hI p q) (heldF (c 4 (hI p q) + nI v))
def inP (n nL p q l : Nat) (c : Ct) (v : Nat) : Bool := decide (wkF n nL 1 (moF c p q v) 7 l = nmF p q)
theorem sets_id {mt : St} {p q : Nat} {v : Int32} (h1 : mt 5 (6 * p + q) = v) (h2 : mt 5 (6 * q + p) = v) : setsF mt p q v = mt := by
  unfold setsF
  rw [u2_id h1, u2_id h2]
theorem setsF2 {s : St} {p q : Nat} {v : Int32} : setsF s p q v 5 (6 * q + p) = v := u2_same
theorem gt99 {i : Nat} (hi : i < 100) : ¬ 99 < nI i := i_nlt.mpr (nI_le (show i ≤ 99 by omega) (by decide))
theorem sim_insult {st mt : St} (h : R st mt) (x1 x2 x3 : Int32) : w_X8_insult x1 x2 x3 st (fun r st' => w_X9_insult x1 x2 x3 mt (fun r' mt' => r = r' ∧ R st' mt')) := by
  obtain ⟨n, nL, hm, g, hn, hL, h7, h8, k8, k9⟩ := h.ctx
  have main : ∀ v : Int32, (∀ l, l < nL → x3 = nI l → ((ob (cv st 11)).testBit l = true ∧ v = -3) ∨ ((ob (cv st 11)).testBit l = false ∧ v = 0)) → w_X8_insult_b17 x1 x2 x3 (fun r st' => w_X9_insult x1 x2 x3 mt (fun r' mt' => r = r' ∧ R st' mt')) v st := by
    intro v hv
    rw [w_X8_insult_b17]
    refine s_twoRef h7 (s_letterRef h8 (s_firstOf ?_))
    by_cases e1 : twF n x1 x2 = 0
    · rw [nb0 e1, f1 (by decide)]
      refine n1 (by decide) (s_refused rO1 ?_)
      unfold w_X9_insult
      refine t_areTwo k8 (y1 e1 ?_)
      rw [w_X9_insult_b17, w_X9_insult_b37]
      exact n1 (by decide) (t_no rO1 ⟨rfl, R_ref h rO1⟩)
    · rw [nb1 e1]
      by_cases e2 : isF nL x3 = 0
      · rw [nb0 e2, f01 (by decide)]
        refine n1 (by decide) (s_refused rO1 ?_)
        unfold w_X9_insult
        refine t_areTwo k8 (n1 e1 (t_isLetter k9 (y2 e2 ?_)))
        rw [w_X9_insult_b17, w_X9_insult_b37]
        exact n1 (by decide) (t_no rO1 ⟨rfl, R_ref h rO1⟩)
      · rw [nb1 e2, f00]
        obtain ⟨l, hl, rfl⟩ := isF_1 (by omega) e2
        obtain ⟨p, q, hp, hq, hpq, rfl, rfl⟩ := twF_1 (by omega) e1
        have cl : (nI l).toNatClampNeg = l := clI (show l < 6 by omega) (by decide)
        have vi : vp_in (nI l) 6 := vp_in_nI (by omega) (by decide)
        have a4 := (hm.2.2.2.2.2.2.2 l hl).2.2.2
        rcases hv l hl rfl with ⟨eb, rfl⟩ | ⟨eb, rfl⟩
        · refine n1 (by decide) (s_refused rO3 ?_)
          unfold w_X9_insult
          refine t_areTwo k8 (n1 e1 (t_isLetter k9 (n2 e2 ⟨vi, ?_⟩)))
          rw [cl, a4, if_pos eb]
          refine y2 rfl ?_
          rw [w_X9_insult_b37]
          exact n1 (by decide) (t_no rO3 ⟨rfl, R_ref h rO3⟩)
        · refine y1 rfl (mind0 (fun s => w_X4_leastInsult (nI p) (nI q) (nI l) s _) (fun c0 z0 => ?_) h.z99)
          have rm : ∀ s i, hf (setsF mt p q (moF (cv st 11) p q i 4 (hI p q))) s → RM n nL s (moF (cv st 11) p q i) := fun s i hs => by
            have := RM_sets (v := moF (cv st 11) p q i 4 (hI p q)) hm hp hq hpq (by unfold moF; rw [u2_same]; exact (heldF_in _).1) (by unfold moF; rw [u2_same]; exact (heldF_in _).2)
            have e : u2 (cv st 11) 4 (hI p q) (moF (cv st 11) p q i 4 (hI p q)) = moF (cv st 11) p q i := by
              unfold moF
              rw [u2_same]
            rw [e] at this
            exact RM_hf this hs
          have vmo : ∀ i, vC n nL (moF (cv st 11) p q i) := fun i => vC_u4 hm.1 (by decide) (by decide)
          have zmo : ∀ i, zn (moF (cv st 11) p q i) := fun i => zn_hate ⟨h.z11, nC_cv⟩ (by omega) (by omega)
          have zw : ∀ i, zn (wkF n nL 1 (moF (cv st 11) p q i)) := fun i => zn_wkF hn hL (zmo i)
          have mo_e : ∀ i, u2 (bec (cv st 11)) 4 (hI p q) (heldF (cv st 11 4 (hI p q) + nI i)) = bec (moF (cv st 11) p q i) := fun i => (bec_u2 (by decide)).symm
          unfold w_X4_leastInsult
          refine lo_fstJ (W := fun m i s => w_X4_leastInsult_L3 (nI p) (nI q) (nI l) _ m (nI i) s) (P := inP n nL p q l (cv st 11)) (Q := fun v => ∀ c', zn c' → w_X9_insult (nI p) (nI q) (nI l) mt (fun r' mt' => v = r' ∧ R (sv st 99 c') mt')) (J := fun i s => ∃ c', zn c' ∧ s = sv st 99 c') (Nat.zero_le 100) ⟨c0, z0, rfl⟩ (fun m s hJ hQ => ?_) (fun m i s _ hi hJ hP hQ => ?_) (fun m i s _ hi hJ hP hw => ?_) ?_
          · obtain ⟨c', zc, rfl⟩ := hJ
            rw [w_X4_leastInsult_L3, w_X4_leastInsult_L3q]
            exact y1 (by decide) (hQ c' zc)
          · obtain ⟨c', zc, rfl⟩ := hJ
            rw [w_X4_leastInsult_L3, w_X4_leastInsult_L3q]
            refine n1 (gt99 hi) (m_become h.z11 zc (x_hateOf (by omega) (by omega) ?_))
            rw [c11]
            refine s_setHate (by omega) (by omega) ?_
            rw [mo_e]
            refine s_week1 (vC_bec (vmo i)) ?_
            show w_X1_openedBy 99 (nI l) (sv st 99 (wkF n nL 1 (moF (cv st 11) p q i))) _
            exact m_openedBy (by omega) (s_twoName (by omega) (by omega) (y2 (of_decide_eq_true hP) (hQ _ (zw i))))
          · obtain ⟨c', zc, rfl⟩ := hJ
            rw [w_X4_leastInsult_L3, w_X4_leastInsult_L3q]
            refine n1 (gt99 hi) (m_become h.z11 zc (x_hateOf (by omega) (by omega) ?_))
            rw [c11]
            refine s_setHate (by omega) (by omega) ?_
            rw [mo_e]
            refine s_week1 (vC_bec (vmo i)) ?_
            show w_X1_openedBy 99 (nI l) (sv st 99 (wkF n nL 1 (moF (cv st 11) p q i))) _
            refine m_openedBy (by omega) (s_twoName (by omega) (by omega) (n2 (of_decide_eq_false hP) ?_))
            rw [nI_inc]
            exact hw _ ⟨_, zw i, rfl⟩
          · intro c' zc
            unfold w_X9_insult
            refine t_areTwo k8 (n1 e1 (t_isLetter k9 (n2 e2 ⟨vi, ?_⟩)))
            rw [cl, a4, if_neg (by rw [eb]; decide)]
            refine n2 (by decide) ?_
            rw [w_X9_insult_b37]
            refine y1 rfl (t_hateOf (by omega) (by omega) ?_)
            have ho := hm.hate hp hq hpq
            have ho2 := hm.hate hq hp (Ne.symm hpq)
            rw [hI_comm] at ho2
            rw [ho]
            have fin : ∀ w s v, hf (setsF mt p q w) s → v = fstG (inP n nL p q l (cv st 11)) (100 - 0) 0 → w_X9_insult_b120 (nI p) (nI q) (nI l) (fun r' mt' => fstG (inP n nL p q l (cv st 11)) (100 - 0) 0 = r' ∧ R (sv st 99 c') mt') (cv st 11 4 (hI p q)) v s := fun w s v hs hv => by
              rw [w_X9_insult_b120]
              exact t_sets (by omega) (by omega) ⟨hv.symm, R_mind h zc (hf_unset hs (by omega) (by omega) hpq ho ho2).tf⟩
            have stp : ∀ i s w K, hf (setsF mt p q w) s → (∀ s', hf (setsF mt p q (moF (cv st 11) p q i 4 (hI p q))) s' → K (if wkF n nL 1 (moF (cv st 11) p q i) 7 l = nmF p q then 1 else 0) s') → w_X9_held (cv st 11 4 (hI p q) + nI i) 0 99 s (fun r89 st89 => w_X9_sets (nI p) (nI q) r89 st89 (fun st92 => w_X9_isOpenedBy (nI p) (nI q) (nI l) st92 K)) := fun i s w K hs hk => by
              refine t_held (t_sets (by omega) (by omega) ?_)
              rw [hlF_held]
              have e : heldF (cv st 11 4 (hI p q) + nI i) = moF (cv st 11) p q i 4 (hI p q) := by unfold moF; rw [u2_same]
              rw [e]
              have h1 : hf (setsF mt p q (moF (cv st 11) p q i 4 (hI p q))) (setsF s p q (moF (cv st 11) p q i 4 (hI p q))) := hf_sets hs (by omega) (by omega) hpq
              exact t_isOpenedBy (rm _ i h1) hp hq hpq hl (by unfold moF; rw [ob_off (by decide)]; exact eb) fun s' hh => hk s' (h1.tr hh)
            obtain ⟨v, hv⟩ : ∃ v, v = fstG (inP n nL p q l (cv st 11)) (100 - 0) 0 := ⟨_, rfl⟩
            rw [← hv] at fin ⊢
            refine lo_fstJ (W := fun m i s => w_X9_insult_L66 (nI p) (nI q) (nI l) (fun r' mt' => v = r' ∧ R (sv st 99 c') mt') m (cv st 11 4 (hI p q)) (-9) (nI i) s) (P := inP n nL p q l (cv st 11)) (Q := fun x => x = v) (J := fun i s => ∃ w, hf (setsF mt p q w) s) (Nat.zero_le 100) ⟨cv st 11 4 (hI p q), by rw [sets_id ho ho2]; exact hf_rf⟩ (fun m s hJ hQ => ?_) (fun m i s _ hi hJ hP hQ => ?_) (fun m i s _ hi hJ hP hw => ?_) hv.symm
            · obtain ⟨w, hs⟩ := hJ
              rw [w_X9_insult_L66, w_X9_insult_L66q]
              exact y1 (by decide) (fin w s _ hs hQ)
            · obtain ⟨w, hs⟩ := hJ
              rw [w_X9_insult_L66, w_X9_insult_L66q]
              refine n1 (gt99 hi) (n1 (by decide) (stp i s w _ hs fun s' hh => ?_))
              rw [if_pos (of_decide_eq_true hP)]
              refine n1 (by decide) ?_
              rw [w_X9_insult_b112, w_X9_insult_L66, w_X9_insult_L66q]
              exact ⟨fun _ => fin _ s' _ hh hQ, fun _ => y1 (n_le0 (by omega)) (fin _ s' _ hh hQ)⟩
            · obtain ⟨w, hs⟩ := hJ
              rw [w_X9_insult_L66, w_X9_insult_L66q]
              refine n1 (gt99 hi) (n1 (by decide) (stp i s w _ hs fun s' hh => ?_))
              rw [if_neg (of_decide_eq_false hP)]
              refine y1 rfl ?_
              rw [w_X9_insult_b112, nI_inc]
              exact hw s' ⟨_, hh⟩
  unfold w_X8_insult
  refine rd (k := 11) (P := fun s => w_X1_isOpen 11 x3 s _) (s_isOpen ?_)
  rw [sv_cv]
  have bit : ∀ l, l < nL → x3 = nI l → bitF (cv st 11 0 9) x3 = if (ob (cv st 11)).testBit l then 1 else 0 := fun l hl e => by
    obtain ⟨-, h2, -, -, -, h6, h7⟩ := hm.1
    rw [e, h6, bit_is _ (p64 h2 h7) l (by omega)]
  by_cases eo : bitF (cv st 11 0 9) x3 = 1
  · rw [if_pos eo]
    refine n1 (by decide) (main (-3) fun l hl e => Or.inl ⟨?_, rfl⟩)
    have := bit l hl e
    rw [eo] at this
    cases z : (ob (cv st 11)).testBit l with
    | true => rfl
    | false => rw [z] at this; exact absurd this (by decide)
  · rw [if_neg eo]
    refine y1 rfl (main 0 fun l hl e => Or.inr ⟨?_, rfl⟩)
    have := bit l hl e
    cases z : (ob (cv st 11)).testBit l with
    | false => rfl
    | true => rw [z] at this; exact absurd this eo
