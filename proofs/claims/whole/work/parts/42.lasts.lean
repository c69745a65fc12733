/-! pure part: lasts, apart, when, never -/
theorem nI_s {i : Nat} (h1 : 1 ≤ i) : nI (i - 1) + 1 = nI i := by rw [nI_inc]; congr 1; omega
theorem gt60 {i : Nat} (hi : i < 61) : ¬ 60 < nI i := i_nlt.mpr (nI_le (show i ≤ 60 by omega) (by decide))
theorem gt61 : (60 : Int32) < nI 61 := by decide
theorem weeks_s {n nL i : Nat} {c : Ct} : (weekF n nL (wkF n nL i c)).2 = wkF n nL (i + 1) c := wk_succ.symm
def ltP (n nL p q : Nat) (d : Int32) (c : Ct) (i : Nat) : Bool := decide (wkF n nL i c 4 (hI p q) < d)
theorem sim_lasts {st mt : St} (h : R st mt) (x1 x2 x3 : Int32) : w_X8_lasts x1 x2 x3 st (fun r st' => w_X9_lasts x1 x2 x3 mt (fun r' mt' => r = r' ∧ R st' mt')) := by
  obtain ⟨n, nL, hm, g, hn, hL, h7, h8, k8, k9⟩ := h.ctx
  unfold w_X8_lasts
  refine s_twoRef h7 (s_range (s_firstOf ?_))
  by_cases e1 : twF n x1 x2 = 0
  · rw [nb0 e1, f1 (by decide)]
    refine n1 (by decide) (s_refused rO1 ?_)
    unfold w_X9_lasts
    refine t_areTwo k8 (y2 e1 ?_)
    rw [w_X9_lasts_b20]
    exact n1 (by decide) (t_no rO1 ⟨rfl, R_ref h rO1⟩)
  · rw [nb1 e1]
    by_cases e2 : rangeF x3 0 99 = 0
    · rw [rg0 e2]
      obtain ⟨p, q, hp, hq, hpq, rfl, rfl⟩ := twF_1 (by omega) e1
      refine y1 rfl (mind0 (fun s => w_X4_weekBelow (nI p) (nI q) x3 s _) (fun c0 z0 => ?_) h.z99)
      unfold w_X4_weekBelow
      refine m_become h.z11 z0 ?_
      have zz : ∀ i, zn (wkF n nL i (cv st 11)) := fun i => zn_wkF hn hL ⟨h.z11, nC_cv⟩
      refine lo_fst (W := fun m i => w_X4_weekBelow_L14 (nI p) (nI q) x3 _ m (nI i) (sv st 99 (wkF n nL i (cv st 11)))) (P := ltP n nL p q x3 (cv st 11)) (Q := fun v => ∀ c', zn c' → w_X9_lasts (nI p) (nI q) x3 mt (fun r' mt' => v = r' ∧ R (sv st 99 c') mt')) (Nat.zero_le 61) (fun hQ => ⟨1, ?_⟩) (fun i _ hi hP hQ => ⟨1, ?_⟩) (fun m i _ hi hP hw => ?_) ?_
      · rw [w_X4_weekBelow_L14, w_X4_weekBelow_L14q]
        exact y1 gt61 (hQ _ (zz 61))
      · rw [w_X4_weekBelow_L14, w_X4_weekBelow_L14q]
        refine n1 (gt60 hi) (s_hateOf (by omega) (by omega) (n1 (i_nle.mpr (of_decide_eq_true hP)) (hQ _ (zz i))))
      · rw [w_X4_weekBelow_L14, w_X4_weekBelow_L14q]
        refine n1 (gt60 hi) (s_hateOf (by omega) (by omega) (y1 (i_nlt.mp (of_decide_eq_false hP)) (s_week1 (vC_wkF hm.1) ?_)))
        rw [weeks_s, nI_inc]
        exact hw
      · intro c' zc
        unfold w_X9_lasts
        refine t_areTwo k8 (n2 e1 (t_bound ?_))
        rw [e2, w_X9_lasts_b20]
        refine y1 rfl (t_think hm fun s e3 e4 => ?_)
        have eh : ∀ i s, RM n nL s (wkF n nL i (cv st 11)) → s 5 (6 * p + q) = wkF n nL i (cv st 11) 4 (hI p q) := fun i s hs => hs.hate hp hq hpq
        refine lo_fstJ (W := fun m i s => w_X9_lasts_L45 (nI p) (nI q) x3 _ m (-9) (nI i) s) (P := ltP n nL p q x3 (cv st 11)) (Q := fun v => ∀ mt', hf mt mt' → fstG (ltP n nL p q x3 (cv st 11)) (61 - 0) 0 = v ∧ R (sv st 99 c') mt') (J := fun i s => RM n nL s (wkF n nL i (cv st 11)) ∧ th mt s) (Nat.zero_le 61) ⟨e3, e4⟩ (fun m s hJ hQ => ?_) (fun m i s _ hi hJ hP hQ => ?_) (fun m i s _ hi hJ hP hw => ?_) (fun mt' hh => ⟨rfl, R_mind h zc hh.tf⟩)
        · rw [w_X9_lasts_L45, w_X9_lasts_L45q]
          refine y1 gt61 ?_
          rw [w_X9_lasts_b86]
          exact t_forget hJ.2 fun s' hh _ _ => hQ s' hh
        · rw [w_X9_lasts_L45, w_X9_lasts_L45q]
          refine n1 (gt60 hi) (n1 (by decide) (t_hateOf (by omega) (by omega) ?_))
          rw [eh i s hJ.1]
          refine n1 (i_nle.mpr (of_decide_eq_true hP)) ?_
          rw [w_X9_lasts_b74]
          refine t_goesWeek hJ.1 fun s1 e5 e6 _ => ?_
          have fin : w_X9_lasts_b86 (nI p) (nI q) x3 (fun r' mt' => fstG (ltP n nL p q x3 (cv st 11)) (61 - 0) 0 = r' ∧ R (sv st 99 c') mt') (nI i) s1 := by
            rw [w_X9_lasts_b86]
            exact t_forget (hJ.2.wf e6) fun s' hh _ _ => hQ s' hh
          rw [w_X9_lasts_L45, w_X9_lasts_L45q]
          exact ⟨fun _ => fin, fun _ => y1 (n_le0 (by omega)) fin⟩
        · rw [w_X9_lasts_L45, w_X9_lasts_L45q]
          refine n1 (gt60 hi) (n1 (by decide) (t_hateOf (by omega) (by omega) ?_))
          rw [eh i s hJ.1]
          refine y1 (i_nlt.mp (of_decide_eq_false hP)) ?_
          rw [w_X9_lasts_b74]
          refine t_goesWeek hJ.1 fun s1 e5 e6 _ => ?_
          rw [nI_inc]
          exact hw s1 ⟨by rw [← weeks_s]; exact e5, hJ.2.wf e6⟩
    · rw [f01 e2]
      refine n1 e2 (s_refused (rg_ok e2) ?_)
      unfold w_X9_lasts
      refine t_areTwo k8 (n2 e1 (t_bound ?_))
      rw [w_X9_lasts_b20]
      exact n1 e2 (t_no (rg_ok e2) ⟨rfl, R_ref h (rg_ok e2)⟩)
/-- weeks in which nothing is opened -/
def idF (n nL w : Nat) (c : Ct) : Int32 := fr 0 w (fun i (s : Int32) => if (weekF n nL (wkF n nL i c)).1 = 0 then s + 1 else s) 0
theorem nI_inj0 {b : Nat} (hb : b < 2147483648) : nI b = 0 ↔ b = 0 := ⟨fun z => nI_eqI hb (by decide) (show nI b = nI 0 from z), fun z => by rw [z]; rfl⟩
theorem sim_apart {st mt : St} (h : R st mt) (x1 : Int32) : w_X8_apart x1 st (fun r st' => w_X9_apart x1 mt (fun r' mt' => r = r' ∧ R st' mt')) := by
  obtain ⟨n, nL, hm, g, hn, hL, h7, h8, k8, k9⟩ := h.ctx
  unfold w_X8_apart
  refine s_range ?_
  by_cases e2 : rangeF x1 0 60 = 0
  · rw [e2]
    obtain ⟨w, -, hw, rfl⟩ := rg_nI (a := 0) (b := 60) (by decide) (by decide) e2
    refine y1 rfl (mind0 (fun s => w_X4_idleWeeks (nI w) s _) (fun c0 z0 => ?_) h.z99)
    unfold w_X4_idleWeeks
    refine m_become h.z11 z0 ?_
    have zz : zn (wkF n nL w (cv st 11)) := zn_wkF hn hL ⟨h.z11, nC_cv⟩
    refine lo_fr (fun m i (s : Int32) => w_X4_idleWeeks_L15 (nI w) _ m s (nI i) (sv st 99 (wkF n nL i (cv st 11)))) (fun i (s : Int32) => if (weekF n nL (wkF n nL i (cv st 11))).1 = 0 then s + 1 else s) (fun _ _ => True) (0 : Int32) (Nat.zero_le w) trivial (fun _ _ _ _ _ => trivial) (fun _ m => ?_) (fun m i s _ hi _ hk => ?_)
    · rw [w_X4_idleWeeks_L15, w_X4_idleWeeks_L15q]
      refine y1 (nI_le (Nat.le_refl w) (by omega)) ?_
      unfold w_X9_apart
      refine t_notWeeks ?_
      rw [e2]
      refine y1 rfl (t_think hm fun s e3 e4 => ?_)
      refine lo_rel (fun m i (z : Int32 × St) => w_X9_apart_L24 (nI w) _ m z.1 (nI i) z.2) (fun i z => z.1 = idF n nL i (cv st 11) ∧ RM n nL z.2 (wkF n nL i (cv st 11)) ∧ th mt z.2) ((0 : Int32), s) (Nat.zero_le w) ⟨rfl, e3, e4⟩ (fun z hJ m => ?_) (fun m i z _ hi hJ hk => ?_)
      · rw [w_X9_apart_L24, w_X9_apart_L24q]
        refine y1 (nI_le (Nat.le_refl w) (by omega)) ?_
        rw [w_X9_apart_b55]
        exact t_forget hJ.2.2 fun s' hh _ _ => ⟨hJ.1.symm, R_mind h zz hh.tf⟩
      · rw [w_X9_apart_L24, w_X9_apart_L24q]
        refine n1 (nI_ge hi (by omega)) (t_goesWeek hJ.2.1 fun s1 e5 e6 e7 => ?_)
        obtain ⟨b, cnt, f1, f2, f3, f4, f5, -⟩ := e7
        have b64 := p64 hL f2
        rw [f3]
        have nx : ∀ v : Int32, z.1 + v = idF n nL (i + 1) (cv st 11) → w_X9_apart_b47 (nI w) (fun v3 v4 st_1 => w_X9_apart_L24 (nI w) (fun r' mt' => fr 0 w (fun i (s : Int32) => if (weekF n nL (wkF n nL i (cv st 11))).1 = 0 then s + 1 else s) 0 = r' ∧ R (sv st 99 (wkF n nL w (cv st 11))) mt') m v3 v4 st_1) (fun r' mt' => fr 0 w (fun i (s : Int32) => if (weekF n nL (wkF n nL i (cv st 11))).1 = 0 then s + 1 else s) 0 = r' ∧ R (sv st 99 (wkF n nL w (cv st 11))) mt') (nI i) v z.1 s1 := fun v ev => by
          rw [w_X9_apart_b47, nI_inc]
          exact hk (z.1 + v, s1) ⟨ev, by rw [← weeks_s]; exact e5, hJ.2.2.wf e6⟩
        have es : idF n nL (i + 1) (cv st 11) = if (weekF n nL (wkF n nL i (cv st 11))).1 = 0 then idF n nL i (cv st 11) + 1 else idF n nL i (cv st 11) := fr_succ (Nat.zero_le i) _ _
        by_cases ec : cnt = 0
        · refine y2 ((nI_inj0 (by omega)).mpr ec) (nx 1 ?_)
          rw [es, f1, if_pos ((nI_inj0 (by omega)).mpr (f5.mp ec)), hJ.1]
        · refine n2 (fun y => ec ((nI_inj0 (by omega)).mp y)) (nx 0 ?_)
          rw [es, f1, if_neg (fun y => ec (f5.mpr ((nI_inj0 (by omega)).mp y))), hJ.1, Int32.add_zero]
    · rw [w_X4_idleWeeks_L15, w_X4_idleWeeks_L15q]
      refine n1 (nI_ge hi (by omega)) (s_week1 (vC_wkF hm.1) ?_)
      rw [weeks_s]
      by_cases eb : (weekF n nL (wkF n nL i (cv st 11))).1 = 0
      · rw [if_pos eb] at hk
        refine y2 eb ?_
        rw [w_X4_idleWeeks_b33, nI_inc]
        exact hk
      · rw [if_neg eb] at hk
        refine n2 eb ?_
        rw [w_X4_idleWeeks_b33, nI_inc]
        exact hk
  · refine n1 e2 (s_refused (rg_ok e2) ?_)
    unfold w_X9_apart
    exact t_notWeeks (n1 e2 (t_no (rg_ok e2) ⟨rfl, R_ref h (rg_ok e2)⟩))
theorem fstG_succ (P : Nat → Bool) (d i : Nat) : fstG P (d + 1) i = if P i then nI i else fstG P d (i + 1) := rfl
theorem x_weekOpened {st : St} {c0 : Ct} {n nL l : Nat} {K : Int32 → St → Prop} (hz : zC (cv st 11)) (h0 : zn c0) (hv : vC n nL (cv st 11)) (hl : l < 6) (h : ∀ c', zn c' → K (whF n nL l (cv st 11)) (sv st 99 c')) : w_X4_weekOpened (nI l) (sv st 99 c0) K := by
  unfold w_X4_weekOpened
  refine m_become hz h0 ?_
  have zz : ∀ i, zn (wkF n nL i (cv st 11)) := fun i => zn_wkF hv.1 hv.2.1 ⟨hz, nC_cv⟩
  refine lo_fst (W := fun m i => w_X4_weekOpened_L13 (nI l) K m (nI i) (sv st 99 (wkF n nL i (cv st 11)))) (P := opP n nL l (cv st 11)) (Q := fun v => ∀ c', zn c' → K v (sv st 99 c')) (Nat.zero_le 61) (fun hQ => ⟨1, ?_⟩) (fun i _ hi hP hQ => ⟨1, ?_⟩) (fun m i _ hi hP hw => ?_) h
  · rw [w_X4_weekOpened_L13, w_X4_weekOpened_L13q]
    exact y1 gt61 (hQ _ (zz 61))
  · rw [w_X4_weekOpened_L13, w_X4_weekOpened_L13q]
    refine n1 (gt60 hi) (m_isOpen (vC_wkF hv) hl ?_)
    unfold opP at hP
    rw [if_pos hP]
    exact n1 (by decide) (hQ _ (zz i))
  · rw [w_X4_weekOpened_L13, w_X4_weekOpened_L13q]
    refine n1 (gt60 hi) (m_isOpen (vC_wkF hv) hl ?_)
    unfold opP at hP
    rw [if_neg (by rw [hP]; decide)]
    refine y1 rfl (s_week1 (vC_wkF hv) ?_)
    rw [weeks_s, nI_inc]
    exact hw
theorem t_think26 {n nL : Nat} {mt : St} {c : Ct} {K : St → Prop} (h : RM n nL mt c) (hk : ∀ s, RM n nL s (bec c) → th mt s → s 0 26 = mt 0 26 → K s) : w_X9_thinks mt K := by
  refine t_thinks fun s h1 h2 h3 h4 => hk s ?_ ⟨h3, fun j a b c d => h1 j a c, fun a p q r t u v w => h2 a t u, h4⟩ (h2 26 (by decide) (by decide))
  refine RM_bec (RM_lv h (fun i hi => ?_) (h2 11 (by decide) (by decide)))
  unfold lvM
  rw [h1 2 (by decide) (by decide), h1 3 (by decide) (by decide), h1 4 (by decide) (by decide), h1 5 (by decide) (by decide), h1 6 (by decide) (by decide), h1 7 (by decide) (by decide), h1 8 (by decide) (by decide), h2 8 (by decide) (by decide), h2 9 (by decide) (by decide), h2 10 (by decide) (by decide)]
/-- behind how many weeks first, and by whom, on the check's side -/
theorem t_whenOf {n nL l : Nat} {mt : St} {c : Ct} {K : Int32 → St → Prop} (hm : RM n nL mt c) (hl : l < nL) (hk : ∀ mt', hf mt mt' → mt' 0 26 = wkF n nL 60 c 7 l → K (whF n nL l c) mt') : w_X9_whenOf (nI l) mt K := by
  have hL := hm.1.2.1
  have a4 := (hm.2.2.2.2.2.2.2 l hl).2.2.2
  have cl : (nI l).toNatClampNeg = l := clI (show l < 6 by omega) (by decide)
  unfold w_X9_whenOf
  rw [cl, u2_off (show (8 : Nat) ≠ 0 by decide), a4]
  refine ⟨vp_in_nI (by omega) (by decide), ?_⟩
  have h1 : RM n nL (u2 mt 0 26 (-9)) c := RM_hf hm hf_u26
  by_cases eb : (ob c).testBit l = true
  · rw [if_pos eb]
    refine y2 rfl ?_
    have e : whF n nL l c = 0 := (fstG_succ (opP n nL l c) 60 0).trans (if_pos (by rw [opP_0, eb]))
    have := hk (u2 mt 0 26 (-9)) hf_u26 (by rw [u2_same, by_open hm.1 (by omega) eb])
    rwa [e] at this
  · rw [if_neg eb]
    have eb' : (ob c).testBit l = false := by
      cases z : (ob c).testBit l with
      | false => rfl
      | true => exact absurd z eb
    refine n2 (by decide) (t_think26 h1 fun s e3 e4 e26 => ?_)
    have e4' : th mt s := ⟨fun i hi => (e4.1 i hi).trans (hf_u26.1 i hi), fun j p q r t => (e4.2.1 j p q r t).trans (u2_off p), fun a p q r t u v w => (e4.2.2.1 a p q r t u v w).trans (u2_ne (Or.inr w)), fun a p => (e4.2.2.2 a p).trans (by rw [u2_off (by decide)])⟩
    have e : whF n nL l c = fstG (opP n nL l c) 60 1 := (fstG_succ (opP n nL l c) 60 0).trans (if_neg (by rw [opP_0, eb']; decide))
    obtain ⟨v, hv⟩ : ∃ v, v = whF n nL l c := ⟨_, rfl⟩
    rw [← hv] at hk
    rw [e] at hv
    -- the loop keeps byWhom till something is found
    have s26 : s 0 26 = -9 := e26.trans u2_same
    have first : ∀ j, j < 1 → opP n nL l c j = false := fun j hj => by
      have : j = 0 := by omega
      subst this
      exact eb'
    show ∃ n, w_X9_whenOf_L27 (nI l) K n (-9) (nI 1) s
    · refine lo_fstJ (W := fun m i s => w_X9_whenOf_L27 (nI l) K m (-9) (nI i) s) (P := opP n nL l c) (Q := fun x => x = v) (J := fun i s => RM n nL s (wkF n nL (i - 1) c) ∧ th mt s ∧ s 0 26 = -9 ∧ ∀ j, j < i → opP n nL l c j = false) (show 1 ≤ 61 by decide) ⟨e3, e4', s26, first⟩ (fun m s hJ hQ => ?_) (fun m i s h1' hi hJ hP hQ => ?_) (fun m i s h1' hi hJ hP hw => ?_) hv.symm
      · rw [w_X9_whenOf_L27, w_X9_whenOf_L27q]
        refine y1 gt61 ?_
        rw [w_X9_whenOf_b71, hQ]
        refine t_forget hJ.2.1 fun s' hh _ h26 => hk s' hh ?_
        rw [h26, hJ.2.2.1, by_none hm.1 (by omega) (hJ.2.2.2 60 (by decide))]
      · rw [w_X9_whenOf_L27, w_X9_whenOf_L27q]
        refine n1 (gt60 hi) (n1 (by decide) (t_goesWeek hJ.1 fun s1 e5 e6 e7 => ?_))
        rw [weeks_s, show i - 1 + 1 = i by omega] at e5
        rw [cl, (e5.2.2.2.2.2.2.2 l hl).2.2.2]
        unfold opP at hP
        refine ⟨vp_in_nI (by omega) (by decide), ?_⟩
        rw [if_pos hP]
        refine n2 (by decide) ⟨vp_in_nI (by omega) (by decide), ?_⟩
        rw [w_X9_whenOf_b65]
        obtain ⟨b, cnt, f1, f2, f3, f4, f5, f6⟩ := e7
        -- opened in this very week
        obtain ⟨hv, b', g1, g2, g3⟩ := week_N (vC_wkF (i := i - 1) hm.1)
        have ebb : b = b' := nI_eqI (by have := p64 hL f2; omega) (by have := p64 hL g2; omega) (f1.symm.trans g1)
        subst ebb
        have prev : opP n nL l c (i - 1) = false := hJ.2.2.2 (i - 1) (by omega)
        have bt : b.testBit l = true := by
          have := (g3 l).1
          unfold opP at prev
          rw [weeks_s, show i - 1 + 1 = i by omega, hP, prev, Bool.false_or] at this
          exact this.symm
        have e14 : s1 14 l = wkF n nL 60 c 7 l := by
          have := f6 l hl
          rw [if_pos bt, weeks_s, show i - 1 + 1 = i by omega] at this
          rw [this]
          exact (by_later hm.1 (show i ≤ 60 by omega) hP).symm
        have fin : w_X9_whenOf_b71 (nI l) K (nI i) (u2 s1 0 26 (s1 14 l)) := by
          rw [w_X9_whenOf_b71, hQ]
          refine t_forget (th_u26 (hJ.2.1.wf e6)) fun s' hh _ h26 => hk s' hh ?_
          rw [h26, u2_same, e14]
        rw [w_X9_whenOf_L27, w_X9_whenOf_L27q]
        exact ⟨fun _ => fin, fun _ => y1 (n_le0 (by omega)) fin⟩
      · rw [w_X9_whenOf_L27, w_X9_whenOf_L27q]
        refine n1 (gt60 hi) (n1 (by decide) (t_goesWeek hJ.1 fun s1 e5 e6 e7 => ?_))
        rw [weeks_s, show i - 1 + 1 = i by omega] at e5
        rw [cl, (e5.2.2.2.2.2.2.2 l hl).2.2.2]
        have hP' := hP
        unfold opP at hP'
        refine ⟨vp_in_nI (by omega) (by decide), ?_⟩
        rw [if_neg (by rw [hP']; decide)]
        refine y2 rfl ?_
        rw [w_X9_whenOf_b65, nI_inc]
        refine hw s1 ⟨by rw [Nat.add_sub_cancel]; exact e5, hJ.2.1.wf e6, by rw [e6.2 26 (by decide) (by decide)]; exact hJ.2.2.1, fun j hj => ?_⟩
        by_cases ej : j = i
        · subst ej; exact hP
        · exact hJ.2.2.2 j (by omega)
theorem sim_when {st mt : St} (h : R st mt) (x1 x2 : Int32) : w_X8_when x1 x2 st (fun r st' => w_X9_when x1 x2 mt (fun r' mt' => r = r' ∧ R st' mt')) := by
  obtain ⟨n, nL, hm, g, hn, hL, h7, h8, k8, k9⟩ := h.ctx
  unfold w_X8_when
  refine s_letterRef h8 (s_choice (s_firstOf ?_))
  by_cases e1 : isF nL x1 = 0
  · rw [nb0 e1, f1 (by decide)]
    refine n1 (by decide) (s_refused rO1 ?_)
    unfold w_X9_when
    refine t_isLetter k9 (y2 e1 ?_)
    rw [w_X9_when_b27]
    exact n1 (by decide) (t_no rO1 ⟨rfl, R_ref h rO1⟩)
  · rw [nb1 e1, f0]
    obtain ⟨l, hl, rfl⟩ := isF_1 (by omega) e1
    by_cases e2 : inF x2 0 1 = 0
    · rw [ch_out e2, if_neg (by decide)]
      refine n1 (by decide) (s_refused rO2 ?_)
      unfold w_X9_when
      refine t_isLetter k9 (n2 e1 (t_isIn' (y2 e2 ?_)))
      rw [w_X9_when_b27]
      exact n1 (by decide) (t_no rO2 ⟨rfl, R_ref h rO2⟩)
    · rw [ch_in e2, if_pos rfl]
      have key : ∀ K : Int32 → St → Prop, (∀ mt', hf mt mt' → (x2 = 0 → K (whF n nL l (cv st 11)) mt') ∧ (¬ x2 = 0 → K (wkF n nL 60 (cv st 11) 7 l) mt')) → w_X9_when (nI l) x2 mt K := fun K hK => by
        unfold w_X9_when
        refine t_isLetter k9 (n2 e1 (t_isIn' (n2 e2 ?_)))
        rw [w_X9_when_b27]
        refine y1 rfl (t_whenOf hm hl fun mt' hh h26 => ⟨fun z => ?_, fun z => (hK mt' hh).1 z⟩)
        rw [h26]
        exact (hK mt' hh).2 z
      refine y1 rfl ⟨fun z => mind0 (fun s => w_X4_openedBy (nI l) s _) (fun c0 z0 => ?_) h.z99, fun z => mind0 (fun s => w_X4_weekOpened (nI l) s _) (fun c0 z0 => x_weekOpened h.z11 z0 hm.1 (by omega) fun c' zc => key _ fun mt' hh => ⟨fun _ => ⟨rfl, R_mind h zc hh.tf⟩, fun y => absurd z y⟩) h.z99⟩
      unfold w_X4_openedBy
      refine m_become h.z11 z0 (m_passWeeks (w := 60) (by decide) hm.1 (m_openedBy (by omega) (key _ fun mt' hh => ⟨fun y => absurd y z, fun _ => ⟨rfl, R_mind h (zn_wkF hn hL ⟨h.z11, nC_cv⟩) hh.tf⟩⟩)))
