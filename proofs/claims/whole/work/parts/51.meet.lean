/-! pure part: meetings by chance -/
def mtC (b i p q : Nat) (c : Ct) : Ct := if b.testBit i then u2 c 4 (hI p q) (heldF (c 4 (hI p q) - 10)) else c
def mtF (n nL p q b w : Nat) (c : Ct) : Ct := fr 0 w (fun i c => (weekF n nL (mtC b i p q c)).2) (bec c)
theorem vC_mtC {n nL b i p q : Nat} {c : Ct} (h : vC n nL c) : vC n nL (mtC b i p q c) := by
  unfold mtC
  split
  · exact vC_u4 h (by decide) (by decide)
  · exact h
theorem zn_mtC {b i p q : Nat} {c : Ct} (hp : p < 6) (hq : q < 6) (h : zn c) : zn (mtC b i p q c) := by
  unfold mtC
  split
  · exact zn_hate h hp hq
  · exact h
theorem mtF_ok {n nL p q b w : Nat} {c : Ct} (hp : p < 6) (hq : q < 6) (hv : vC n nL c) (hz : zn c) : vC n nL (mtF n nL p q b w c) ∧ zn (mtF n nL p q b w c) :=
  fr_inv (fun _ c => vC n nL c ∧ zn c) _ (Nat.zero_le w) ⟨vC_bec hv, zn_bec hz⟩ fun i c _ _ h => ⟨vC_week (vC_mtC h.1), zn_week hv.1 hv.2.1 (zn_mtC hp hq h.2)⟩
theorem mtF_s {n nL p q b i : Nat} {c : Ct} : mtF n nL p q b (i + 1) c = (weekF n nL (mtC b i p q (mtF n nL p q b i c))).2 := fr_succ (Nat.zero_le i) _ _
def mtP (n nL p q l w : Nat) (c : Ct) (b : Nat) : Bool := (ob (mtF n nL p q b w c)).testBit l
theorem x_meetingWays {st : St} {c0 : Ct} {n nL p q l w t : Nat} {K : Int64 → St → Prop} (hz : zC (cv st 11)) (h0 : zn c0) (hv : vC n nL (cv st 11)) (hp : p < 6) (hq : q < 6) (hl : l < 6) (hw : w ≤ 7) (ht : t ≤ 20) (h1 : 1 ≤ t) (h : ∀ c', zn c' → K (lN (upF w t (2 ^ w) (mtP n nL p q l w (cv st 11)))) (sv st 99 c')) : w_X4_meetingWays (nI p) (nI q) (nI l) (nI w) (nI t) (sv st 99 c0) K := by
  have p8 := pw8 (n := w) (by omega)
  have et : nI t - 1 = nI (t - 1) := nI_sub' (b := 1) h1
  have zz : zn (cv st 11) := ⟨hz, nC_cv⟩
  unfold w_X4_meetingWays
  refine lo_rel (fun m b (y : Int64 × Ct) => w_X4_meetingWays_L6 (nI p) (nI q) (nI l) (nI w) (nI t) K m y.1 (nI b) (sv st 99 y.2)) (fun b y => y.1 = lN (upF w t b (mtP n nL p q l w (cv st 11))) ∧ zn y.2) ((0 : Int64), c0) (Nat.zero_le (2 ^ w)) ⟨rfl, h0⟩ (fun y hI m => ?_) (fun m b y _ hb hI hk => ?_)
  · rw [w_X4_meetingWays_L6, w_X4_meetingWays_L6q, sh8 w (by omega), hI.1]
    exact y1 (nI_le (Nat.le_refl _) (by omega)) (h _ hI.2)
  · rw [w_X4_meetingWays_L6, w_X4_meetingWays_L6q, sh8 w (by omega), hI.1]
    refine n1 (nI_ge hb (by omega)) (m_become hz hI.2 ?_)
    have hpc := (zr_pc w (by omega) b (by omega) hb).2
    have es : upF w t (b + 1) (mtP n nL p q l w (cv st 11)) = if mtP n nL p q l w (cv st 11) b then upF w t b (mtP n nL p q l w (cv st 11)) + (t - 1) ^ (w - pc b) else upF w t b (mtP n nL p q l w (cv st 11)) := fr_succ (Nat.zero_le b) _ _
    refine lo_fr (fun k i (c : Ct) => w_X4_meetingWays_L29 (nI p) (nI q) (nI l) (nI w) (nI t) (fun v6 v8 st => w_X4_meetingWays_L6 (nI p) (nI q) (nI l) (nI w) (nI t) K m v6 v8 st) K k (lN (upF w t b (mtP n nL p q l w (cv st 11)))) (nI b) (nI i) (sv st 99 c)) (fun i c => (weekF n nL (mtC b i p q c)).2) (fun _ c => vC n nL c ∧ zn c) (bec (cv st 11)) (Nat.zero_le w) ⟨vC_bec hv, zn_bec zz⟩ (fun i c _ _ hc => ⟨vC_week (vC_mtC hc.1), zn_week hv.1 hv.2.1 (zn_mtC hp hq hc.2)⟩) (fun hc k => ?_) (fun k i c _ hi hc hk2 => ?_)
    · rw [w_X4_meetingWays_L29, w_X4_meetingWays_L29q]
      refine y1 (nI_le (Nat.le_refl w) (by omega)) ?_
      rw [w_X4_meetingWays_b82]
      show w_X1_isOpen 99 (nI l) (sv st 99 (mtF n nL p q b w (cv st 11))) _
      refine m_isOpen hc.1 hl ?_
      by_cases e : (ob (mtF n nL p q b w (cv st 11))).testBit l = true
      · rw [if_pos e]
        refine n1 (by decide) (s_bitCount (by omega) ?_)
        rw [et, nI_sub' hpc]
        refine x_power (by omega) (by omega) ?_
        rw [w_X4_meetingWays_b113, nI_inc]
        refine hk (_, _) ⟨?_, hc.2⟩
        show lN _ + lN _ = _
        rw [es, if_pos (show mtP n nL p q l w (cv st 11) b = true from e), lN_add]
      · rw [if_neg e]
        refine y1 rfl ?_
        rw [w_X4_meetingWays_b113, nI_inc]
        refine hk (_, _) ⟨?_, hc.2⟩
        rw [es, if_neg (show ¬ mtP n nL p q l w (cv st 11) b = true from e)]
        rfl
    · rw [w_X4_meetingWays_L29, w_X4_meetingWays_L29q]
      refine n1 (nI_ge hi (by omega)) (s_bitN (by omega) (by omega) ?_)
      have nx : w_X4_meetingWays_b68 (nI p) (nI q) (nI l) (nI w) (nI t) (fun v6 v8 st => w_X4_meetingWays_L6 (nI p) (nI q) (nI l) (nI w) (nI t) K m v6 v8 st) (fun v6 v8 v9 st => w_X4_meetingWays_L29 (nI p) (nI q) (nI l) (nI w) (nI t) (fun v6 v8 st => w_X4_meetingWays_L6 (nI p) (nI q) (nI l) (nI w) (nI t) K m v6 v8 st) K k v6 v8 v9 st) K (lN (upF w t b (mtP n nL p q l w (cv st 11)))) (nI b) (nI i) (sv st 99 (mtC b i p q c)) := by
        rw [w_X4_meetingWays_b68]
        refine s_week1 (vC_mtC hc.1) ?_
        rw [nI_inc]
        exact hk2
      unfold mtC at nx
      by_cases e : b.testBit i = true
      · rw [if_pos e] at nx ⊢
        exact y2 rfl (s_hateOf hp hq (s_setHate hp hq nx))
      · rw [if_neg e] at nx ⊢
        exact n2 (by decide) nx
theorem t_isOpenMeeting {n nL p q l w b : Nat} {mt : St} {c : Ct} {K : Int32 → St → Prop} (hm : RM n nL mt c) (hp : p < n) (hq : q < n) (hpq : p ≠ q) (hl : l < nL) (hw : w ≤ 7) (hb : b < 256) (hk : ∀ s, hf mt s → K (if mtP n nL p q l w c b then 1 else 0) s) : w_X9_isOpenMeeting (nI p) (nI q) (nI l) (nI w) (nI b) mt K := by
  have hn := hm.1.1
  have hL := hm.1.2.1
  have cl : (nI l).toNatClampNeg = l := clI (show l < 6 by omega) (by decide)
  unfold w_X9_isOpenMeeting
  refine t_think hm fun s0 e3 e4 => ?_
  refine lo_rel (fun m i (s : St) => w_X9_isOpenMeeting_L7 (nI p) (nI q) (nI l) (nI w) (nI b) K m (nI i) s) (fun i s => RM n nL s (mtF n nL p q b i c) ∧ th mt s) s0 (Nat.zero_le w) ⟨e3, e4⟩ (fun s hI m => ?_) (fun m i s _ hi hI hk2 => ?_)
  · rw [w_X9_isOpenMeeting_L7, w_X9_isOpenMeeting_L7q]
    refine y1 (nI_le (Nat.le_refl w) (by omega)) ?_
    rw [w_X9_isOpenMeeting_b55, cl, (hI.1.2.2.2.2.2.2.2 l hl).2.2.2]
    refine ⟨vp_in_nI (by omega) (by decide), ?_⟩
    by_cases e : (ob (mtF n nL p q b w c)).testBit l = true
    · rw [if_pos e]
      refine y2 rfl ?_
      rw [w_X9_isOpenMeeting_b70]
      refine t_forget hI.2 fun s' hh _ _ => ⟨Or.inr rfl, ?_⟩
      have := hk s' hh
      rwa [if_pos (show mtP n nL p q l w c b = true from e)] at this
    · rw [if_neg e]
      refine n2 (by decide) ?_
      rw [w_X9_isOpenMeeting_b70]
      refine t_forget hI.2 fun s' hh _ _ => ⟨Or.inl rfl, ?_⟩
      have := hk s' hh
      rwa [if_neg (show ¬ mtP n nL p q l w c b = true from e)] at this
  · rw [w_X9_isOpenMeeting_L7, w_X9_isOpenMeeting_L7q]
    refine n1 (nI_ge hi (by omega)) (t_hasN hb (by omega) ?_)
    have nx : ∀ s1, RM n nL s1 (mtC b i p q (mtF n nL p q b i c)) → th mt s1 → w_X9_isOpenMeeting_b45 (nI p) (nI q) (nI l) (nI w) (nI b) (fun v6 st => w_X9_isOpenMeeting_L7 (nI p) (nI q) (nI l) (nI w) (nI b) K m v6 st) K (nI i) s1 := fun s1 q1 q2 => by
      rw [w_X9_isOpenMeeting_b45]
      refine t_goesWeek q1 fun s2 q3 q4 _ => ?_
      rw [nI_inc]
      exact hk2 s2 ⟨by rw [mtF_s]; exact q3, q2.wf q4⟩
    by_cases e : b.testBit i = true
    · rw [if_pos e]
      refine n1 (by decide) (t_hateOf (by omega) (by omega) (t_held (t_sets (by omega) (by omega) ?_)))
      rw [hlF_held, hI.1.hate hp hq hpq]
      refine nx _ ?_ (th_sets hI.2)
      unfold mtC
      rw [if_pos e]
      exact RM_sets hI.1 hp hq hpq (heldF_in _).1 (heldF_in _).2
    · rw [if_neg e]
      refine y1 rfl (nx s ?_ hI.2)
      unfold mtC
      rw [if_neg e]
      exact hI.1
theorem t_meetingsL {n nL p q l w t : Nat} {x6 : Int32} {mt : St} {c : Ct} {K : Int64 → St → Prop} (hm : RM n nL mt c) (hp : p < n) (hq : q < n) (hpq : p ≠ q) (hl : l < nL) (hw : w ≤ 7) (ht : t ≤ 20) (h1 : 1 ≤ t) (h : ∀ s, hf mt s → w_X9_meetings_b139 (nI p) (nI q) (nI l) (nI w) (nI t) x6 K (lN (upF w t (2 ^ w) (mtP n nL p q l w c))) s) : ∃ m, w_X9_meetings_L92 (nI p) (nI q) (nI l) (nI w) (nI t) x6 K m 0 0 mt := by
  have p8 := pw8 (n := w) (by omega)
  refine lo_rel (fun m b (y : Int64 × St) => w_X9_meetings_L92 (nI p) (nI q) (nI l) (nI w) (nI t) x6 K m y.1 (nI b) y.2) (fun b y => y.1 = lN (upF w t b (mtP n nL p q l w c)) ∧ hf mt y.2) ((0 : Int64), mt) (Nat.zero_le (2 ^ w)) ⟨rfl, hf_rf⟩ (fun y hI m => ?_) (fun m b y _ hb hI hk => ?_)
  · rw [w_X9_meetings_L92, w_X9_meetings_L92q, sh8 w (by omega), hI.1]
    exact y1 (nI_le (Nat.le_refl _) (by omega)) (h _ hI.2)
  · rw [w_X9_meetings_L92, w_X9_meetings_L92q, sh8 w (by omega), hI.1]
    have es : upF w t (b + 1) (mtP n nL p q l w c) = if mtP n nL p q l w c b then upF w t b (mtP n nL p q l w c) + (t - 1) ^ (w - pc b) else upF w t b (mtP n nL p q l w c) := fr_succ (Nat.zero_le b) _ _
    refine n1 (nI_ge hb (by omega)) (t_isOpenMeeting (RM_hf hm hI.2) hp hq hpq hl hw (by omega) fun s hs => ?_)
    by_cases e : mtP n nL p q l w c b = true
    · rw [if_pos e]
      refine n1 (by decide) (t_partsOf (by omega) hb (by omega) h1 ?_)
      rw [w_X9_meetings_b130, nI_inc]
      refine hk (_, _) ⟨?_, hI.2.tr hs⟩
      show lN _ + lN _ = _
      rw [es, if_pos e, lN_add]
    · rw [if_neg e]
      refine y1 rfl ?_
      rw [w_X9_meetings_b130, nI_inc]
      refine hk (_, _) ⟨?_, hI.2.tr hs⟩
      show lN _ + 0 = _
      rw [es, if_neg e]
      exact Int64.add_zero _
theorem sim_meetings {st mt : St} (h : R st mt) (x1 x2 x3 x4 x5 x6 : Int32) : w_X8_meetings x1 x2 x3 x4 x5 x6 st (fun r st' => w_X9_meetings x1 x2 x3 x4 x5 x6 mt (fun r' mt' => r = r' ∧ R st' mt')) := by
  obtain ⟨n, nL, hm, g, hn, hL, h7, h8, k8, k9⟩ := h.ctx
  have fin : ∀ (u v s r : Int32), (∀ c : Int32, firstF (firstF u v s) c 0 = r) → ¬ r = 0 → rOk r → (∀ K : Int64 → St → Prop, K (4000000000000000000 - r.toInt64) (refS mt r) → w_X9_meetings x1 x2 x3 x4 x5 x6 mt K) → w_X8_meetings_b56 x1 x2 x3 x4 x5 x6 (fun r st' => w_X9_meetings x1 x2 x3 x4 x5 x6 mt (fun r' mt' => r = r' ∧ R st' mt')) u v s st := fun u v s r e1 e2 e3 hc => by
    rw [w_X8_meetings_b56]
    refine s_firstOf (s_choice (s_firstOf ?_))
    rw [e1]
    exact n1 e2 (s_refused e3 (hc _ ⟨rfl, R_ref h e3⟩))
  unfold w_X8_meetings
  refine s_twoRef h7 (s_letterRef h8 (s_firstOf ?_))
  by_cases N : twF n x1 x2 = 0 ∨ isF nL x3 = 0
  · have chk : ∀ K : Int64 → St → Prop, K (4000000000000000000 - (-1 : Int32).toInt64) (refS mt (-1)) → w_X9_meetings x1 x2 x3 x4 x5 x6 mt K := fun K hK => by
      have b17 : w_X9_meetings_b17 x1 x2 x3 x4 x5 x6 K mt := by
        rw [w_X9_meetings_b17, w_X9_meetings_b72]
        exact n1 (by decide) (t_lowestOf rO1 hK)
      unfold w_X9_meetings
      refine t_areTwo k8 ⟨fun _ => b17, fun z1 => t_isLetter k9 ⟨fun z2 => ?_, fun _ => b17⟩⟩
      exact absurd (N.resolve_left z1) z2
    have ef : firstF (nbF (twF n x1 x2)) (nbF (isF nL x3)) 0 = -1 := by
      by_cases z1 : twF n x1 x2 = 0
      · rw [nb0 z1, f1 (by decide)]
      · rw [nb1 z1, nb0 (N.resolve_left z1), f01 (by decide)]
    rw [ef]
    have f : ∀ v s, w_X8_meetings_b56 x1 x2 x3 x4 x5 x6 (fun r st' => w_X9_meetings x1 x2 x3 x4 x5 x6 mt (fun r' mt' => r = r' ∧ R st' mt')) (-1) v s st := fun v s => fin (-1) v s (-1) (fun c => by rw [f1 (show ¬ (-1 : Int32) = 0 by decide), f1 (show ¬ (-1 : Int32) = 0 by decide)]) (by decide) rO1 chk
    have b34 : ∀ v, w_X8_meetings_b34 x1 x2 x3 x4 x5 x6 (fun r st' => w_X9_meetings x1 x2 x3 x4 x5 x6 mt (fun r' mt' => r = r' ∧ R st' mt')) (-1) v st := fun v => by
      rw [w_X8_meetings_b34]
      exact ⟨fun _ => by rw [w_X8_meetings_b50]; exact f _ _, fun _ => ⟨fun _ => f _ _, fun _ => by rw [w_X8_meetings_b50]; exact f _ _⟩⟩
    exact ⟨fun _ => by rw [w_X8_meetings_b28]; exact b34 _, fun _ => ⟨fun _ => b34 _, fun _ => by rw [w_X8_meetings_b28]; exact b34 _⟩⟩
  · have z1 : ¬ twF n x1 x2 = 0 := fun z => N (Or.inl z)
    have z2 : ¬ isF nL x3 = 0 := fun z => N (Or.inr z)
    rw [nb1 z1, nb1 z2, f00]
    by_cases A : x4 < 0 ∨ ¬ 2 ≤ x5
    · have chk : ∀ K : Int64 → St → Prop, K (4000000000000000000 - (-4 : Int32).toInt64) (refS mt (-4)) → w_X9_meetings x1 x2 x3 x4 x5 x6 mt K := fun K hK => by
        have b32 : w_X9_meetings_b32 x1 x2 x3 x4 x5 x6 K mt := by
          rw [w_X9_meetings_b32, w_X9_meetings_b72]
          exact n1 (by decide) (t_lowestOf rO4 hK)
        unfold w_X9_meetings
        refine t_areTwo k8 (n1 z1 (t_isLetter k9 (n2 z2 ⟨fun _ => b32, fun y => ⟨fun y2' => ?_, fun _ => b32⟩⟩)))
        exact absurd y2' (A.resolve_left y)
      have b28 : w_X8_meetings_b28 x1 x2 x3 x4 x5 x6 (fun r st' => w_X9_meetings x1 x2 x3 x4 x5 x6 mt (fun r' mt' => r = r' ∧ R st' mt')) 0 st := by
        have f : ∀ s, w_X8_meetings_b56 x1 x2 x3 x4 x5 x6 (fun r st' => w_X9_meetings x1 x2 x3 x4 x5 x6 mt (fun r' mt' => r = r' ∧ R st' mt')) 0 (-4) s st := fun s => fin 0 (-4) s (-4) (fun c => by rw [f01 (show ¬ (-4 : Int32) = 0 by decide), f1 (show ¬ (-4 : Int32) = 0 by decide)]) (by decide) rO4 chk
        rw [w_X8_meetings_b28, w_X8_meetings_b34]
        exact ⟨fun _ => by rw [w_X8_meetings_b50]; exact f _, fun _ => ⟨fun _ => f _, fun _ => by rw [w_X8_meetings_b50]; exact f _⟩⟩
      refine ⟨fun _ => b28, fun y => ⟨fun y2' => ?_, fun _ => b28⟩⟩
      exact absurd y2' (A.resolve_left y)
    · have a1 : ¬ x4 < 0 := fun z => A (Or.inl z)
      have a2 : 2 ≤ x5 := Classical.not_not.mp fun z => A (Or.inr z)
      refine n1 a1 (y1 a2 ?_)
      rw [w_X8_meetings_b34]
      by_cases B : 7 < x4 ∨ ¬ x5 ≤ 20
      · have chk : ∀ K : Int64 → St → Prop, K (4000000000000000000 - (-6 : Int32).toInt64) (refS mt (-6)) → w_X9_meetings x1 x2 x3 x4 x5 x6 mt K := fun K hK => by
          have b51 : w_X9_meetings_b51 x1 x2 x3 x4 x5 x6 K mt := by
            rw [w_X9_meetings_b51, w_X9_meetings_b72]
            exact n1 (by decide) (t_lowestOf rO6 hK)
          unfold w_X9_meetings
          refine t_areTwo k8 (n1 z1 (t_isLetter k9 (n2 z2 (n1 a1 (y1 a2 ⟨fun _ => b51, fun y => ⟨fun y2' => ?_, fun _ => b51⟩⟩)))))
          exact absurd y2' (B.resolve_left y)
        have b50 : w_X8_meetings_b50 x1 x2 x3 x4 x5 x6 (fun r st' => w_X9_meetings x1 x2 x3 x4 x5 x6 mt (fun r' mt' => r = r' ∧ R st' mt')) 0 0 st := by
          rw [w_X8_meetings_b50]
          exact fin 0 0 (-6) (-6) (fun c => by rw [f00, f1 (show ¬ (-6 : Int32) = 0 by decide)]) (by decide) rO6 chk
        refine ⟨fun _ => b50, fun y => ⟨fun y2' => ?_, fun _ => b50⟩⟩
        exact absurd y2' (B.resolve_left y)
      · have b1 : ¬ 7 < x4 := fun z => B (Or.inl z)
        have b2 : x5 ≤ 20 := Classical.not_not.mp fun z => B (Or.inr z)
        refine n1 b1 (y1 b2 ?_)
        rw [w_X8_meetings_b56]
        refine s_firstOf (s_choice (s_firstOf ?_))
        rw [f00]
        by_cases e : inF x6 0 1 = 0
        · rw [ch_out e, f01 (by decide)]
          refine n1 (by decide) (s_refused rO2 ?_)
          unfold w_X9_meetings
          refine t_areTwo k8 (n1 z1 (t_isLetter k9 (n2 z2 (n1 a1 (y1 a2 (n1 b1 (y1 b2 (t_isIn' (y2 e ?_)))))))))
          rw [w_X9_meetings_b72]
          exact n1 (by decide) (t_lowestOf rO2 ⟨rfl, R_ref h rO2⟩)
        · rw [ch_in e, f00]
          obtain ⟨p, q, hp, hq, hpq, rfl, rfl⟩ := twF_1 (by omega) z1
          obtain ⟨l, hl, rfl⟩ := isF_1 (by omega) z2
          obtain ⟨w, -, hw, rfl⟩ := i2le (a := 0) (b := 7) (by decide) (by decide) (i_nlt.mp a1) (i_nlt.mp b1)
          obtain ⟨t, ht1, ht, rfl⟩ := i2le (a := 2) (b := 20) (by decide) (by decide) a2 b2
          have p0 : 0 < t ^ w := Nat.pow_pos (by omega)
          have ul := up_lt (n := w) (t := t) (e := 2 ^ w) (P := mtP n nL p q l w (cv st 11)) (by omega) ht (pw8 (by omega))
          refine y1 rfl (mind0 (fun s => w_X4_meetingWays (nI p) (nI q) (nI l) (nI w) (nI t) s _) (fun c0 z0 => x_meetingWays h.z11 z0 hm.1 (by omega) (by omega) (by omega) hw ht (by omega) fun c' zc => x_power (by omega) (by omega) (x_part ul (pow50 (by omega) ht) p0 ?_)) h.z99)
          unfold w_X9_meetings
          refine t_areTwo k8 (n1 z1 (t_isLetter k9 (n2 z2 (n1 a1 (y1 a2 (n1 b1 (y1 b2 (t_isIn' (n2 e ?_)))))))))
          rw [w_X9_meetings_b72]
          refine y1 rfl (t_meetingsL hm hp hq hpq hl hw ht (by omega) fun s hs => ?_)
          rw [w_X9_meetings_b139]
          exact t_power (by omega) (by omega) (t_partOf ul (Nat.lt_trans (pow50 (by omega) ht) (by decide)) p0 ⟨rfl, R_mind h zc hs.tf⟩)
