/-! pure part: whoHates, whatKind -/
def tdF (P : Nat → Bool) (r : Nat) : Int32 := if fstG P r 0 = -9 then 1 else 0
theorem ne9 {i : Nat} (h : i < 2147483648) : ¬ nI i = -9 := fun z => by
  have : nI i < 0 := by rw [z]; decide
  exact n_lt0 h this
def osP (n nL : Nat) (row : Nat → Int32) (c : Ct) (i : Nat) : Bool := decide (¬ nI (cnF n nL i c) = row i)
def hsP (n nL p q : Nat) (row : Nat → Int32) (c : Ct) (i : Nat) : Bool := decide (¬ wkF n nL i c 4 (hI p q) = row i)
theorem td_01 (P : Nat → Bool) (r : Nat) : tdF P r = 0 ∨ tdF P r = 1 := by
  unfold tdF
  split
  · exact Or.inr rfl
  · exact Or.inl rfl
theorem x_opensAsTold {st : St} {n nL r : Nat} {c : Ct} {K : Int32 → St → Prop} (hv : vC n nL c) (hz : zn c) (hr : r ≤ 12) (h6 : st 6 1 = nI r) (h : ∀ c', zn c' → K (tdF (osP n nL (st 7) c) r) (sv st 99 c')) : w_X4_opensAsTold (sv st 99 (bec c)) K := by
  have zz : ∀ i, zn (wkF n nL i c) := fun i => zn_wkF hv.1 hv.2.1 hz
  unfold w_X4_opensAsTold
  refine lo_fst (W := fun m i => w_X4_opensAsTold_L8 K m (nI i) (sv st 99 (wkF n nL i c))) (P := osP n nL (st 7) c) (Q := fun v => ∀ c', zn c' → K (if v = -9 then 1 else 0) (sv st 99 c')) (Nat.zero_le r) (fun hQ => ⟨1, ?_⟩) (fun i _ hi hP hQ => ⟨1, ?_⟩) (fun m i _ hi hP hk => ?_) h
  · rw [w_X4_opensAsTold_L8, w_X4_opensAsTold_L8q]
    unfold w_X6_size
    rw [sv_off (by decide), h6]
    exact y1 (nI_le (Nat.le_refl r) (by omega)) (hQ _ (zz r))
  · rw [w_X4_opensAsTold_L8, w_X4_opensAsTold_L8q]
    unfold w_X6_size w_X6_number
    rw [sv_off (by decide), h6]
    refine n1 (nI_ge hi (by omega)) (s_openCount (vC_wkF hv) (s_at (by omega) (by decide) (n1 ?_ ?_)))
    · rw [sv_off (by decide)]; exact of_decide_eq_true hP
    · have := hQ _ (zz i)
      rwa [if_neg (ne9 (by omega))] at this
  · rw [w_X4_opensAsTold_L8, w_X4_opensAsTold_L8q]
    unfold w_X6_size w_X6_number
    rw [sv_off (by decide), h6]
    refine n1 (nI_ge hi (by omega)) (s_openCount (vC_wkF hv) (s_at (by omega) (by decide) (y1 ?_ (s_week1 (vC_wkF hv) ?_))))
    · rw [sv_off (by decide)]; exact Classical.not_not.mp (of_decide_eq_false hP)
    · rw [weeks_s, nI_inc]
      exact hk
theorem x_hatesAsTold {st : St} {n nL r p q : Nat} {c : Ct} {K : Int32 → St → Prop} (hv : vC n nL c) (hz : zn c) (hr : r ≤ 12) (h6 : st 6 1 = nI r) (hp : p < 6) (hq : q < 6) (h : ∀ c', zn c' → K (tdF (hsP n nL p q (st 7) c) r) (sv st 99 c')) : w_X4_hatesAsTold (nI p) (nI q) (sv st 99 (bec c)) K := by
  have zz : ∀ i, zn (wkF n nL i c) := fun i => zn_wkF hv.1 hv.2.1 hz
  unfold w_X4_hatesAsTold
  refine lo_fst (W := fun m i => w_X4_hatesAsTold_L9 (nI p) (nI q) K m (nI i) (sv st 99 (wkF n nL i c))) (P := hsP n nL p q (st 7) c) (Q := fun v => ∀ c', zn c' → K (if v = -9 then 1 else 0) (sv st 99 c')) (Nat.zero_le r) (fun hQ => ⟨1, ?_⟩) (fun i _ hi hP hQ => ⟨1, ?_⟩) (fun m i _ hi hP hk => ?_) h
  · rw [w_X4_hatesAsTold_L9, w_X4_hatesAsTold_L9q]
    unfold w_X6_size
    rw [sv_off (by decide), h6]
    exact y1 (nI_le (Nat.le_refl r) (by omega)) (hQ _ (zz r))
  · rw [w_X4_hatesAsTold_L9, w_X4_hatesAsTold_L9q]
    unfold w_X6_size w_X6_number
    rw [sv_off (by decide), h6]
    refine n1 (nI_ge hi (by omega)) (s_hateOf hp hq (s_at (by omega) (by decide) (n1 ?_ ?_)))
    · rw [sv_off (by decide)]; exact of_decide_eq_true hP
    · have := hQ _ (zz i)
      rwa [if_neg (ne9 (by omega))] at this
  · rw [w_X4_hatesAsTold_L9, w_X4_hatesAsTold_L9q]
    unfold w_X6_size w_X6_number
    rw [sv_off (by decide), h6]
    refine n1 (nI_ge hi (by omega)) (s_hateOf hp hq (s_at (by omega) (by decide) (y1 ?_ (s_week1 (vC_wkF hv) ?_))))
    · rw [sv_off (by decide)]; exact Classical.not_not.mp (of_decide_eq_false hP)
    · rw [weeks_s, nI_inc]
      exact hk
theorem t_opensSo {n nL r : Nat} {mt : St} {c : Ct} {row : Nat → Int32} {K : Int32 → St → Prop} (hm : RM n nL mt c) (hr : r ≤ 12) (h29 : mt 0 29 = nI r) (hrow : ∀ i, i < r → mt 16 i = row i) (hk : ∀ s, hf mt s → K (tdF (osP n nL row c) r) s) : w_X9_opensSo mt K := by
  unfold w_X9_opensSo
  refine t_think hm fun s e3 e4 => ?_
  have f29 : ∀ s, th mt s → s 0 29 = nI r := fun s hs => (hs.2.2.1 29 (by decide) (by decide) (by decide) (by decide) (by decide) (by decide) (by decide)).trans h29
  have f16 : ∀ s, th mt s → ∀ i, i < r → s 16 i = row i := fun s hs i hi => by rw [hs.2.1 16 (by decide) (by decide) (by decide) (by decide)]; exact hrow i hi
  have fin : ∀ v s, th mt s → (v = 0 ∨ v = 1) → (tdF (osP n nL row c) r = v) → w_X9_opensSo_b52 K v s := fun v s hs hv e => by
    rw [w_X9_opensSo_b52]
    refine t_forget hs fun s' hh _ _ => ⟨hv, ?_⟩
    rw [← e]
    exact hk s' hh
  refine lo_fstJ (W := fun m i s => w_X9_opensSo_L8 K m 1 (nI i) s) (P := osP n nL row c) (Q := fun v => tdF (osP n nL row c) r = if v = -9 then 1 else 0) (J := fun i s => RM n nL s (wkF n nL i c) ∧ th mt s) (Nat.zero_le r) ⟨e3, e4⟩ (fun m s hJ hQ => ?_) (fun m i s _ hi hJ hP hQ => ?_) (fun m i s _ hi hJ hP hw => ?_) rfl
  · rw [w_X9_opensSo_L8, w_X9_opensSo_L8q, f29 s hJ.2]
    exact y1 (nI_le (Nat.le_refl r) (by omega)) (fin 1 s hJ.2 (Or.inr rfl) hQ)
  · rw [w_X9_opensSo_L8, w_X9_opensSo_L8q, f29 s hJ.2]
    have hc := hJ.1.1
    refine n1 (nI_ge hi (by omega)) (n1 (by decide) (t_openOnes hJ.1 (t_bits (by have := p64 hc.2.1 hc.2.2.2.2.2.2; omega) ⟨vp_in_nI (by omega) (by decide), ?_⟩)))
    rw [clI (show i < 12 by omega) (by decide), f16 s hJ.2 i hi]
    refine n2 (of_decide_eq_true hP) ?_
    rw [w_X9_opensSo_b41]
    refine t_goesWeek hJ.1 fun s1 e5 e6 _ => ?_
    have f0 : w_X9_opensSo_b52 K 0 s1 := fin 0 s1 (hJ.2.wf e6) (Or.inl rfl) (by rw [hQ, if_neg (ne9 (by omega))])
    rw [w_X9_opensSo_L8, w_X9_opensSo_L8q]
    exact ⟨fun _ => f0, fun _ => y1 rfl f0⟩
  · rw [w_X9_opensSo_L8, w_X9_opensSo_L8q, f29 s hJ.2]
    have hc := hJ.1.1
    refine n1 (nI_ge hi (by omega)) (n1 (by decide) (t_openOnes hJ.1 (t_bits (by have := p64 hc.2.1 hc.2.2.2.2.2.2; omega) ⟨vp_in_nI (by omega) (by decide), ?_⟩)))
    rw [clI (show i < 12 by omega) (by decide), f16 s hJ.2 i hi]
    refine y2 (Classical.not_not.mp (of_decide_eq_false hP)) ?_
    rw [w_X9_opensSo_b41]
    refine t_goesWeek hJ.1 fun s1 e5 e6 _ => ?_
    rw [nI_inc]
    exact hw s1 ⟨by rw [← weeks_s]; exact e5, hJ.2.wf e6⟩
theorem t_hatesSo {n nL r p q : Nat} {mt : St} {c : Ct} {row : Nat → Int32} {K : Int32 → St → Prop} (hm : RM n nL mt c) (hp : p < n) (hq : q < n) (hpq : p ≠ q) (hr : r ≤ 12) (h29 : mt 0 29 = nI r) (hrow : ∀ i, i < r → mt 16 i = row i) (hk : ∀ s, hf mt s → K (tdF (hsP n nL p q row c) r) s) : w_X9_hatesSo (nI p) (nI q) mt K := by
  have hn := hm.1.1
  unfold w_X9_hatesSo
  refine t_think hm fun s e3 e4 => ?_
  have f29 : ∀ s, th mt s → s 0 29 = nI r := fun s hs => (hs.2.2.1 29 (by decide) (by decide) (by decide) (by decide) (by decide) (by decide) (by decide)).trans h29
  have f16 : ∀ s, th mt s → ∀ i, i < r → s 16 i = row i := fun s hs i hi => by rw [hs.2.1 16 (by decide) (by decide) (by decide) (by decide)]; exact hrow i hi
  have fin : ∀ v s, th mt s → (v = 0 ∨ v = 1) → (tdF (hsP n nL p q row c) r = v) → w_X9_hatesSo_b54 (nI p) (nI q) K v s := fun v s hs hv e => by
    rw [w_X9_hatesSo_b54]
    refine t_forget hs fun s' hh _ _ => ⟨hv, ?_⟩
    rw [← e]
    exact hk s' hh
  refine lo_fstJ (W := fun m i s => w_X9_hatesSo_L9 (nI p) (nI q) K m 1 (nI i) s) (P := hsP n nL p q row c) (Q := fun v => tdF (hsP n nL p q row c) r = if v = -9 then 1 else 0) (J := fun i s => RM n nL s (wkF n nL i c) ∧ th mt s) (Nat.zero_le r) ⟨e3, e4⟩ (fun m s hJ hQ => ?_) (fun m i s _ hi hJ hP hQ => ?_) (fun m i s _ hi hJ hP hw => ?_) rfl
  · rw [w_X9_hatesSo_L9, w_X9_hatesSo_L9q, f29 s hJ.2]
    exact y1 (nI_le (Nat.le_refl r) (by omega)) (fin 1 s hJ.2 (Or.inr rfl) hQ)
  · rw [w_X9_hatesSo_L9, w_X9_hatesSo_L9q, f29 s hJ.2]
    refine n1 (nI_ge hi (by omega)) (n1 (by decide) (t_hateOf (by omega) (by omega) ⟨vp_in_nI (by omega) (by decide), ?_⟩))
    rw [clI (show i < 12 by omega) (by decide), f16 s hJ.2 i hi, hJ.1.hate hp hq hpq]
    refine n2 (of_decide_eq_true hP) ?_
    rw [w_X9_hatesSo_b43]
    refine t_goesWeek hJ.1 fun s1 e5 e6 _ => ?_
    have f0 : w_X9_hatesSo_b54 (nI p) (nI q) K 0 s1 := fin 0 s1 (hJ.2.wf e6) (Or.inl rfl) (by rw [hQ, if_neg (ne9 (by omega))])
    rw [w_X9_hatesSo_L9, w_X9_hatesSo_L9q]
    exact ⟨fun _ => f0, fun _ => y1 rfl f0⟩
  · rw [w_X9_hatesSo_L9, w_X9_hatesSo_L9q, f29 s hJ.2]
    refine n1 (nI_ge hi (by omega)) (n1 (by decide) (t_hateOf (by omega) (by omega) ⟨vp_in_nI (by omega) (by decide), ?_⟩))
    rw [clI (show i < 12 by omega) (by decide), f16 s hJ.2 i hi, hJ.1.hate hp hq hpq]
    refine y2 (Classical.not_not.mp (of_decide_eq_false hP)) ?_
    rw [w_X9_hatesSo_b43]
    refine t_goesWeek hJ.1 fun s1 e5 e6 _ => ?_
    rw [nI_inc]
    exact hw s1 ⟨by rw [← weeks_s]; exact e5, hJ.2.wf e6⟩
def fhC (c : Ct) (p q v : Nat) : Ct := u2 c 4 (hI p q) (nI v)
abbrev T3 : Type := Int32 × Int32 × Int32
def fhS (M : Nat → Int32) (v : Nat) (s : T3) : T3 := if M v = 0 then s else (s.1 + 1, (if s.2.1 = -9 then nI v else s.2.1), nI v)
def fhI (s : T3) : Prop := s.2.1 = -9 ∨ ∃ j, j < 100 ∧ s.2.1 = nI j
theorem fhI_s {M : Nat → Int32} {v : Nat} {s : T3} (hv : v < 100) (h : fhI s) : fhI (fhS M v s) := by
  unfold fhS
  split
  · exact h
  · refine Or.inr ?_
    show ∃ j, j < 100 ∧ (if s.2.1 = -9 then nI v else s.2.1) = nI j
    split
    · exact ⟨v, hv, rfl⟩
    next e => exact h.resolve_left e
def fhM (n nL p q r : Nat) (row : Nat → Int32) (c : Ct) (v : Nat) : Int32 := tdF (osP n nL row (fhC c p q v)) r
def fhF (n nL p q r : Nat) (row : Nat → Int32) (c : Ct) : T3 := fr 0 100 (fhS (fhM n nL p q r row c)) (0, -9, -9)
theorem held99 : ∀ v, v < 100 → heldF (nI v) = nI v ∧ 0 ≤ nI v ∧ nI v ≤ 99 := by decide +kernel
def pick (x : Int32) (s : T3) : Int32 := if x = 0 then s.1 else if x = 1 then s.2.1 else s.2.2
theorem sim_whoHates {st mt : St} (h : R st mt) (x1 x2 x3 : Int32) : w_X8_whoHates x1 x2 x3 st (fun r st' => w_X9_whoHates x1 x2 x3 mt (fun r' mt' => r = r' ∧ R st' mt')) := by
  obtain ⟨n, nL, hm, g, hn, hL, h7, h8, k8, k9⟩ := h.ctx
  obtain ⟨r, r1, r2, r3, r4⟩ := h.2.2.2.2.2.1
  unfold w_X8_whoHates
  refine s_twoRef h7 (s_choice (s_firstOf ?_))
  by_cases e1 : twF n x1 x2 = 0
  · rw [nb0 e1, f1 (by decide)]
    refine n1 (by decide) (s_refused rO1 ?_)
    unfold w_X9_whoHates
    refine t_areTwo k8 (y2 e1 ?_)
    rw [w_X9_whoHates_b28]
    exact n1 (by decide) (t_no rO1 ⟨rfl, R_ref h rO1⟩)
  · rw [nb1 e1, f0]
    by_cases e2 : inF x3 0 2 = 0
    · rw [ch_out e2, if_neg (by decide)]
      refine n1 (by decide) (s_refused rO2 ?_)
      unfold w_X9_whoHates
      refine t_areTwo k8 (n2 e1 (t_isIn' (y2 e2 ?_)))
      rw [w_X9_whoHates_b28]
      exact n1 (by decide) (t_no rO2 ⟨rfl, R_ref h rO2⟩)
    · rw [ch_in e2, if_pos rfl]
      obtain ⟨p, q, hp, hq, hpq, rfl, rfl⟩ := twF_1 (by omega) e1
      have vfh : ∀ v, vC n nL (fhC (cv st 11) p q v) := fun v => vC_u4 hm.1 (by decide) (by decide)
      have zfh : ∀ v, zn (fhC (cv st 11) p q v) := fun v => zn_hate ⟨h.z11, nC_cv⟩ (by omega) (by omega)
      refine y1 rfl (mind0 (fun s => w_X4_fittingHate (nI p) (nI q) x3 s _) (fun c0 z0 => ?_) h.z99)
      unfold w_X4_fittingHate
      refine lo_frD (fun m v (s : T3) c' => w_X4_fittingHate_L14 (nI p) (nI q) x3 _ m s.1 s.2.1 s.2.2 (nI v) (sv st 99 c')) (fhS (fhM n nL p q r (st 7) (cv st 11))) (fun _ s => fhI s) (fun _ c' => zn c') ((0 : Int32), -9, -9) c0 (Nat.zero_le 100) (Or.inl rfl) (fun v s _ hv hs => fhI_s hv hs) z0 (fun _ m d hd => ?_) (fun m v s d _ hv hs hd hk => ?_)
      · rw [w_X4_fittingHate_L14, w_X4_fittingHate_L14q]
        refine y1 (by decide) ?_
        rw [w_X4_fittingHate_b80]
        have key : w_X9_whoHates (nI p) (nI q) x3 mt (fun r' mt' => pick x3 (fhF n nL p q r (st 7) (cv st 11)) = r' ∧ R (sv st 99 d) mt') := by
          unfold w_X9_whoHates
          refine t_areTwo k8 (n2 e1 (t_isIn' (n2 e2 ?_)))
          rw [w_X9_whoHates_b28]
          refine y1 rfl (t_hateOf (by omega) (by omega) ?_)
          have ho := hm.hate hp hq hpq
          have ho2 := hm.hate hq hp (Ne.symm hpq)
          rw [hI_comm] at ho2
          rw [ho]
          refine lo_frD (fun m v (s : T3) t => w_X9_whoHates_L64 (nI p) (nI q) x3 _ m (cv st 11 4 (hI p q)) s.1 s.2.1 s.2.2 (nI v) t) (fhS (fhM n nL p q r (st 7) (cv st 11))) (fun _ s => fhI s) (fun _ t => ∃ w, hf (setsF mt p q w) t) ((0 : Int32), -9, -9) mt (Nat.zero_le 100) (Or.inl rfl) (fun v s _ hv hs => fhI_s hv hs) ⟨cv st 11 4 (hI p q), by rw [sets_id ho ho2]; exact hf_rf⟩ (fun _ m t ht => ?_) (fun m v s t _ hv hs ht hk => ?_)
          · obtain ⟨w, ht⟩ := ht
            rw [w_X9_whoHates_L64, w_X9_whoHates_L64q]
            refine y1 (by decide) ?_
            rw [w_X9_whoHates_b116]
            refine t_sets (by omega) (by omega) ?_
            have fin : ∀ v : Int32, pick x3 (fhF n nL p q r (st 7) (cv st 11)) = v → pick x3 (fhF n nL p q r (st 7) (cv st 11)) = v ∧ R (sv st 99 d) (setsF t p q (cv st 11 4 (hI p q))) := fun v e => ⟨e, R_mind h hd (hf_unset ht (by omega) (by omega) hpq ho ho2).tf⟩
            refine ⟨fun y0 => ⟨fun y1' => fin _ ?_, fun y1' => fin _ ?_⟩, fun y0 => fin _ ?_⟩
            · unfold pick; rw [if_neg y0, if_neg y1']; rfl
            · unfold pick; rw [if_neg y0, if_pos y1']; rfl
            · unfold pick; rw [if_pos y0]; rfl
          · obtain ⟨w, ht⟩ := ht
            rw [w_X9_whoHates_L64, w_X9_whoHates_L64q]
            refine n1 (gt99 hv) (t_sets (by omega) (by omega) ?_)
            have h1 : hf (setsF mt p q (nI v)) (setsF t p q (nI v)) := hf_sets ht (by omega) (by omega) hpq
            have rm : RM n nL (setsF t p q (nI v)) (fhC (cv st 11) p q v) := RM_hf (RM_sets hm hp hq hpq (held99 v hv).2.1 (held99 v hv).2.2) h1
            have o29 : setsF t p q (nI v) 0 29 = nI r := by
              rw [h1.2.2.1 29 (by decide) (by decide) (by decide) (by decide) (by decide) (by decide) (by decide), ef_sets 0 (by decide)]
              exact r3
            have o16 : ∀ i, i < r → setsF t p q (nI v) 16 i = st 7 i := fun i hi => by
              rw [h1.2.1 16 (by decide) (by decide) (by decide) (by decide), ef_sets 16 (by decide)]
              exact (r4 i hi).symm
            refine t_opensSo rm r1 o29 o16 fun s1 hs1 => ?_
            have D1 : ∃ w, hf (setsF mt p q w) s1 := ⟨_, h1.tr hs1⟩
            show (¬ fhM n nL p q r (st 7) (cv st 11) v = 0 → _) ∧ (fhM n nL p q r (st 7) (cv st 11) v = 0 → _)
            unfold fhS at hk
            by_cases em : fhM n nL p q r (st 7) (cv st 11) v = 0
            · rw [if_pos em] at hk
              refine y2 em ?_
              rw [w_X9_whoHates_b110, nI_inc]
              exact hk s1 D1
            · rw [if_neg em] at hk
              refine n2 em ?_
              rcases hs with e9 | ⟨j, hj, ej⟩
              · rw [if_pos e9] at hk
                refine n1 (by rw [e9]; decide) ?_
                rw [w_X9_whoHates_b104, w_X9_whoHates_b110, nI_inc]
                exact hk s1 D1
              · rw [if_neg (by rw [ej]; exact ne9 (by omega))] at hk
                refine y1 (by rw [ej]; exact n_le0 (by omega)) ?_
                rw [w_X9_whoHates_b104, w_X9_whoHates_b110, nI_inc]
                exact hk s1 D1
        have ep : ∀ v : Int32, pick x3 (fhF n nL p q r (st 7) (cv st 11)) = v → w_X9_whoHates (nI p) (nI q) x3 mt (fun r' mt' => v = r' ∧ R (sv st 99 d) mt') := fun v e => e ▸ key
        refine ⟨fun y0 => ⟨fun y1' => ep _ ?_, fun y1' => ep _ ?_⟩, fun y0 => ep _ ?_⟩
        · unfold pick; rw [if_neg y0, if_neg y1']; rfl
        · unfold pick; rw [if_neg y0, if_pos y1']; rfl
        · unfold pick; rw [if_pos y0]; rfl
      · rw [w_X4_fittingHate_L14, w_X4_fittingHate_L14q]
        refine n1 (gt99 hv) (m_become h.z11 hd (s_setHate (by omega) (by omega) ?_))
        have eb : u2 (bec (cv st 11)) 4 (hI p q) (heldF (nI v)) = bec (fhC (cv st 11) p q v) := by
          rw [(held99 v hv).1]
          exact (bec_u2 (by decide)).symm
        rw [eb]
        refine x_opensAsTold (vfh v) (zfh v) r1 r2 fun c' zc => ?_
        show (fhM n nL p q r (st 7) (cv st 11) v = 0 → _) ∧ _
        unfold fhS at hk
        by_cases em : fhM n nL p q r (st 7) (cv st 11) v = 0
        · rw [if_pos em] at hk
          refine y1 em ?_
          rw [w_X4_fittingHate_b74, nI_inc]
          exact hk c' zc
        · rw [if_neg em] at hk
          refine n1 em ?_
          by_cases e9 : s.2.1 = -9
          · rw [if_pos e9] at hk
            refine y2 e9 ?_
            rw [w_X4_fittingHate_b68, w_X4_fittingHate_b74, nI_inc]
            exact hk c' zc
          · rw [if_neg e9] at hk
            refine n2 e9 ?_
            rw [w_X4_fittingHate_b68, w_X4_fittingHate_b74, nI_inc]
            exact hk c' zc
/-! what kind -/
def kfS (M : Nat → Int32) (v : Nat) (s : Int32) : Int32 := if M v = 0 then s else s ||| ((1 : Int32) <<< (nI v &&& 31))
def kfF (M : Nat → Int32) (e : Nat) : Int32 := fr 0 e (kfS M) 0
def kiM (n nL p q r : Nat) (row : Nat → Int32) (c : Ct) (v : Nat) : Int32 := tdF (hsP n nL p q row (u2 c 1 p (nI v))) r
def fiM (n nL p q r : Nat) (row : Nat → Int32) (c : Ct) (v : Nat) : Int32 := tdF (hsP n nL p q row (u2 c 2 p (nI v))) r
theorem t_bitsFor {n nL p q r e k : Nat} {row : Nat → Int32} {M : Nat → Int32} {mt : St} {c : Ct} {K : Int32 → St → Prop} (hm : RM n nL mt c) (hp : p < n) (hq : q < n) (hpq : p ≠ q) (hr : r ≤ 12) (h29 : mt 0 29 = nI r) (hrow : ∀ i, i < r → mt 16 i = row i) (hk : k = 2 ∨ k = 3) (he : e < 100)
    (hM : ∀ v s, v < e → hf (u2 mt k p (nI v)) s → ∃ c', RM n nL s c' ∧ M v = tdF (hsP n nL p q row c') r) (hK : ∀ s, hf mt s → K (kfF M e) s) : w_X9_bitsFor k 6 (nI p) (nI q) (nI e) mt K := by
  have hn := hm.1.1
  have cl : (nI p).toNatClampNeg = p := clI (show p < 6 by omega) (by decide)
  have vp : vp_in (nI p) 6 := vp_in_nI (by omega) (by decide)
  unfold w_X9_bitsFor
  rw [cl]
  refine ⟨vp, ?_⟩
  refine lo_frD (fun m v (s : Int32) t => w_X9_bitsFor_L11 k 6 (nI p) (nI q) (nI e) K m (mt k p) s (nI v) t) (kfS M) (fun _ _ => True) (fun _ t => ∃ w, hf (u2 mt k p w) t) (0 : Int32) mt (Nat.zero_le e) trivial (fun _ _ _ _ _ => trivial) ⟨mt k p, by rw [u2_id rfl]; exact hf_rf⟩ (fun _ m t ht => ?_) (fun m v s t _ hv _ ht hk2 => ?_)
  · obtain ⟨w, ht⟩ := ht
    rw [w_X9_bitsFor_L11, w_X9_bitsFor_L11q]
    refine y1 (nI_le (Nat.le_refl e) (by omega)) ?_
    rw [w_X9_bitsFor_b51, cl]
    exact ⟨vp, hK _ (hf_back ht (by omega))⟩
  · obtain ⟨w, ht⟩ := ht
    rw [w_X9_bitsFor_L11, w_X9_bitsFor_L11q, cl]
    refine n1 (nI_ge hv (by omega)) ⟨vp, ?_⟩
    have h1 : hf (u2 mt k p (nI v)) (u2 t k p (nI v)) := hf_over2 _ ht (by omega)
    obtain ⟨c', rm, eM⟩ := hM v _ hv h1
    have o29 : u2 t k p (nI v) 0 29 = nI r := by
      rw [h1.2.2.1 29 (by decide) (by decide) (by decide) (by decide) (by decide) (by decide) (by decide), u2_off (by omega)]
      exact h29
    have o16 : ∀ i, i < r → u2 t k p (nI v) 16 i = row i := fun i hi => by
      rw [h1.2.1 16 (by decide) (by decide) (by decide) (by decide), u2_off (by omega)]
      exact hrow i hi
    refine t_hatesSo rm hp hq hpq hr o29 o16 fun s1 hs1 => ?_
    have D1 : ∃ w, hf (u2 mt k p w) s1 := ⟨_, h1.tr hs1⟩
    rw [← eM]
    unfold kfS at hk2
    by_cases em : M v = 0
    · rw [if_pos em] at hk2
      refine y1 em ?_
      rw [w_X9_bitsFor_b42, nI_inc, Int32.or_zero]
      exact hk2 s1 D1
    · rw [if_neg em] at hk2
      refine n1 em ?_
      rw [w_X9_bitsFor_b42, nI_inc]
      exact hk2 s1 D1
theorem sim_whatKind {st mt : St} (h : R st mt) (x1 x2 x3 : Int32) : w_X8_whatKind x1 x2 x3 st (fun r st' => w_X9_whatKind x1 x2 x3 mt (fun r' mt' => r = r' ∧ R st' mt')) := by
  obtain ⟨n, nL, hm, g, hn, hL, h7, h8, k8, k9⟩ := h.ctx
  obtain ⟨r, r1, r2, r3, r4⟩ := h.2.2.2.2.2.1
  unfold w_X8_whatKind
  refine s_twoRef h7 (s_choice (s_firstOf ?_))
  by_cases e1 : twF n x1 x2 = 0
  · rw [nb0 e1, f1 (by decide)]
    refine n1 (by decide) (s_refused rO1 ?_)
    unfold w_X9_whatKind
    refine t_areTwo k8 (y2 e1 ?_)
    rw [w_X9_whatKind_b28]
    exact n1 (by decide) (t_no rO1 ⟨rfl, R_ref h rO1⟩)
  · rw [nb1 e1, f0]
    by_cases e2 : inF x3 0 1 = 0
    · rw [ch_out e2, if_neg (by decide)]
      refine n1 (by decide) (s_refused rO2 ?_)
      unfold w_X9_whatKind
      refine t_areTwo k8 (n2 e1 (t_isIn' (y2 e2 ?_)))
      rw [w_X9_whatKind_b28]
      exact n1 (by decide) (t_no rO2 ⟨rfl, R_ref h rO2⟩)
    · rw [ch_in e2, if_pos rfl]
      obtain ⟨p, q, hp, hq, hpq, rfl, rfl⟩ := twF_1 (by omega) e1
      have row : ∀ i, i < r → mt 16 i = st 7 i := fun i hi => (r4 i hi).symm
      refine y1 rfl ⟨fun y => mind0 (fun s => w_X4_fittingFigures (nI p) (nI q) s _) (fun c0 z0 => ?_) h.z99, fun y => mind0 (fun s => w_X4_fittingKinds (nI p) (nI q) s _) (fun c0 z0 => ?_) h.z99⟩
      · unfold w_X4_fittingFigures
        refine lo_frD (fun m v (s : Int32) c' => w_X4_fittingFigures_L6 (nI p) (nI q) _ m s (nI v) (sv st 99 c')) (kfS (fiM n nL p q r (st 7) (cv st 11))) (fun _ _ => True) (fun _ c' => zn c') (0 : Int32) c0 (Nat.zero_le 10) trivial (fun _ _ _ _ _ => trivial) z0 (fun _ m d hd => ?_) (fun m v s d _ hv _ hd hk => ?_)
        · rw [w_X4_fittingFigures_L6, w_X4_fittingFigures_L6q]
          refine y1 (by decide) ?_
          unfold w_X9_whatKind
          refine t_areTwo k8 (n2 e1 (t_isIn' (n2 e2 ?_)))
          rw [w_X9_whatKind_b28]
          refine y1 rfl (n2 y (t_bitsFor (e := 10) hm hp hq hpq r1 r3 row (Or.inr rfl) (by decide) (fun v s hv hs => ⟨u2 (cv st 11) 2 p (nI v), RM_hf (RM_figure hm) hs, rfl⟩) fun s hs => ⟨rfl, R_mind h hd hs.tf⟩))
        · rw [w_X4_fittingFigures_L6, w_X4_fittingFigures_L6q]
          refine n1 (i_nlt.mpr (nI_le (show v ≤ 9 by omega) (by decide))) (m_become h.z11 hd (m_setFigure (by omega) ?_))
          have eb : u2 (bec (cv st 11)) 2 p (nI v) = bec (u2 (cv st 11) 2 p (nI v)) := (bec_u2 (by decide)).symm
          rw [eb]
          refine x_hatesAsTold (vC_u4 hm.1 (by decide) (by decide)) (zn_u2 ⟨h.z11, nC_cv⟩ (by decide) (show p < lenC 2 from (show p < 6 by omega)) (fun z => absurd z (by decide))) r1 r2 (by omega) (by omega) fun c' zc => ?_
          show (fiM n nL p q r (st 7) (cv st 11) v = 0 → _) ∧ _
          unfold kfS at hk
          by_cases em : fiM n nL p q r (st 7) (cv st 11) v = 0
          · rw [if_pos em] at hk
            refine y1 em ?_
            rw [w_X4_fittingFigures_b53, nI_inc]
            exact hk c' zc
          · rw [if_neg em] at hk
            refine n1 em ?_
            rw [w_X4_fittingFigures_b53, nI_inc]
            exact hk c' zc
      · unfold w_X4_fittingKinds
        refine lo_frD (fun m v (s : Int32) c' => w_X4_fittingKinds_L6 (nI p) (nI q) _ m s (nI v) (sv st 99 c')) (kfS (kiM n nL p q r (st 7) (cv st 11))) (fun _ _ => True) (fun _ c' => zn c') (0 : Int32) c0 (Nat.zero_le 6) trivial (fun _ _ _ _ _ => trivial) z0 (fun _ m d hd => ?_) (fun m v s d _ hv _ hd hk => ?_)
        · rw [w_X4_fittingKinds_L6, w_X4_fittingKinds_L6q]
          refine y1 (by decide) ?_
          unfold w_X9_whatKind
          refine t_areTwo k8 (n2 e1 (t_isIn' (n2 e2 ?_)))
          rw [w_X9_whatKind_b28]
          refine y1 rfl (y2 y (t_bitsFor (e := 6) hm hp hq hpq r1 r3 row (Or.inl rfl) (by decide) (fun v s hv hs => ⟨u2 (cv st 11) 1 p (nI v), RM_hf (RM_kind hm) hs, rfl⟩) fun s hs => ⟨rfl, R_mind h hd hs.tf⟩))
        · rw [w_X4_fittingKinds_L6, w_X4_fittingKinds_L6q]
          refine n1 (nI_ge hv (by decide)) (m_become h.z11 hd (m_setKind (by omega) ?_))
          have eb : u2 (bec (cv st 11)) 1 p (nI v) = bec (u2 (cv st 11) 1 p (nI v)) := (bec_u2 (by decide)).symm
          rw [eb]
          refine x_hatesAsTold (vC_u4 hm.1 (by decide) (by decide)) (zn_u2 ⟨h.z11, nC_cv⟩ (by decide) (show p < lenC 1 from (show p < 6 by omega)) (fun z => absurd z (by decide))) r1 r2 (by omega) (by omega) fun c' zc => ?_
          show (kiM n nL p q r (st 7) (cv st 11) v = 0 → _) ∧ _
          unfold kfS at hk
          by_cases em : kiM n nL p q r (st 7) (cv st 11) v = 0
          · rw [if_pos em] at hk
            refine y1 em ?_
            rw [w_X4_fittingKinds_b53, nI_inc]
            exact hk c' zc
          · rw [if_neg em] at hk
            refine n1 em ?_
            rw [w_X4_fittingKinds_b53, nI_inc]
            exact hk c' zc
