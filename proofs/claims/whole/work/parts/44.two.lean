/-! pure part: two, send, swap -/
theorem lo_frD {σ δ : Type} (W : Nat → Nat → σ → δ → Prop) (f : Nat → σ → σ) (I : Nat → σ → Prop) (D : Nat → δ → Prop) {e i0 : Nat} (s0 : σ) (d0 : δ) (hi : i0 ≤ e) (h0 : I i0 s0) (hI : ∀ i s, i0 ≤ i → i < e → I i s → I (i + 1) (f i s)) (hd : D i0 d0)
    (hx : I e (fr i0 e f s0) → ∀ n d, D e d → W (n + 1) e (fr i0 e f s0) d) (hs : ∀ n i s d, i0 ≤ i → i < e → I i s → D i d → (∀ d', D (i + 1) d' → W n (i + 1) (f i s) d') → W (n + 1) i s d) : ∃ n, W n i0 s0 d0 := by
  refine lo_rel (fun n i (z : σ × δ) => W n i z.1 z.2) (fun i z => z.1 = fr i0 i f s0 ∧ I i z.1 ∧ D i z.2) (s0, d0) hi ⟨(fr_self _ _ _).symm, h0, hd⟩ (fun z hz n => ?_) (fun n i z h1 h2 hz hw => ?_)
  · obtain ⟨a, b, c⟩ := hz
    rw [a] at b ⊢
    exact hx b n z.2 c
  · obtain ⟨a, b, c⟩ := hz
    exact hs n i z.1 z.2 h1 h2 b c fun d' hd' => hw (f i z.1, d') ⟨by rw [fr_succ h1, a], hI i z.1 h1 h2 b, hd'⟩
/-- how many are open behind w weeks -/
def cnF (n nL w : Nat) (c : Ct) : Nat := pc (ob (wkF n nL w c))
theorem cn_lt {n nL w : Nat} {c : Ct} (h : vC n nL c) : cnF n nL w c < 7 := pc_lt _ (p64 h.2.1 (vC_wkF h).2.2.2.2.2.2)
theorem t_many {n nL w : Nat} {mt : St} {c : Ct} {K : Int32 → St → Prop} (hw : w < 2147483648) (h : RM n nL mt c) (hk : ∀ mt', hf mt mt' → K (nI (cnF n nL w c)) mt') : w_X9_openIn (nI w) mt (fun r st => w_X9_bits r st K) :=
  t_openIn hw h fun mt' hh => t_bits (by have := p64 h.1.2.1 (vC_wkF (i := w) h.1).2.2.2.2.2.2; omega) (hk mt' hh)
theorem x_openAsAllIs {st : St} {c0 : Ct} {n nL w : Nat} {K : Int32 → St → Prop} (hz : zC (cv st 11)) (h0 : zn c0) (hv : vC n nL (cv st 11)) (hw : w < 2147483648) (h : ∀ c', zn c' → K (nI (cnF n nL w (cv st 11))) (sv st 99 c')) : w_X4_openAsAllIs (nI w) (sv st 99 c0) K := by
  unfold w_X4_openAsAllIs
  exact m_become hz h0 (m_passWeeks hw hv (h _ (zn_wkF hv.1 hv.2.1 ⟨hz, nC_cv⟩)))
/-! two -/
def gnF (c : Ct) (p x y : Nat) (war peace : Int32) : Int32 := 4 * wageF c p - (if x = 1 ∧ y = 1 then peace else war) / 2 - (if x = 1 ∧ y = 0 then 3 else 0)
theorem nI2 {x k : Nat} (hx : x < 2) (hk : k < 2) : nI x = nI k ↔ x = k := ⟨fun z => nI_eqI (by omega) (by omega) z, fun z => by rw [z]⟩
theorem x_gain {st : St} {p x y : Nat} {war peace : Int32} {K : Int32 → St → Prop} (hp : p < 6) (hx : x < 2) (hy : y < 2) (h : K (gnF (cv st 11) p x y war peace) st) : w_X4_gain (nI p) (nI x) (nI y) war peace st K := by
  unfold w_X4_gain
  have ox : nI x = 1 ↔ x = 1 := nI2 (k := 1) hx (by decide)
  have oy : nI y = 1 ↔ y = 1 := nI2 (k := 1) hy (by decide)
  have zy : nI y = 0 ↔ y = 0 := nI2 (k := 0) hy (by decide)
  unfold gnF at h
  have fin : ∀ s v : Int32, (if x = 1 ∧ y = 0 then 3 else 0) = s → (if x = 1 ∧ y = 1 then peace else war) = v → w_X4_gain_b33 (nI p) (nI x) (nI y) war peace K v s st := fun s v e1 e2 => by
    rw [w_X4_gain_b33]
    refine x_wageOf hp ?_
    rw [← e1, ← e2]
    exact h
  have b17 : ∀ v : Int32, (if x = 1 ∧ y = 1 then peace else war) = v → w_X4_gain_b17 (nI p) (nI x) (nI y) war peace K v st := fun v e2 => by
    rw [w_X4_gain_b17]
    by_cases h1 : x = 1
    · refine y2 (ox.mpr h1) ?_
      by_cases h2 : y = 0
      · exact y2 (zy.mpr h2) (fin 3 v (if_pos ⟨h1, h2⟩) e2)
      · refine n2 (fun z => h2 (zy.mp z)) ?_
        rw [w_X4_gain_b32]
        exact fin 0 v (if_neg fun z => h2 z.2) e2
    · refine n2 (fun z => h1 (ox.mp z)) ?_
      rw [w_X4_gain_b32]
      exact fin 0 v (if_neg fun z => h1 z.1) e2
  by_cases h1 : x = 1
  · refine y2 (ox.mpr h1) ?_
    by_cases h2 : y = 1
    · exact y2 (oy.mpr h2) (b17 peace (if_pos ⟨h1, h2⟩))
    · refine n2 (fun z => h2 (oy.mp z)) ?_
      rw [w_X4_gain_b15]
      exact b17 war (if_neg fun z => h2 z.2)
  · refine n2 (fun z => h1 (ox.mp z)) ?_
    rw [w_X4_gain_b15]
    exact b17 war (if_neg fun z => h1 z.1)
def pcF (n nL p q : Nat) (c : Ct) : Int32 := wkF n nL 4 (u2 c 4 (hI p q) (heldF (c 4 (hI p q) / 2))) 4 (hI p q)
def wrF (n nL p q : Nat) (c : Ct) : Int32 := wkF n nL 4 c 4 (hI p q)
theorem half : ∀ d, d < 100 → heldF (nI d / 2) = nI d / 2 ∧ 0 ≤ nI d / 2 ∧ nI d / 2 ≤ 99 := by decide +kernel
theorem hOk_nI {n p q : Nat} {c : Ct} (h : hOk n c) (hp : p < n) (hq : q < n) (hpq : p ≠ q) : ∃ d, d < 100 ∧ c 4 (hI p q) = nI d := by
  have b : 0 ≤ c 4 (hI p q) ∧ c 4 (hI p q) ≤ 99 := by
    rcases Nat.lt_or_gt_of_ne hpq with z | z
    · exact h p q z hq
    · rw [hI_comm]; exact h q p z hp
  obtain ⟨d, hd, e⟩ := nI_of (i_nlt.mpr b.1)
  refine ⟨d, Nat.not_le.mp fun z => ?_, e⟩
  have b2 := b.2
  rw [e] at b2
  have : d ≤ 99 := (nJ_le hd (show 99 < 2147483648 by decide)).mp (show nI d ≤ nI 99 from b2)
  omega
theorem t_getsOf {n nL p q x y : Nat} {mt : St} {c : Ct} {K : Int32 → St → Prop} (hm : RM n nL mt c) (hp : p < n) (hq : q < n) (hpq : p ≠ q) (hx : x < 2) (hy : y < 2) (hk : ∀ mt', hf mt mt' → K (gnF c p x y (wrF n nL p q c) (pcF n nL p q c)) mt') : w_X9_getsOf (nI p) (nI q) (nI x) (nI y) mt K := by
  have hn := hm.1.1
  have ox : nI x = 1 ↔ x = 1 := nI2 (k := 1) hx (by decide)
  have oy : nI y = 1 ↔ y = 1 := nI2 (k := 1) hy (by decide)
  have zy : nI y = 0 ↔ y = 0 := nI2 (k := 0) hy (by decide)
  have ho := hm.hate hp hq hpq
  have ho2 := hm.hate hq hp (Ne.symm hpq)
  rw [hI_comm] at ho2
  obtain ⟨d, hd, e⟩ := hOk_nI hm.2.1 hp hq hpq
  have hh2 := half d hd
  -- the tail, whichever hate is set
  have tail : ∀ (v : Int32) (s : Int32), RM n nL (setsF mt p q v) (u2 c 4 (hI p q) v) → wkF n nL 4 (u2 c 4 (hI p q) v) 4 (hI p q) = (if x = 1 ∧ y = 1 then pcF n nL p q c else wrF n nL p q c) → w_X9_getsOf_b31 (nI p) (nI q) (nI x) (nI y) K (c 4 (hI p q)) v (nI q) (nI p) mt := fun v s hr ev => by
    rw [w_X9_getsOf_b31]
    refine t_sets (by omega) (by omega) ?_
    refine t_payOf (by omega) ?_
    have a := hr.2.2.2.2.2.1 p hp
    rw [a.1, a.2.1, u2_off (by decide), u2_off (by decide)]
    have fin : ∀ s1 (t : Int32), hf (setsF mt p q v) s1 → (if x = 1 ∧ y = 0 then 3 else 0) = t → w_X9_getsOf_b66 (nI p) (nI q) (nI x) (nI y) K (c 4 (hI p q)) t (4 * wagingF (c 1 p) (c 2 p) - wkF n nL 4 (u2 c 4 (hI p q) v) 4 (hI p q) / 2) s1 := fun s1 t hs et => by
      rw [w_X9_getsOf_b66]
      refine t_sets (by omega) (by omega) ?_
      rw [ev, ← et]
      exact hk _ (hf_unset hs (by omega) (by omega) hpq ho ho2)
    refine t_hateIn (w := 4) (by decide) hr hp hq hpq fun s1 hs => ?_
    by_cases h1 : x = 1
    · refine y2 (ox.mpr h1) ?_
      by_cases h2 : y = 0
      · exact y2 (zy.mpr h2) (fin s1 3 hs (if_pos ⟨h1, h2⟩))
      · refine n2 (fun z => h2 (zy.mp z)) ?_
        rw [w_X9_getsOf_b65]
        exact fin s1 0 hs (if_neg fun z => h2 z.2)
    · refine n2 (fun z => h1 (ox.mp z)) ?_
      rw [w_X9_getsOf_b65]
      exact fin s1 0 hs (if_neg fun z => h1 z.1)
  have war : ¬ (x = 1 ∧ y = 1) → w_X9_getsOf_b29 (nI p) (nI q) (nI x) (nI y) K (c 4 (hI p q)) (nI q) (nI p) mt := fun z => by
    rw [w_X9_getsOf_b29]
    have e1 : u2 c 4 (hI p q) (c 4 (hI p q)) = c := u2_id rfl
    refine tail (c 4 (hI p q)) 0 (by rw [sets_id ho ho2, e1]; exact hm) ?_
    rw [if_neg z, e1]
    rfl
  unfold w_X9_getsOf
  refine t_hateOf (by omega) (by omega) ?_
  rw [ho]
  by_cases h1 : x = 1
  · refine y2 (ox.mpr h1) ?_
    by_cases h2 : y = 1
    · refine y2 (oy.mpr h2) (tail _ 0 ?_ ?_)
      · refine RM_sets hm hp hq hpq ?_ ?_
        · rw [e]; exact hh2.2.1
        · rw [e]; exact hh2.2.2
      · rw [if_pos ⟨h1, h2⟩]
        unfold pcF
        rw [e, hh2.1]
    · exact n2 (fun z => h2 (oy.mp z)) (war fun z => h2 z.2)
  · exact n2 (fun z => h1 (ox.mp z)) (war fun z => h1 z.1)
def twP (n nL p q : Nat) (c : Ct) (k : Nat) : Bool :=
  decide (gnF c p (1 - k / 2) (k % 2) (wrF n nL p q c) (pcF n nL p q c) ≤ gnF c p (k / 2) (k % 2) (wrF n nL p q c) (pcF n nL p q c)) &&
  decide (gnF c q (1 - k % 2) (k / 2) (wrF n nL p q c) (pcF n nL p q c) ≤ gnF c q (k % 2) (k / 2) (wrF n nL p q c) (pcF n nL p q c))
theorem k2 : ∀ k, k < 4 → nI k / 2 = nI (k / 2) ∧ nI k - nI k / 2 * 2 = nI (k % 2) ∧ 1 - nI (k / 2) = nI (1 - k / 2) ∧ 1 - nI (k % 2) = nI (1 - k % 2) := by decide +kernel
def vF (v : Int32) : Int32 := if v = -9 then -9 else 10 * (v / 2) + (v - v / 2 * 2)
theorem vF_k : ∀ k, k < 4 → vF (nI k) = 10 * nI (k / 2) + nI (k % 2) := by decide +kernel
theorem swapF {n nL p q : Nat} {c : Ct} : wrF n nL q p c = wrF n nL p q c ∧ pcF n nL q p c = pcF n nL p q c := by
  unfold wrF pcF
  rw [hI_comm (p := q) (q := p)]
  exact ⟨rfl, rfl⟩
theorem x_hateMadeUp {st : St} {c0 : Ct} {n nL p q : Nat} {K : Int32 → St → Prop} (hz : zC (cv st 11)) (h0 : zn c0) (hv : vC n nL (cv st 11)) (hp : p < 6) (hq : q < 6) (h : ∀ c', zn c' → K (pcF n nL p q (cv st 11)) (sv st 99 c')) : w_X4_hateMadeUp (nI p) (nI q) (sv st 99 c0) K := by
  unfold w_X4_hateMadeUp
  refine m_become hz h0 (x_hateOf hp hq ?_)
  rw [c11]
  refine s_setHate hp hq ?_
  have e : u2 (bec (cv st 11)) 4 (hI p q) (heldF (cv st 11 4 (hI p q) / 2)) = bec (u2 (cv st 11) 4 (hI p q) (heldF (cv st 11 4 (hI p q) / 2))) := (bec_u2 (by decide)).symm
  rw [e]
  exact m_passWeeks (w := 4) (by decide) (vC_u4 hv (by decide) (by decide)) (s_hateOf hp hq (h _ (zn_wkF hv.1 hv.2.1 (zn_hate ⟨hz, nC_cv⟩ hp hq))))
theorem sim_two {st mt : St} (h : R st mt) (x1 x2 : Int32) : w_X8_two x1 x2 st (fun r st' => w_X9_two x1 x2 mt (fun r' mt' => r = r' ∧ R st' mt')) := by
  obtain ⟨n, nL, hm, g, hn, hL, h7, h8, k8, k9⟩ := h.ctx
  unfold w_X8_two
  refine s_twoRef h7 ?_
  by_cases e1 : twF n x1 x2 = 0
  · rw [nb0 e1]
    refine n1 (by decide) (s_refused rO1 ?_)
    unfold w_X9_two
    exact t_areTwo k8 (y2 e1 (t_no rO1 ⟨rfl, R_ref h rO1⟩))
  · rw [nb1 e1]
    obtain ⟨p, q, hp, hq, hpq, rfl, rfl⟩ := twF_1 (by omega) e1
    refine y1 rfl (mind0 (fun s => w_X4_settled (nI p) (nI q) s _) (fun c0 z0 => ?_) h.z99)
    unfold w_X4_settled
    refine x_hateAfter (w := 4) h.z11 z0 hm.1 (by omega) (by omega) (by decide) fun c1 z1 => x_hateMadeUp h.z11 z1 hm.1 (by omega) (by omega) fun c2 z2 => ?_
    refine lo_fst (W := fun m k => w_X4_settled_L19 (nI p) (nI q) _ m (wrF n nL p q (cv st 11)) (pcF n nL p q (cv st 11)) (nI k) (sv st 99 c2)) (P := twP n nL p q (cv st 11)) (Q := fun v => w_X9_two (nI p) (nI q) mt (fun r' mt' => vF v = r' ∧ R (sv st 99 c2) mt')) (Nat.zero_le 4) (fun hQ => ⟨1, ?_⟩) (fun k _ hk hP hQ => ⟨1, ?_⟩) (fun m k _ hk hP hw => ?_) ?_
    · rw [w_X4_settled_L19, w_X4_settled_L19q]
      exact y1 (nI_le (Nat.le_refl 4) (by decide)) hQ
    · obtain ⟨q1, q2, q3, q4⟩ := k2 k hk
      rw [w_X4_settled_L19, w_X4_settled_L19q, q2, q1, q3]
      have hP' := Bool.and_eq_true_iff.mp hP
      refine n1 (nI_ge hk (by decide)) (x_gain (by omega) (by omega) (by omega) (x_gain (by omega) (by omega) (by omega) (n1 ?_ ?_)))
      · rw [c11]; exact i_nlt.mpr (of_decide_eq_true hP'.1)
      · rw [w_X4_settled_b71, q4]
        refine x_gain (by omega) (by omega) (by omega) (x_gain (by omega) (by omega) (by omega) (n1 ?_ ?_))
        · rw [c11]; exact i_nlt.mpr (of_decide_eq_true hP'.2)
        · rw [w_X4_settled_b107]
          refine n1 (by decide) (n1 (by decide) ?_)
          rw [w_X4_settled_b119]
          rw [vF_k k hk] at hQ
          exact hQ
    · obtain ⟨q1, q2, q3, q4⟩ := k2 k hk
      rw [w_X4_settled_L19, w_X4_settled_L19q, q2, q1, q3]
      have nx : ∀ v8 s0 : Int32, (v8 = 0 ∨ s0 = 0) → w_X4_settled_b107 (nI p) (nI q) (fun v3 v4 v5 st_1 => w_X4_settled_L19 (nI p) (nI q) (fun r st' => w_X9_two (nI p) (nI q) mt (fun r' mt' => r = r' ∧ R st' mt')) m v3 v4 v5 st_1) (fun r st' => w_X9_two (nI p) (nI q) mt (fun r' mt' => r = r' ∧ R st' mt')) (wrF n nL p q (cv st 11)) (pcF n nL p q (cv st 11)) (nI k) (nI (k / 2)) (nI (k % 2)) v8 s0 (sv st 99 c2) := fun v8 s0 hz => by
        have b128 : w_X4_settled_b128 (nI p) (nI q) (fun v3 v4 v5 st_1 => w_X4_settled_L19 (nI p) (nI q) (fun r st' => w_X9_two (nI p) (nI q) mt (fun r' mt' => r = r' ∧ R st' mt')) m v3 v4 v5 st_1) (fun r st' => w_X9_two (nI p) (nI q) mt (fun r' mt' => r = r' ∧ R st' mt')) (wrF n nL p q (cv st 11)) (pcF n nL p q (cv st 11)) (nI k) (sv st 99 c2) := by
          rw [w_X4_settled_b128, nI_inc]
          exact hw
        rw [w_X4_settled_b107]
        refine ⟨fun _ => b128, fun y => ?_⟩
        exact y1 (hz.resolve_left y) b128
      refine n1 (nI_ge hk (by decide)) (x_gain (by omega) (by omega) (by omega) (x_gain (by omega) (by omega) (by omega) ?_))
      rw [c11]
      have b71 : ∀ s0 : Int32, (s0 = 0 ∨ ¬ gnF (cv st 11) q (1 - k % 2) (k / 2) (wrF n nL p q (cv st 11)) (pcF n nL p q (cv st 11)) ≤ gnF (cv st 11) q (k % 2) (k / 2) (wrF n nL p q (cv st 11)) (pcF n nL p q (cv st 11))) → w_X4_settled_b71 (nI p) (nI q) (fun v3 v4 v5 st_1 => w_X4_settled_L19 (nI p) (nI q) (fun r st' => w_X9_two (nI p) (nI q) mt (fun r' mt' => r = r' ∧ R st' mt')) m v3 v4 v5 st_1) (fun r st' => w_X9_two (nI p) (nI q) mt (fun r' mt' => r = r' ∧ R st' mt')) (wrF n nL p q (cv st 11)) (pcF n nL p q (cv st 11)) (nI k) (nI (k / 2)) (nI (k % 2)) s0 (sv st 99 c2) := fun s0 hz => by
        rw [w_X4_settled_b71, q4]
        refine x_gain (by omega) (by omega) (by omega) (x_gain (by omega) (by omega) (by omega) ?_)
        rw [c11]
        refine ⟨fun _ => nx s0 0 (Or.inr rfl), fun y => ?_⟩
        rcases hz with hz | hz
        · exact nx s0 1 (Or.inl hz)
        · exact absurd (i_nlt.mp y) hz
      refine ⟨fun _ => b71 0 (Or.inl rfl), fun y => b71 1 (Or.inr fun z => ?_)⟩
      rw [twP, decide_eq_true (i_nlt.mp y), decide_eq_true z] at hP
      cases hP
    · unfold w_X9_two
      refine t_areTwo k8 (n2 e1 ?_)
      obtain ⟨v, hv⟩ : ∃ v, v = fstG (twP n nL p q (cv st 11)) (4 - 0) 0 := ⟨_, rfl⟩
      rw [← hv]
      refine lo_fstJ (W := fun m k s => w_X9_two_L17 (nI p) (nI q) _ m (nI k) s) (P := twP n nL p q (cv st 11)) (Q := fun x => x = v) (J := fun _ s => hf mt s) (Nat.zero_le 4) hf_rf (fun m s hJ hQ => ?_) (fun m k s _ hk hJ hP hQ => ?_) (fun m k s _ hk hJ hP hw => ?_) hv.symm
      · rw [w_X9_two_L17, w_X9_two_L17q]
        exact y1 (nI_le (Nat.le_refl 4) (by decide)) ⟨by rw [← hQ]; rfl, R_mind h z2 hJ.tf⟩
      · obtain ⟨q1, q2, q3, q4⟩ := k2 k hk
        rw [w_X9_two_L17, w_X9_two_L17q, q2, q1, q3]
        have hP' := Bool.and_eq_true_iff.mp hP
        have hs := RM_hf hm hJ
        refine n1 (nI_ge hk (by decide)) (t_getsOf hs hp hq hpq (by omega) (by omega) fun s1 g1 => t_getsOf (RM_hf hs g1) hp hq hpq (by omega) (by omega) fun s2 g2 => n1 (i_nlt.mpr (of_decide_eq_true hP'.1)) ?_)
        rw [q4]
        refine t_getsOf (RM_hf (RM_hf hs g1) g2) hq hp (Ne.symm hpq) (by omega) (by omega) fun s3 g3 => t_getsOf (RM_hf (RM_hf (RM_hf hs g1) g2) g3) hq hp (Ne.symm hpq) (by omega) (by omega) fun s4 g4 => ?_
        rw [swapF.1, swapF.2]
        refine n1 (i_nlt.mpr (of_decide_eq_true hP'.2)) ?_
        rw [w_X9_two_b82]
        refine ⟨by rw [← hQ]; exact vF_k k hk, R_mind h z2 ((((hJ.tr g1).tr g2).tr g3).tr g4).tf⟩
      · obtain ⟨q1, q2, q3, q4⟩ := k2 k hk
        rw [w_X9_two_L17, w_X9_two_L17q, q2, q1, q3]
        have hs := RM_hf hm hJ
        have nx : ∀ s', hf mt s' → w_X9_two_b91 (nI p) (nI q) (fun v3 st_1 => w_X9_two_L17 (nI p) (nI q) (fun r' mt' => vF v = r' ∧ R (sv st 99 c2) mt') m v3 st_1) (fun r' mt' => vF v = r' ∧ R (sv st 99 c2) mt') (nI k) s' := fun s' hs' => by
          rw [w_X9_two_b91, nI_inc]
          exact hw s' hs'
        refine n1 (nI_ge hk (by decide)) (t_getsOf hs hp hq hpq (by omega) (by omega) fun s1 g1 => t_getsOf (RM_hf hs g1) hp hq hpq (by omega) (by omega) fun s2 g2 => ⟨fun _ => nx s2 ((hJ.tr g1).tr g2), fun y => ?_⟩)
        rw [q4]
        refine t_getsOf (RM_hf (RM_hf hs g1) g2) hq hp (Ne.symm hpq) (by omega) (by omega) fun s3 g3 => t_getsOf (RM_hf (RM_hf (RM_hf hs g1) g2) g3) hq hp (Ne.symm hpq) (by omega) (by omega) fun s4 g4 => ?_
        rw [swapF.1, swapF.2]
        refine ⟨fun _ => nx s4 ((((hJ.tr g1).tr g2).tr g3).tr g4), fun y' => ?_⟩
        rw [twP, decide_eq_true (i_nlt.mp y), decide_eq_true (i_nlt.mp y')] at hP
        cases hP
