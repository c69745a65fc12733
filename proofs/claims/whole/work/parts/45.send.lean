/-! pure part: send, swap -/
theorem hf_cell {mt s : St} {p : Nat} (h : hf mt s) (hp : p < 6) : s 4 p = mt 4 p := by
  have e := h.1 (12 + p) (by omega)
  rw [lv_cell, lv_cell] at e
  have a : lvj (12 + p) = 4 := by unfold lvj; rw [if_neg (by omega), if_neg (by omega), if_pos (by omega)]
  have b : lvi (12 + p) = p := by unfold lvi; rw [if_neg (by omega), if_neg (by omega), if_pos (by omega)]; omega
  rw [a, b] at e
  exact e
theorem cn_nI {n nL w : Nat} {c : Ct} (h : vC n nL c) : cnF n nL w c < 2147483648 := by have := cn_lt (w := w) h; omega
def sdC (c : Ct) (p t : Nat) : Ct := u2 c 3 p (nI t)
def sdS (n nL w : Nat) (c : Ct) (p t : Nat) (s : Int32 × Nat) : Int32 × Nat := if nI t = c 3 p then s else if cnF n nL w (sdC c p t) ≤ s.2 then s else (nI (10 * p + t), cnF n nL w (sdC c p t))
def sdF (n nL w : Nat) (c : Ct) : Int32 × Nat := fr 0 n (fun p s => fr 0 4 (fun t s => sdS n nL w c p t s) s) (-9, cnF n nL w c)
theorem vC_sd {n nL p t : Nat} {c : Ct} (h : vC n nL c) : vC n nL (sdC c p t) := vC_u4 h (by decide) (by decide)
theorem sdS_lt {n nL w p t : Nat} {c : Ct} {s : Int32 × Nat} (hv : vC n nL c) (h : s.2 < 7) : (sdS n nL w c p t s).2 < 7 := by
  unfold sdS
  split
  · exact h
  · split
    · exact h
    · exact cn_lt (vC_sd hv)
theorem x_bestSending {st : St} {c0 : Ct} {n nL w : Nat} {K : Int32 → St → Prop} (hz : zC (cv st 11)) (h0 : zn c0) (hv : vC n nL (cv st 11)) (hw : w < 2147483648) (h7 : st 11 7 = nI n) (h : ∀ c', zn c' → K (sdF n nL w (cv st 11)).1 (sv st 99 c')) : w_X4_bestSending (nI w) (sv st 99 c0) K := by
  have hn := hv.1
  have hL := hv.2.1
  unfold w_X4_bestSending
  refine x_openAsAllIs hz h0 hv hw fun c1 z1 => ?_
  refine lo_frD (fun m p (s : Int32 × Nat) c' => w_X4_bestSending_L12 (nI w) K m s.1 (nI s.2) (nI p) (sv st 99 c')) (fun p s => fr 0 4 (fun t s => sdS n nL w (cv st 11) p t s) s) (fun _ s => s.2 < 7) (fun _ c' => zn c') ((-9 : Int32), cnF n nL w (cv st 11)) c1 (Nat.zero_le n) (cn_lt hv) (fun p s _ _ hs => fr_inv (fun _ (s : Int32 × Nat) => s.2 < 7) _ (Nat.zero_le 4) hs fun t s _ _ hs => sdS_lt hv hs) z1 (fun _ m d hd => ?_) (fun m p s d _ hp hs hd hk => ?_)
  · rw [w_X4_bestSending_L12, w_X4_bestSending_L12q]
    unfold w_X1_keeperCount
    rw [o11, h7]
    exact y1 (nI_le (Nat.le_refl n) (by omega)) (h d hd)
  · rw [w_X4_bestSending_L12, w_X4_bestSending_L12q]
    unfold w_X1_keeperCount
    rw [o11, h7]
    refine n1 (nI_ge hp (by omega)) ?_
    refine lo_frD (fun k t (s : Int32 × Nat) c' => w_X4_bestSending_L27 (nI w) (fun v2 v3 v4 st => w_X4_bestSending_L12 (nI w) K m v2 v3 v4 st) K k s.1 (nI s.2) (nI p) (nI t) (sv st 99 c')) (fun t s => sdS n nL w (cv st 11) p t s) (fun _ s => s.2 < 7) (fun _ c' => zn c') s d (Nat.zero_le 4) hs (fun t s _ _ hs => sdS_lt hv hs) hd (fun _ k d hd => ?_) (fun k t s d _ ht hs hd hk2 => ?_)
    · rw [w_X4_bestSending_L27, w_X4_bestSending_L27q]
      refine y1 (nI_le (Nat.le_refl 4) (by decide)) ?_
      rw [w_X4_bestSending_b103, nI_inc]
      exact hk d hd
    · rw [w_X4_bestSending_L27, w_X4_bestSending_L27q]
      refine n1 (nI_ge ht (by decide)) (x_townOf (by omega) ?_)
      rw [c11]
      unfold sdS at hk2
      by_cases e : nI t = cv st 11 3 p
      · rw [if_pos e] at hk2
        refine y1 e ?_
        rw [w_X4_bestSending_b97, nI_inc]
        exact hk2 d hd
      · rw [if_neg e] at hk2
        refine n1 e (m_become hz hd (m_move (by omega) ?_))
        have eb : u2 (bec (cv st 11)) 3 p (nI t) = bec (sdC (cv st 11) p t) := (bec_u2 (by decide)).symm
        rw [eb]
        refine m_passWeeks hw (vC_sd hv) ?_
        have zz : zn (wkF n nL w (sdC (cv st 11) p t)) := zn_wkF hn hL (zn_town ⟨hz, nC_cv⟩ (by omega))
        show (nI (cnF n nL w (sdC (cv st 11) p t)) ≤ nI s.2 → _) ∧ _
        by_cases e2 : cnF n nL w (sdC (cv st 11) p t) ≤ s.2
        · rw [if_pos e2] at hk2
          refine y1 (nI_le e2 (by omega)) ?_
          rw [w_X4_bestSending_b97, nI_inc]
          exact hk2 _ zz
        · rw [if_neg e2] at hk2
          refine n1 (fun y => e2 ((nJ_le (cn_nI (vC_sd hv)) (by omega)).mp y)) ?_
          rw [w_X4_bestSending_b97, nI_inc, n10 p (by omega) t (by omega)]
          exact hk2 _ zz
theorem n9lt {m : Nat} (h : m < 2147483648) : ¬ nI m < -9 := fun z => by
  have := Int32.lt_of_lt_of_le z (show (-9 : Int32) ≤ 0 by decide)
  exact n_lt0 h this
theorem t_sendL {n nL w : Nat} {mt : St} {c : Ct} {K : Int32 → St → Prop} (hw : w < 2147483648) (hm : RM n nL mt c) (g : gC n nL c) (h11 : mt 0 11 = 0) (hk : ∀ s, hf mt s → K (sdF n nL w c).1 s) : ∀ s0, hf mt s0 → ∃ m, w_X9_send_L31 (nI w) K m (-9) (nI (cnF n nL w c)) 0 s0 := by
  have hv := hm.1
  have hn := hv.1
  intro s0 hs0
  refine lo_frD (fun m p (s : Int32 × Nat) d => w_X9_send_L31 (nI w) K m s.1 (nI s.2) (nI p) d) (fun p s => fr 0 4 (fun t s => sdS n nL w c p t s) s) (fun _ s => s.2 < 7) (fun _ d => hf mt d) ((-9 : Int32), cnF n nL w c) s0 (Nat.zero_le n) (cn_lt hv) (fun p s _ _ hs => fr_inv (fun _ (s : Int32 × Nat) => s.2 < 7) _ (Nat.zero_le 4) hs fun t s _ _ hs => sdS_lt hv hs) hs0 (fun _ m d hd => ?_) (fun m p s d _ hp hs hd hk1 => ?_)
  · rw [w_X9_send_L31, w_X9_send_L31q, (RM_hf hm hd).2.2.1]
    exact y1 (nI_le (Nat.le_refl n) (by omega)) (hk d hd)
  · rw [w_X9_send_L31, w_X9_send_L31q, (RM_hf hm hd).2.2.1]
    refine n1 (nI_ge hp (by omega)) ?_
    refine lo_frD (fun k t (s : Int32 × Nat) d => w_X9_send_L43 (nI w) (fun v3 v4 v5 st => w_X9_send_L31 (nI w) K m v3 v4 v5 st) K k s.1 (nI s.2) (nI p) (nI t) d) (fun t s => sdS n nL w c p t s) (fun _ s => s.2 < 7) (fun _ d => hf mt d) s d (Nat.zero_le 4) hs (fun t s _ _ hs => sdS_lt hv hs) hd (fun _ k d hd => ?_) (fun k t s d _ ht hs hd hk2 => ?_)
    · rw [w_X9_send_L43, w_X9_send_L43q]
      refine y1 (nI_le (Nat.le_refl 4) (by decide)) ?_
      rw [w_X9_send_b106, nI_inc]
      exact hk1 d hd
    · have hmd := RM_hf hm hd
      have cl : (nI p).toNatClampNeg = p := clI (show p < 6 by omega) (by decide)
      have vi : vp_in (nI p) 6 := vp_in_nI (by omega) (by decide)
      rw [w_X9_send_L43, w_X9_send_L43q, cl, hmd.town g hp]
      refine n1 (nI_ge ht (by decide)) ⟨vi, ?_⟩
      unfold sdS at hk2
      by_cases e : nI t = c 3 p
      · rw [if_pos e] at hk2
        refine y2 e ?_
        rw [w_X9_send_b75]
        refine n1 (n9lt (by omega)) ?_
        rw [w_X9_send_b100, nI_inc]
        exact hk2 d hd
      · rw [if_neg e] at hk2
        refine n2 e ?_
        unfold w_X9_manyAt
        rw [cl]
        refine ⟨vi, vi, ?_⟩
        have h11d : d 0 11 = 0 := (hd.2.2.1 11 (by decide) (by decide) (by decide) (by decide) (by decide) (by decide) (by decide)).trans h11
        have rm : RM n nL (u2 d 4 p (nI t)) (sdC c p t) := RM_town hmd h11d (tn1 t ht)
        refine t_many hw rm fun s1 hs1 => ⟨vi, ?_⟩
        have back : hf mt (u2 s1 4 p (d 4 p)) := hd.tr (hf_back hs1 (by decide))
        show w_X9_send_b75 (nI w) _ _ K s.1 (nI s.2) (nI p) (nI t) (nI (cnF n nL w (sdC c p t))) _
        rw [w_X9_send_b75]
        by_cases e2 : cnF n nL w (sdC c p t) ≤ s.2
        · rw [if_pos e2] at hk2
          refine n1 (fun y => absurd ((nJ_lt (by omega) (cn_nI (vC_sd hv))).mp y) (by omega)) ?_
          rw [w_X9_send_b100, nI_inc]
          exact hk2 _ back
        · rw [if_neg e2] at hk2
          refine y1 ((nJ_lt (by omega) (cn_nI (vC_sd hv))).mpr (by omega)) ?_
          rw [w_X9_send_b100, nI_inc, n10 p (by omega) t (by omega)]
          exact hk2 _ back
theorem sim_send {st mt : St} (h : R st mt) (x1 : Int32) : w_X8_send x1 st (fun r st' => w_X9_send x1 mt (fun r' mt' => r = r' ∧ R st' mt')) := by
  obtain ⟨n, nL, hm, g, hn, hL, h7, h8, k8, k9⟩ := h.ctx
  unfold w_X8_send
  refine s_range ?_
  by_cases e : rangeF x1 0 60 = 0
  · rw [e]
    obtain ⟨w, -, hw, rfl⟩ := rg_nI (a := 0) (b := 60) (by decide) (by decide) e
    refine y1 rfl (mind0 (fun s => w_X4_bestSending (nI w) s _) (fun c0 z0 => x_bestSending h.z11 z0 hm.1 (by omega) h7 fun c' zc => ?_) h.z99)
    unfold w_X9_send
    refine t_notWeeks ?_
    rw [e]
    exact y1 rfl (t_many (by omega) hm fun s hs => t_sendL (by omega) hm g (out0 h) (fun s' hs' => ⟨rfl, R_mind h zc hs'.tf⟩) s hs)
  · refine n1 e (s_refused (rg_ok e) ?_)
    unfold w_X9_send
    exact t_notWeeks (n1 e (t_no (rg_ok e) ⟨rfl, R_ref h (rg_ok e)⟩))
def swC (c : Ct) (p q : Nat) : Ct := u2 (u2 c 3 p (c 3 q)) 3 q (c 3 p)
def swS (n nL w : Nat) (c : Ct) (p q : Nat) (s : Int32 × Nat) : Int32 × Nat := if c 3 p = c 3 q then s else if cnF n nL w (swC c p q) ≤ s.2 then s else (nI (10 * p + q), cnF n nL w (swC c p q))
def swF (n nL w : Nat) (c : Ct) : Int32 × Nat := fr 0 n (fun p s => fr (p + 1) n (fun q s => swS n nL w c p q s) s) (-9, cnF n nL w c)
theorem vC_sw {n nL p q : Nat} {c : Ct} (h : vC n nL c) : vC n nL (swC c p q) := vC_u4 (vC_u4 h (by decide) (by decide)) (by decide) (by decide)
theorem swS_lt {n nL w p q : Nat} {c : Ct} {s : Int32 × Nat} (hv : vC n nL c) (h : s.2 < 7) : (swS n nL w c p q s).2 < 7 := by
  unfold swS
  split
  · exact h
  · split
    · exact h
    · exact cn_lt (vC_sw hv)
theorem x_bestSwap {st : St} {c0 : Ct} {n nL w : Nat} {K : Int32 → St → Prop} (hz : zC (cv st 11)) (h0 : zn c0) (hv : vC n nL (cv st 11)) (hw : w < 2147483648) (h7 : st 11 7 = nI n) (h : ∀ c', zn c' → K (swF n nL w (cv st 11)).1 (sv st 99 c')) : w_X4_bestSwap (nI w) (sv st 99 c0) K := by
  have hn := hv.1
  have hL := hv.2.1
  unfold w_X4_bestSwap
  refine x_openAsAllIs hz h0 hv hw fun c1 z1 => ?_
  refine lo_frD (fun m p (s : Int32 × Nat) c' => w_X4_bestSwap_L12 (nI w) K m s.1 (nI s.2) (nI p) (sv st 99 c')) (fun p s => fr (p + 1) n (fun q s => swS n nL w (cv st 11) p q s) s) (fun _ s => s.2 < 7) (fun _ c' => zn c') ((-9 : Int32), cnF n nL w (cv st 11)) c1 (Nat.zero_le n) (cn_lt hv) (fun p s _ hp hs => fr_inv (fun _ (s : Int32 × Nat) => s.2 < 7) _ (show p + 1 ≤ n by omega) hs fun t s _ _ hs => swS_lt hv hs) z1 (fun _ m d hd => ?_) (fun m p s d _ hp hs hd hk => ?_)
  · rw [w_X4_bestSwap_L12, w_X4_bestSwap_L12q]
    unfold w_X1_keeperCount
    rw [o11, h7]
    exact y1 (nI_le (Nat.le_refl n) (by omega)) (h d hd)
  · rw [w_X4_bestSwap_L12, w_X4_bestSwap_L12q]
    unfold w_X1_keeperCount
    rw [o11, h7]
    refine n1 (nI_ge hp (by omega)) ?_
    rw [nI_inc]
    refine lo_frD (fun k q (s : Int32 × Nat) c' => w_X4_bestSwap_L30 (nI w) (fun v2 v3 v4 st => w_X4_bestSwap_L12 (nI w) K m v2 v3 v4 st) K k s.1 (nI s.2) (nI p) (nI q) (sv st 99 c')) (fun q s => swS n nL w (cv st 11) p q s) (fun _ s => s.2 < 7) (fun _ c' => zn c') s d (show p + 1 ≤ n by omega) hs (fun t s _ _ hs => swS_lt hv hs) hd (fun _ k d hd => ?_) (fun k q s d h1 hq hs hd hk2 => ?_)
    · rw [w_X4_bestSwap_L30, w_X4_bestSwap_L30q]
      unfold w_X1_keeperCount
      rw [o11, h7]
      refine y1 (nI_le (Nat.le_refl n) (by omega)) ?_
      rw [w_X4_bestSwap_b143, nI_inc]
      exact hk d hd
    · rw [w_X4_bestSwap_L30, w_X4_bestSwap_L30q]
      unfold w_X1_keeperCount
      rw [o11, h7]
      refine n1 (nI_ge hq (by omega)) (x_townOf (by omega) (x_townOf (by omega) ?_))
      rw [c11]
      unfold swS at hk2
      by_cases e : cv st 11 3 p = cv st 11 3 q
      · rw [if_pos e] at hk2
        refine y1 e ?_
        rw [w_X4_bestSwap_b137, nI_inc]
        exact hk2 d hd
      · rw [if_neg e] at hk2
        refine n1 e (m_become hz hd (x_townOf (by omega) ?_))
        rw [c11]
        refine m_move (by omega) (x_townOf (by omega) ?_)
        rw [c11]
        refine m_move (by omega) ?_
        have eb : u2 (u2 (bec (cv st 11)) 3 p (cv st 11 3 q)) 3 q (cv st 11 3 p) = bec (swC (cv st 11) p q) := by
          unfold swC
          rw [bec_u2 (by decide), bec_u2 (by decide)]
        rw [eb]
        refine m_passWeeks hw (vC_sw hv) ?_
        have zz : zn (wkF n nL w (swC (cv st 11) p q)) := zn_wkF hn hL (zn_town (zn_town ⟨hz, nC_cv⟩ (by omega)) (by omega))
        show (nI (cnF n nL w (swC (cv st 11) p q)) ≤ nI s.2 → _) ∧ _
        by_cases e2 : cnF n nL w (swC (cv st 11) p q) ≤ s.2
        · rw [if_pos e2] at hk2
          refine y1 (nI_le e2 (by omega)) ?_
          rw [w_X4_bestSwap_b137, nI_inc]
          exact hk2 _ zz
        · rw [if_neg e2] at hk2
          refine n1 (fun y => e2 ((nJ_le (cn_nI (vC_sw hv)) (by omega)).mp y)) (s_twoName (by omega) (by omega) ?_)
          rw [w_X4_bestSwap_b137, nI_inc, m10 (by omega)]
          exact hk2 _ zz
theorem t_swapL {n nL w : Nat} {mt : St} {c : Ct} {K : Int32 → St → Prop} (hw : w < 2147483648) (hm : RM n nL mt c) (g : gC n nL c) (h11 : mt 0 11 = 0) (hk : ∀ s, hf mt s → K (swF n nL w c).1 s) : ∀ s0, hf mt s0 → ∃ m, w_X9_swap_L31 (nI w) K m (-9) (nI (cnF n nL w c)) 0 s0 := by
  have hv := hm.1
  have hn := hv.1
  intro s0 hs0
  refine lo_frD (fun m p (s : Int32 × Nat) d => w_X9_swap_L31 (nI w) K m s.1 (nI s.2) (nI p) d) (fun p s => fr (p + 1) n (fun q s => swS n nL w c p q s) s) (fun _ s => s.2 < 7) (fun _ d => hf mt d) ((-9 : Int32), cnF n nL w c) s0 (Nat.zero_le n) (cn_lt hv) (fun p s _ hp hs => fr_inv (fun _ (s : Int32 × Nat) => s.2 < 7) _ (show p + 1 ≤ n by omega) hs fun t s _ _ hs => swS_lt hv hs) hs0 (fun _ m d hd => ?_) (fun m p s d _ hp hs hd hk1 => ?_)
  · rw [w_X9_swap_L31, w_X9_swap_L31q, (RM_hf hm hd).2.2.1]
    exact y1 (nI_le (Nat.le_refl n) (by omega)) (hk d hd)
  · rw [w_X9_swap_L31, w_X9_swap_L31q, (RM_hf hm hd).2.2.1]
    refine n1 (nI_ge hp (by omega)) ?_
    rw [nI_inc]
    refine lo_frD (fun k q (s : Int32 × Nat) d => w_X9_swap_L46 (nI w) (fun v3 v4 v5 st => w_X9_swap_L31 (nI w) K m v3 v4 v5 st) K k s.1 (nI s.2) (nI p) (nI q) d) (fun q s => swS n nL w c p q s) (fun _ s => s.2 < 7) (fun _ d => hf mt d) s d (show p + 1 ≤ n by omega) hs (fun t s _ _ hs => swS_lt hv hs) hd (fun _ k d hd => ?_) (fun k q s d h1 hq hs hd hk2 => ?_)
    · rw [w_X9_swap_L46, w_X9_swap_L46q, (RM_hf hm hd).2.2.1]
      refine y1 (nI_le (Nat.le_refl n) (by omega)) ?_
      rw [w_X9_swap_b117, nI_inc]
      exact hk1 d hd
    · have hmd := RM_hf hm hd
      have clp : (nI p).toNatClampNeg = p := clI (show p < 6 by omega) (by decide)
      have clq : (nI q).toNatClampNeg = q := clI (show q < 6 by omega) (by decide)
      have vp : vp_in (nI p) 6 := vp_in_nI (by omega) (by decide)
      have vq : vp_in (nI q) 6 := vp_in_nI (by omega) (by decide)
      have tp := hmd.town g hp
      have tq := hmd.town g hq
      rw [w_X9_swap_L46, w_X9_swap_L46q, hmd.2.2.1, clp, clq, tp, tq]
      refine n1 (nI_ge hq (by omega)) ⟨vp, vq, ?_⟩
      unfold swS at hk2
      by_cases e : c 3 p = c 3 q
      · rw [if_pos e] at hk2
        refine y2 e ?_
        rw [w_X9_swap_b86]
        refine n1 (n9lt (by omega)) ?_
        rw [w_X9_swap_b111, nI_inc]
        exact hk2 d hd
      · rw [if_neg e] at hk2
        refine n2 e ?_
        unfold w_X9_manySwapped
        rw [clp, clq]
        refine ⟨vp, vq, vp, vq, ?_⟩
        have h11d : d 0 11 = 0 := (hd.2.2.1 11 (by decide) (by decide) (by decide) (by decide) (by decide) (by decide) (by decide)).trans h11
        obtain ⟨t1, ht1, et1⟩ := g.2.1 p hp
        obtain ⟨t2, ht2, et2⟩ := g.2.1 q hq
        have rm : RM n nL (u2 (u2 d 4 p (d 4 q)) 4 q (d 4 p)) (swC c p q) := by
          rw [tp, tq]
          exact RM_town (RM_town hmd h11d (by rw [et2]; exact tn1 t2 ht2)) (by rw [u2_off (by decide)]; exact h11d) (by rw [et1]; exact tn1 t1 ht1)
        refine t_many hw rm fun s1 hs1 => ⟨vp, vq, vp, ?_⟩
        have e1 : s1 4 p = d 4 q := by
          rw [hf_cell hs1 (by omega), u2_ne (Or.inr (by omega)), u2_same]
        have back : hf mt (u2 (u2 s1 4 q (s1 4 p)) 4 p (d 4 p)) := by
          have q1 := hf_back hs1 (by decide)
          rw [u2_ne (Or.inr (by omega))] at q1
          rw [e1]
          exact hd.tr (hf_back q1 (by decide))
        show w_X9_swap_b86 (nI w) _ _ K s.1 (nI s.2) (nI p) (nI q) (nI (cnF n nL w (swC c p q))) _
        rw [w_X9_swap_b86]
        by_cases e2 : cnF n nL w (swC c p q) ≤ s.2
        · rw [if_pos e2] at hk2
          refine n1 (fun y => absurd ((nJ_lt (by omega) (cn_nI (vC_sw hv))).mp y) (by omega)) ?_
          rw [w_X9_swap_b111, nI_inc]
          exact hk2 _ back
        · rw [if_neg e2] at hk2
          refine y1 ((nJ_lt (by omega) (cn_nI (vC_sw hv))).mpr (by omega)) ?_
          rw [w_X9_swap_b111, nI_inc, n10 p (by omega) q (by omega)]
          exact hk2 _ back
theorem sim_swap {st mt : St} (h : R st mt) (x1 : Int32) : w_X8_swap x1 st (fun r st' => w_X9_swap x1 mt (fun r' mt' => r = r' ∧ R st' mt')) := by
  obtain ⟨n, nL, hm, g, hn, hL, h7, h8, k8, k9⟩ := h.ctx
  unfold w_X8_swap
  refine s_range ?_
  by_cases e : rangeF x1 0 60 = 0
  · rw [e]
    obtain ⟨w, -, hw, rfl⟩ := rg_nI (a := 0) (b := 60) (by decide) (by decide) e
    refine y1 rfl (mind0 (fun s => w_X4_bestSwap (nI w) s _) (fun c0 z0 => x_bestSwap h.z11 z0 hm.1 (by omega) h7 fun c' zc => ?_) h.z99)
    unfold w_X9_swap
    refine t_notWeeks ?_
    rw [e]
    exact y1 rfl (t_many (by omega) hm fun s hs => t_swapL (by omega) hm g (out0 h) (fun s' hs' => ⟨rfl, R_mind h zc hs'.tf⟩) s hs)
  · refine n1 e (s_refused (rg_ok e) ?_)
    unfold w_X9_swap
    exact t_notWeeks (n1 e (t_no (rg_ok e) ⟨rfl, R_ref h (rg_ok e)⟩))
