/-! pure part: countries by lot -/
theorem nI_mul (a b : Nat) : nI a * nI b = nI (a * b) := (Int32.ofNat_mul a b).symm
theorem nI_sub' {a b : Nat} (h : b ≤ a) : nI a - nI b = nI (a - b) := by
  have e : nI a = nI (a - b) + nI b := by rw [nI_add]; congr 1; omega
  rw [e, Int32.add_sub_cancel]
theorem nI_div {k m : Nat} (hk : k < 2147483648) (hm : m < 2147483648) (h0 : 0 < m) : nI k / nI m = nI (k / m) := by
  have hq : k / m < 2147483648 := Nat.lt_of_le_of_lt (Nat.div_le_self k m) hk
  refine Int32.toInt_inj.mp ?_
  rw [Int32.toInt_div_of_ne_left _ _ (fun z => ?_), nI_toInt (show k < 2 ^ 31 from hk), nI_toInt (show m < 2 ^ 31 from hm), nI_toInt (show k / m < 2 ^ 31 from hq)]
  · rfl
  · have := nI_pos (show k < 2 ^ 31 from hk)
    rw [z] at this
    exact this (by decide)
theorem nI_mod {k m : Nat} (hk : k < 2147483648) (hm : m < 2147483648) (h0 : 0 < m) : nI k - nI k / nI m * nI m = nI (k % m) := by
  rw [nI_div hk hm h0, nI_mul, nI_sub' (Nat.div_mul_le_self k m)]
  congr 1
  have := Nat.div_add_mod k m
  rw [Nat.mul_comm] at this
  omega
theorem and_pos (z : Int32) : ¬ (z &&& 2147483647) < 0 := by
  intro h
  have h1 := Int32.lt_iff_toInt_lt.mp h
  have h2 : (z &&& 2147483647).toBitVec.msb = true := by
    rw [BitVec.msb_eq_toInt]
    exact decide_eq_true h1
  rw [Int32.toBitVec_and, BitVec.msb_and] at h2
  have : (2147483647 : Int32).toBitVec.msb = false := by decide
  rw [this, Bool.and_false] at h2
  cases h2
def drF (z : Int32) : Int32 := ((z &&& 2147483647) / 65536) - ((z &&& 2147483647) / 65536) / 60 * 60
theorem dr_in (z : Int32) : ∃ j, j < 60 ∧ drF z = nI j := by
  obtain ⟨k, hk, e⟩ := nI_of (and_pos z)
  unfold drF
  rw [e]
  have e1 : nI k / 65536 = nI (k / 65536) := nI_div (m := 65536) hk (by decide) (by decide)
  rw [e1]
  refine ⟨k / 65536 % 60, Nat.mod_lt _ (by decide), nI_mod (m := 60) (by omega) (by decide) (by decide)⟩
theorem dr_ok (z : Int32) : heldF (drF z) = drF z ∧ 0 ≤ drF z ∧ drF z ≤ 99 := by
  obtain ⟨j, hj, e⟩ := dr_in z
  rw [e]
  exact held99 j (by omega)
def nxF (z : Int32) : Int32 := z * 1103515245 + 12345
def loS (p q : Nat) (s : Int32 × Ct) : Int32 × Ct := (nxF s.1, u2 s.2 4 (hI p q) (drF (nxF s.1)))
def loF (n : Nat) (z : Int32) (c : Ct) : Int32 × Ct := fr 0 n (fun p s => fr (p + 1) n (fun q s => loS p q s) s) (z, c)
theorem lo_bec_row {n p : Nat} {z : Int32} {c : Ct} {i : Nat} (hi : p + 1 ≤ i) : fr (p + 1) i (fun q s => loS p q s) (z, bec c) = ((fr (p + 1) i (fun q s => loS p q s) (z, c)).1, bec (fr (p + 1) i (fun q s => loS p q s) (z, c)).2) := by
  obtain ⟨d, rfl⟩ := Nat.exists_eq_add_of_le hi
  clear hi
  induction d with
  | zero => rw [Nat.add_zero, fr_self, fr_self]
  | succ d ih =>
    rw [show p + 1 + (d + 1) = (p + 1 + d) + 1 by omega, fr_succ (by omega), fr_succ (by omega), ih]
    unfold loS
    rw [bec_u2 (by decide)]
theorem lo_bec {n : Nat} {z : Int32} {c : Ct} {i : Nat} (hi : i ≤ n) : fr 0 i (fun p s => fr (p + 1) n (fun q s => loS p q s) s) (z, bec c) = ((fr 0 i (fun p s => fr (p + 1) n (fun q s => loS p q s) s) (z, c)).1, bec (fr 0 i (fun p s => fr (p + 1) n (fun q s => loS p q s) s) (z, c)).2) := by
  induction i with
  | zero => rfl
  | succ i ih =>
    rw [fr_succ (Nat.zero_le i), fr_succ (Nat.zero_le i), ih (by omega), lo_bec_row (n := n) (by omega)]
theorem lo_inv {n nL : Nat} {z : Int32} {c : Ct} (hn : n ≤ 6) (hv : vC n nL c) (hz : zn c) : vC n nL (loF n z c).2 ∧ zn (loF n z c).2 := by
  refine fr_inv (fun _ (s : Int32 × Ct) => vC n nL s.2 ∧ zn s.2) _ (Nat.zero_le n) ⟨hv, hz⟩ (fun p s _ hp hs => ?_)
  refine fr_inv (fun _ (s : Int32 × Ct) => vC n nL s.2 ∧ zn s.2) _ (show p + 1 ≤ n by omega) hs (fun q s _ hq hs => ?_)
  exact ⟨vC_u4 hs.1 (by decide) (by decide), zn_hate hs.2 (by omega) (by omega)⟩
/-- one country more: the lot, how many are opened, how much is hated -/
def ltS (n nL : Nat) (c : Ct) (s : Int32 × Int32 × Int32) : Int32 × Int32 × Int32 :=
  ((loF n s.1 c).1, s.2.1 + (nI (cnF n nL 10 (loF n s.1 c).2) - nI (pc (ob c))), s.2.2 + allF n (wkF n nL 10 (loF n s.1 c).2))
def ltF (n nL a : Nat) (z : Int32) (c : Ct) : Int32 × Int32 × Int32 := fr 0 a (fun _ s => ltS n nL c s) (z, 0, 0)
theorem x_byLot {st : St} {c0 : Ct} {n nL a : Nat} {z x : Int32} {K : Int32 → St → Prop} (hz : zC (cv st 11)) (h0 : zn c0) (hv : vC n nL (cv st 11)) (h7 : st 11 7 = nI n) (ha : a < 2147483648) (h : ∀ c', zn c' → K (if x = 0 then (ltF n nL a z (cv st 11)).2.1 else (ltF n nL a z (cv st 11)).2.2) (sv st 99 c')) : w_X4_byLot (nI a) z x (sv st 99 c0) K := by
  have hn := hv.1
  have hL := hv.2.1
  have zz : zn (cv st 11) := ⟨hz, nC_cv⟩
  unfold w_X4_byLot
  refine lo_frD (fun m i (s : Int32 × Int32 × Int32) c' => w_X4_byLot_L12 (nI a) z x K m s.1 s.2.1 s.2.2 (nI i) (sv st 99 c')) (fun _ s => ltS n nL (cv st 11) s) (fun _ _ => True) (fun _ c' => zn c') (z, (0 : Int32), (0 : Int32)) c0 (Nat.zero_le a) trivial (fun _ _ _ _ _ => trivial) h0 (fun _ m d hd => ?_) (fun m i s d _ hi _ hd hk => ?_)
  · rw [w_X4_byLot_L12, w_X4_byLot_L12q]
    refine y1 (nI_le (Nat.le_refl a) ha) ?_
    rw [w_X4_byLot_b147]
    have := h d hd
    by_cases e : x = 0
    · rw [if_pos e] at this; exact y2 e this
    · rw [if_neg e] at this; exact n2 e this
  · rw [w_X4_byLot_L12, w_X4_byLot_L12q]
    refine n1 (nI_ge hi ha) (m_become hz hd ?_)
    refine lo_fr (fun k p (y : Int32 × Ct) => w_X4_byLot_L32 (nI a) z x (fun v4 v5 v6 v7 st => w_X4_byLot_L12 (nI a) z x K m v4 v5 v6 v7 st) K k y.1 s.2.1 s.2.2 (nI i) (nI p) (sv st 99 y.2)) (fun p y => fr (p + 1) n (fun q y => loS p q y) y) (fun _ _ => True) (s.1, bec (cv st 11)) (Nat.zero_le n) trivial (fun _ _ _ _ _ => trivial) (fun _ k => ?_) (fun k p y _ hp _ hk2 => ?_)
    · rw [w_X4_byLot_L32, w_X4_byLot_L32q]
      unfold w_X1_keeperCount
      rw [o11, h7]
      refine y1 (nI_le (Nat.le_refl n) (by omega)) ?_
      rw [w_X4_byLot_b107, lo_bec (Nat.le_refl n)]
      have li := lo_inv (z := s.1) hn hv zz
      show w_X1_passWeeks 99 10 (sv st 99 (bec (loF n s.1 (cv st 11)).2)) _
      refine m_passWeeks (w := 10) (by decide) li.1 ?_
      have zw : zn (wkF n nL 10 (loF n s.1 (cv st 11)).2) := zn_wkF hn hL li.2
      refine x_openCount (n := n) (nL := nL) (by rw [c11]; exact hv) ?_
      rw [c11]
      refine m_allHate (vC_wkF li.1) zw.2 ?_
      rw [nI_inc]
      exact hk _ zw
    · rw [w_X4_byLot_L32, w_X4_byLot_L32q]
      unfold w_X1_keeperCount
      rw [o11, h7]
      refine n1 (nI_ge hp (by omega)) ?_
      rw [nI_inc]
      refine lo_fr (fun j q (y : Int32 × Ct) => w_X4_byLot_L50 (nI a) z x (fun v4 v5 v6 v7 st => w_X4_byLot_L12 (nI a) z x K m v4 v5 v6 v7 st) (fun v4 v5 v6 v7 v8 st => w_X4_byLot_L32 (nI a) z x (fun v4 v5 v6 v7 st => w_X4_byLot_L12 (nI a) z x K m v4 v5 v6 v7 st) K k v4 v5 v6 v7 v8 st) K j y.1 s.2.1 s.2.2 (nI i) (nI p) (nI q) (sv st 99 y.2)) (fun q y => loS p q y) (fun _ _ => True) y (show p + 1 ≤ n by omega) trivial (fun _ _ _ _ _ => trivial) (fun _ j => ?_) (fun j q y h1 hq _ hk3 => ?_)
      · rw [w_X4_byLot_L50, w_X4_byLot_L50q]
        unfold w_X1_keeperCount
        rw [o11, h7]
        refine y1 (nI_le (Nat.le_refl n) (by omega)) ?_
        rw [w_X4_byLot_b101, nI_inc]
        exact hk2
      · rw [w_X4_byLot_L50, w_X4_byLot_L50q]
        unfold w_X1_keeperCount
        rw [o11, h7]
        refine n1 (nI_ge hq (by omega)) (s_setHate (by omega) (by omega) ?_)
        have e := (dr_ok (nxF y.1)).1
        unfold drF nxF at e
        rw [e, nI_inc]
        exact hk3
theorem th_u30 {mt s : St} {v : Int32} (h : th mt s) : th (u2 mt 0 30 v) (u2 s 0 30 v) :=
  ⟨fun i hi => by rw [u2_off (by decide), lv_u2 (Or.inr ⟨rfl, by decide, by decide, by decide⟩) i hi]; exact h.1 i hi, fun j p q r t => by rw [u2_off p, u2_off p]; exact h.2.1 j p q r t, fun a p q r t u w x => by
    by_cases e : a = 30
    · subst e; rw [u2_same, u2_same]
    · rw [u2_0 e, u2_0 e]; exact h.2.2.1 a p q r t u w x, fun a p => by rw [u2_off (by decide), u2_off (by decide)]; exact h.2.2.2 a p⟩
theorem th_sets {mt s : St} {p q : Nat} {v : Int32} (h : th mt s) : th mt (setsF s p q v) := h.wf wf_sets
theorem tf_u30 {mt : St} {v : Int32} : tf mt (u2 mt 0 30 v) :=
  ⟨lv_u2 (Or.inr ⟨rfl, by decide, by decide, by decide⟩), u2_0 (by decide), u2_off (by decide), u2_off (by decide), u2_off (by decide), u2_0 (by decide), u2_0 (by decide), u2_0 (by decide), u2_0 (by decide), fun a _ => by rw [u2_off (by decide)]⟩
theorem RM_30 {n nL : Nat} {mt : St} {c : Ct} {v : Int32} (h : RM n nL mt c) : RM n nL (u2 mt 0 30 v) c := RM_off h (fun j a b => u2_off (by omega)) (fun i a b => u2_0 (by omega))
theorem hf_30 {mt s : St} {v : Int32} (h : hf (u2 mt 0 30 v) s) : s 0 30 = v := (h.2.2.1 30 (by decide) (by decide) (by decide) (by decide) (by decide) (by decide) (by decide)).trans u2_same
theorem t_lotsL {n nL a : Nat} {z x : Int32} {mt : St} {c : Ct} {K : Int32 → St → Prop} (hm : RM n nL mt c) (ha : a < 2147483648) (hk : ∀ s, tf mt s → K (if x = 0 then (ltF n nL a z c).2.1 else (ltF n nL a z c).2.2) s) : ∃ m, w_X9_lots_L59 (nI a) z x K m 0 (nI (pc (ob c))) 0 (u2 mt 0 30 z) := by
  have hv := hm.1
  have hn := hv.1
  suffices hh : ∃ m, w_X9_lots_L59 (nI a) z x K m (if x = 0 then (0 : Int32) else 0) (nI (pc (ob c))) (nI 0) (u2 mt 0 30 z) by
    have e0 : (if x = 0 then (0 : Int32) else 0) = 0 := by split <;> rfl
    rw [e0] at hh
    exact hh
  refine lo_rel (fun m i (y : (Int32 × Int32 × Int32) × St) => w_X9_lots_L59 (nI a) z x K m (if x = 0 then y.1.2.1 else y.1.2.2) (nI (pc (ob c))) (nI i) y.2) (fun i y => y.1 = ltF n nL i z c ∧ hf (u2 mt 0 30 y.1.1) y.2) ((z, (0 : Int32), (0 : Int32)), u2 mt 0 30 z) (Nat.zero_le a) ⟨rfl, hf_rf⟩ (fun y hI m => ?_) (fun m i y _ hi hI hk2 => ?_)
  · obtain ⟨i1, i2⟩ := hI
    rw [w_X9_lots_L59, w_X9_lots_L59q]
    refine y1 (nI_le (Nat.le_refl a) ha) ?_
    rw [i1]
    exact hk _ (tf_u30.tr i2.tf)
  · obtain ⟨i1, i2⟩ := hI
    rw [w_X9_lots_L59, w_X9_lots_L59q]
    have es : ltF n nL (i + 1) z c = ltS n nL c y.1 := by
      unfold ltF
      rw [fr_succ (Nat.zero_le i)]
      rw [i1]
      rfl
    refine n1 (nI_ge hi ha) (t_think (RM_hf (RM_30 hm) i2) fun s1 e1 e2 => ?_)
    have t0 : th (u2 mt 0 30 y.1.1) s1 := ⟨fun j hj => (e2.1 j hj).trans (i2.1 j hj), fun j p q r t => (e2.2.1 j p q r t).trans (i2.2.1 j p q r t), fun j p q r t u v w => (e2.2.2.1 j p q r t u v w).trans (i2.2.2.1 j p q r t u v w), fun j p => (e2.2.2.2 j p).trans (i2.2.2.2 j p)⟩
    have li := fun (zn0 : zn c) => lo_inv (z := y.1.1) hn hv zn0
    -- the lot's hates, set
    refine lo_rel (fun k p (w : (Int32 × Ct) × St) => w_X9_lots_L72 (nI a) z x (fun v5 v6 v7 st => w_X9_lots_L59 (nI a) z x K m v5 v6 v7 st) K k (if x = 0 then y.1.2.1 else y.1.2.2) (nI (pc (ob c))) (nI i) (nI p) w.2) (fun p w => w.1 = fr 0 p (fun p y => fr (p + 1) n (fun q y => loS p q y) y) (y.1.1, bec c) ∧ RM n nL w.2 w.1.2 ∧ th (u2 mt 0 30 w.1.1) w.2) ((y.1.1, bec c), s1) (Nat.zero_le n) ⟨rfl, e1, t0⟩ (fun w hJ k => ?_) (fun k p w _ hp hJ hk3 => ?_)
    · obtain ⟨j1, j2, j3⟩ := hJ
      rw [w_X9_lots_L72, w_X9_lots_L72q, j2.2.2.1]
      refine y1 (nI_le (Nat.le_refl n) (by omega)) ?_
      rw [w_X9_lots_b122]
      have ew : w.1 = ((loF n y.1.1 c).1, bec (loF n y.1.1 c).2) := j1.trans (lo_bec (Nat.le_refl n))
      have w1 : w.1.1 = (loF n y.1.1 c).1 := by rw [ew]
      have w2 : w.1.2 = bec (loF n y.1.1 c).2 := by rw [ew]
      rw [w2] at j2
      refine t_goesOn (w := 10) (by decide) j2 fun s2 e3 e4 => ?_
      have e3' : RM n nL s2 (wkF n nL 10 (loF n y.1.1 c).2) := e3
      have fin : ∀ v s3, (if x = 0 then y.1.2.1 else y.1.2.2) + v = (if x = 0 then (ltS n nL c y.1).2.1 else (ltS n nL c y.1).2.2) → th (u2 mt 0 30 w.1.1) s3 → w_X9_lots_b151 (nI a) z x (fun v5 v6 v7 st => w_X9_lots_L59 (nI a) z x K m v5 v6 v7 st) K (nI (pc (ob c))) (nI i) v (if x = 0 then y.1.2.1 else y.1.2.2) s3 := fun v s3 ev ht => by
        rw [w_X9_lots_b151]
        refine t_forget ht fun s4 hh _ _ => ?_
        rw [ev, nI_inc]
        refine hk2 (ltS n nL c y.1, s4) ⟨es.symm, ?_⟩
        show hf (u2 mt 0 30 (loF n y.1.1 c).1) s4
        rw [← w1]
        exact hh
      by_cases ex : x = 0
      · refine y2 ex (t_openOnes e3' (t_bits (by have := p64 e3'.1.2.1 e3'.1.2.2.2.2.2.2; omega) (fin _ _ ?_ (j3.wf e4))))
        rw [if_pos ex, if_pos ex]
        rfl
      · refine n2 ex (t_allHate e3' (fin _ _ ?_ (j3.wf e4)))
        rw [if_neg ex, if_neg ex]
        rfl
    · obtain ⟨j1, j2, j3⟩ := hJ
      rw [w_X9_lots_L72, w_X9_lots_L72q, j2.2.2.1]
      refine n1 (nI_ge hp (by omega)) ?_
      rw [nI_inc]
      refine lo_rel (fun j q (u : (Int32 × Ct) × St) => w_X9_lots_L87 (nI a) z x (fun v5 v6 v7 st => w_X9_lots_L59 (nI a) z x K m v5 v6 v7 st) (fun v5 v6 v7 v8 st => w_X9_lots_L72 (nI a) z x (fun v5 v6 v7 st => w_X9_lots_L59 (nI a) z x K m v5 v6 v7 st) K k v5 v6 v7 v8 st) K j (if x = 0 then y.1.2.1 else y.1.2.2) (nI (pc (ob c))) (nI i) (nI p) (nI q) u.2) (fun q u => u.1 = fr (p + 1) q (fun q y => loS p q y) w.1 ∧ RM n nL u.2 u.1.2 ∧ th (u2 mt 0 30 u.1.1) u.2) w (show p + 1 ≤ n by omega) ⟨(fr_self _ _ _).symm, j2, j3⟩ (fun u hU j => ?_) (fun j q u h1 hq hU hk4 => ?_)
      · obtain ⟨u1, u2', u3⟩ := hU
        rw [w_X9_lots_L87, w_X9_lots_L87q, u2'.2.2.1]
        refine y1 (nI_le (Nat.le_refl n) (by omega)) ?_
        rw [w_X9_lots_b116, nI_inc]
        refine hk3 u ⟨?_, u2', u3⟩
        rw [fr_succ (Nat.zero_le p), ← j1, u1]
      · obtain ⟨u1, u2', u3⟩ := hU
        rw [w_X9_lots_L87, w_X9_lots_L87q, u2'.2.2.1]
        refine n1 (nI_ge hq (by omega)) ?_
        unfold w_X9_draw
        refine ⟨by decide, ?_⟩
        have z30 : u.2 0 30 = u.1.1 := (u3.2.2.1 30 (by decide) (by decide) (by decide) (by decide) (by decide) (by decide) (by decide)).trans u2_same
        rw [z30, u2_same]
        have dk := dr_ok (nxF u.1.1)
        refine t_sets (by omega) (by omega) ?_
        rw [nI_inc]
        refine hk4 (loS p q u.1, setsF (u2 u.2 0 30 (nxF u.1.1)) p q (drF (nxF u.1.1))) ⟨by rw [fr_succ (by omega), u1], ?_, ?_⟩
        · show RM n nL _ (u2 u.1.2 4 (hI p q) (drF (nxF u.1.1)))
          exact RM_sets (RM_30 u2') (by omega) hq (by omega) dk.2.1 dk.2.2
        · show th (u2 mt 0 30 (nxF u.1.1)) _
          have := th_u30 (v := nxF u.1.1) u3
          rw [u2_u2] at this
          exact th_sets this
theorem sim_lots {st mt : St} (h : R st mt) (x1 x2 x3 : Int32) : w_X8_lots x1 x2 x3 st (fun r st' => w_X9_lots x1 x2 x3 mt (fun r' mt' => r = r' ∧ R st' mt')) := by
  obtain ⟨n, nL, hm, g, hn, hL, h7, h8, k8, k9⟩ := h.ctx
  unfold w_X8_lots
  refine s_range (s_choice (s_firstOf ?_))
  by_cases e1 : rangeF x1 1 20 = 0
  · rw [e1]
    obtain ⟨a, -, ha, rfl⟩ := rg_nI (a := 1) (b := 20) (by decide) (by decide) e1
    by_cases e2 : inF x3 0 1 = 0
    · rw [ch_out e2, f0, if_neg (by decide)]
      refine n1 (by decide) (s_refused rO2 ?_)
      unfold w_X9_lots
      refine t_bound ?_
      rw [e1]
      refine y2 rfl (t_isIn' (y2 e2 ?_))
      rw [w_X9_lots_b27]
      exact n1 (by decide) (t_no rO2 ⟨rfl, R_ref h rO2⟩)
    · rw [ch_in e2, f0, if_pos rfl]
      refine y1 rfl (mind0 (fun s => w_X4_byLot (nI a) x2 x3 s _) (fun c0 z0 => x_byLot h.z11 z0 hm.1 h7 (by omega) fun c' zc => ?_) h.z99)
      unfold w_X9_lots
      refine t_bound ?_
      rw [e1]
      refine y2 rfl (t_isIn' (n2 e2 ?_))
      rw [w_X9_lots_b27]
      refine y1 rfl (t_openOnes (RM_30 hm) (t_bits (by have := p64 hL hm.1.2.2.2.2.2.2; omega) (t_lotsL hm (by omega) fun s hs => ⟨rfl, R_mind h zc hs⟩)))
  · rw [f1 e1]
    refine n1 e1 (s_refused (rg_ok e1) ?_)
    unfold w_X9_lots
    refine t_bound (n2 e1 ?_)
    rw [w_X9_lots_b27]
    exact n1 e1 (t_no (rg_ok e1) ⟨rfl, R_ref h (rg_ok e1)⟩)
