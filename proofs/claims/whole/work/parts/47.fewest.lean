/-! pure part: fewest -/
def kpS (b k : Nat) (c : Ct) : Ct := if b.testBit k then c else u2 c 3 k (-1)
def kpF (n : Nat) (c : Ct) (b : Nat) : Ct := fr 0 n (kpS b) c
theorem kp_off {n b j : Nat} {c : Ct} (hj : j ≠ 3) : kpF n c b j = c j := fr_comp (fun k c => by unfold kpS; split; rfl; exact u2_off hj) (Nat.zero_le n)
theorem kp_3 {n b p : Nat} {c : Ct} (hp : p < n) : kpF n c b 3 p = if b.testBit p then c 3 p else -1 := by
  have key := fr_inv (fun i (x : Ct) => ∀ p, x 3 p = if p < i ∧ b.testBit p = false then -1 else c 3 p) (kpS b) (Nat.zero_le n) (s0 := c) (fun p => by rw [if_neg (fun z => absurd z.1 (Nat.not_lt_zero p))]) (fun i x _ _ hx p => by
    unfold kpS
    cases e : b.testBit i with
    | true =>
      rw [if_pos rfl, hx p]
      by_cases z : p < i ∧ b.testBit p = false
      · rw [if_pos z, if_pos ⟨by omega, z.2⟩]
      · rw [if_neg z, if_neg]
        intro y
        by_cases ep : p = i
        · subst ep; rw [e] at y; cases y.2
        · exact z ⟨by omega, y.2⟩
    | false =>
      rw [if_neg (by decide), u2_if]
      by_cases ep : p = i
      · subst ep
        rw [if_pos ⟨rfl, rfl⟩, if_pos ⟨by omega, e⟩]
      · rw [if_neg (fun z => ep z.2), hx p]
        by_cases z : p < i ∧ b.testBit p = false
        · rw [if_pos z, if_pos ⟨by omega, z.2⟩]
        · rw [if_neg z, if_neg]
          intro y
          exact z ⟨by omega, y.2⟩)
  have := key p
  unfold kpF
  rw [this]
  cases e : b.testBit p with
  | true => rw [if_neg (by simp), if_pos rfl]
  | false => rw [if_pos ⟨hp, rfl⟩, if_neg (by decide)]
theorem kp_bec {n b : Nat} {c : Ct} : fr 0 n (kpS b) (bec c) = bec (kpF n c b) := by
  induction n with
  | zero => rfl
  | succ n ih =>
    unfold kpF at ih ⊢
    rw [fr_succ (Nat.zero_le n), fr_succ (Nat.zero_le n), ih]
    unfold kpS
    split
    · rfl
    · rw [bec_u2 (by decide)]
theorem vC_kp {n nL b m : Nat} {c : Ct} (h : vC n nL c) : vC n nL (kpF m c b) := by
  obtain ⟨h1, h2, h3, h4, h5, h6, h7⟩ := h
  exact vC_of h1 h2 (by rw [kp_off (by decide)]; exact h3) (by rw [kp_off (by decide)]; exact h4) (fun l hl => by rw [kp_off (by decide)]; exact h5 l hl) ⟨ob c, h7, by rw [kp_off (by decide)]; exact h6⟩
theorem ob_kp {n b : Nat} {c : Ct} : ob (kpF n c b) = ob c := by unfold ob; rw [kp_off (by decide)]
theorem zn_kp {n b : Nat} {c : Ct} (hn : n ≤ 6) (h : zn c) : zn (kpF n c b) := fr_inv (fun _ c => zn c) _ (Nat.zero_le n) h fun k c _ hk hc => by
  unfold kpS
  split
  · exact hc
  · exact zn_town hc (by omega)
def kN (n nL w : Nat) (c : Ct) (b : Nat) : Nat := cnF n nL w (kpF n c b)
theorem kN_lt {n nL w b : Nat} {c : Ct} (h : vC n nL c) : kN n nL w c b < 7 := cn_lt (vC_kp h)
theorem x_openKept {st : St} {c0 : Ct} {n nL w b : Nat} {K : Int32 → St → Prop} (hz : zC (cv st 11)) (h0 : zn c0) (hv : vC n nL (cv st 11)) (h7 : st 11 7 = nI n) (hw : w < 2147483648) (hb : b < 64) (h : ∀ c', zn c' → K (nI (kN n nL w (cv st 11) b)) (sv st 99 c')) : w_X4_openKept (nI b) (nI w) (sv st 99 c0) K := by
  have hn := hv.1
  unfold w_X4_openKept
  refine m_become hz h0 ?_
  refine lo_fr (fun m k (c : Ct) => w_X4_openKept_L13 (nI b) (nI w) K m (nI k) (sv st 99 c)) (kpS b) (fun _ _ => True) (bec (cv st 11)) (Nat.zero_le n) trivial (fun _ _ _ _ _ => trivial) (fun _ m => ?_) (fun m k c _ hk _ hK => ?_)
  · rw [w_X4_openKept_L13, w_X4_openKept_L13q]
    unfold w_X1_keeperCount
    rw [o11, h7]
    refine y1 (nI_le (Nat.le_refl n) (by omega)) ?_
    rw [w_X4_openKept_b47, kp_bec]
    exact m_passWeeks hw (vC_kp hv) (h _ (zn_wkF hn hv.2.1 (zn_kp hn ⟨hz, nC_cv⟩)))
  · rw [w_X4_openKept_L13, w_X4_openKept_L13q]
    unfold w_X1_keeperCount
    rw [o11, h7]
    refine n1 (nI_ge hk (by omega)) (s_bitN (by omega) (by omega) ?_)
    unfold kpS at hK
    cases e : b.testBit k with
    | true =>
      rw [e, if_pos rfl] at hK
      rw [if_pos rfl]
      refine n2 (by decide) ?_
      rw [w_X4_openKept_b41, nI_inc]
      exact hK
    | false =>
      rw [e, if_neg (by decide)] at hK
      rw [if_neg (by decide)]
      refine y2 rfl (m_move (by omega) ?_)
      rw [w_X4_openKept_b41, nI_inc]
      exact hK
def fwG (A due : Nat) (N : Nat → Nat) (s : Nat) : Prop := s = A ∨ due ≤ N s
def fwB (b s : Nat) : Prop := pc b < pc s ∨ (pc b = pc s ∧ b ≤ s)
/-- the fewest to be kept -/
def ChW (A due : Nat) (N : Nat → Nat) (b : Nat) : Prop := b ≤ A ∧ fwG A due N b ∧ ∀ s, s ≤ A → fwG A due N s → fwB b s
theorem ChW_1 {A due : Nat} {N : Nat → Nat} {b b' : Nat} (h : ChW A due N b) (h' : ChW A due N b') : b = b' := by
  have h1 := h.2.2 b' h'.1 h'.2.1
  have h2 := h'.2.2 b h.1 h.2.1
  unfold fwB at h1 h2
  omega
theorem pcA : ∀ n, n < 7 → ∀ i, i < 64 → i < 2 ^ n - 1 → pc i < pc (2 ^ n - 1) := by decide +kernel
theorem shA : ∀ n, n < 7 → ((1 : Int32) <<< (nI n &&& 31)) - 1 = nI (2 ^ n - 1) := by decide +kernel
theorem A64 : ∀ n, n < 7 → 2 ^ n - 1 < 64 := by decide
theorem x_fewestKept {st : St} {c0 : Ct} {n nL w : Nat} {K : Int32 → St → Prop} (hz : zC (cv st 11)) (h0 : zn c0) (hv : vC n nL (cv st 11)) (h7 : st 11 7 = nI n) (hw : w < 2147483648) (h : ∀ b c', ChW (2 ^ n - 1) (cnF n nL w (cv st 11)) (kN n nL w (cv st 11)) b → zn c' → K (nI b) (sv st 99 c')) : w_X4_fewestKept (nI w) (sv st 99 c0) K := by
  have hn := hv.1
  have hA := A64 n (by omega)
  unfold w_X4_fewestKept w_X1_keeperCount
  rw [o11, h7]
  show w_X4_openAsAllIs (nI w) (sv st 99 c0) (fun r14 st14 => ∃ m, w_X4_fewestKept_L24 (nI w) K m (((1 : Int32) <<< (nI n &&& 31)) - 1) r14 (((1 : Int32) <<< (nI n &&& 31)) - 1) 0 st14)
  rw [shA n (by omega)]
  refine x_openAsAllIs hz h0 hv hw fun c1 z1 => ?_
  have dl := cn_lt (w := w) hv
  show ∃ m, w_X4_fewestKept_L24 (nI w) K m (nI (2 ^ n - 1)) (nI (cnF n nL w (cv st 11))) (nI (2 ^ n - 1)) (nI 0) (sv st 99 c1)
  refine lo_rel (fun m i (z : Nat × Ct) => w_X4_fewestKept_L24 (nI w) K m (nI (2 ^ n - 1)) (nI (cnF n nL w (cv st 11))) (nI z.1) (nI i) (sv st 99 z.2)) (fun i z => (z.1 < i ∨ z.1 = 2 ^ n - 1) ∧ z.1 ≤ 2 ^ n - 1 ∧ fwG (2 ^ n - 1) (cnF n nL w (cv st 11)) (kN n nL w (cv st 11)) z.1 ∧ (∀ s, s < i → fwG (2 ^ n - 1) (cnF n nL w (cv st 11)) (kN n nL w (cv st 11)) s → fwB z.1 s) ∧ zn z.2) (2 ^ n - 1, c1) (Nat.zero_le (2 ^ n - 1)) ⟨Or.inr rfl, Nat.le_refl _, Or.inl rfl, fun s hs => absurd hs (Nat.not_lt_zero s), z1⟩ (fun z hI m => ?_) (fun m i z _ hi hI hk => ?_)
  · obtain ⟨i1, i2, i3, i4, i5⟩ := hI
    rw [w_X4_fewestKept_L24, w_X4_fewestKept_L24q]
    refine y1 (nI_le (Nat.le_refl _) (by omega)) (h z.1 z.2 ⟨i2, i3, fun s hs hg => ?_⟩ i5)
    by_cases e : s < 2 ^ n - 1
    · exact i4 s e hg
    · have es : s = 2 ^ n - 1 := by omega
      subst es
      by_cases ez : z.1 = 2 ^ n - 1
      · exact Or.inr ⟨by rw [ez], i2⟩
      · exact Or.inl (pcA n (by omega) z.1 (by omega) (by omega))
  · obtain ⟨i1, i2, i3, i4, i5⟩ := hI
    have pi := pc_lt i (by omega)
    have pz := pc_lt z.1 (by omega)
    rw [w_X4_fewestKept_L24, w_X4_fewestKept_L24q]
    refine n1 (nI_ge hi (by omega)) (s_bitCount (by omega) (s_bitCount (by omega) ?_))
    have keep : ∀ c', zn c' → (fwG (2 ^ n - 1) (cnF n nL w (cv st 11)) (kN n nL w (cv st 11)) i → fwB z.1 i) → w_X4_fewestKept_b70 (nI w) (fun v2 v3 v4 v5 st => w_X4_fewestKept_L24 (nI w) K m v2 v3 v4 v5 st) K (nI (2 ^ n - 1)) (nI (cnF n nL w (cv st 11))) (nI z.1) (nI i) (sv st 99 c') := fun c' zc hb => by
      rw [w_X4_fewestKept_b70, nI_inc]
      refine hk (z.1, c') ⟨by have : z.1 < i + 1 ∨ z.1 = 2 ^ n - 1 := by omega
                              exact this, i2, i3, fun s hs hg => ?_, zc⟩
      by_cases e : s = i
      · subst e; exact hb hg
      · exact i4 s (by omega) hg
    by_cases e1 : pc z.1 ≤ pc i
    · refine y1 (nI_le e1 (by omega)) ?_
      rw [w_X4_fewestKept_b48]
      refine y1 rfl (keep z.2 i5 fun _ => ?_)
      by_cases e2 : pc z.1 = pc i
      · refine Or.inr ⟨e2, ?_⟩
        rcases i1 with i1 | i1
        · omega
        · have := pcA n (by omega) i (by omega) hi
          rw [i1] at e2
          omega
      · exact Or.inl (by omega)
    · refine n1 (fun y => e1 ((nJ_le (by omega) (by omega)).mp y)) ?_
      rw [w_X4_fewestKept_b48]
      refine n1 (by decide) (x_openKept hz i5 hv h7 hw (by omega) fun c' zc => ?_)
      have kl := kN_lt (w := w) (b := i) hv
      by_cases e2 : kN n nL w (cv st 11) i < cnF n nL w (cv st 11)
      · refine y1 ((nJ_lt (by omega) (by omega)).mpr e2) (keep c' zc fun hg => ?_)
        rcases hg with hg | hg
        · omega
        · omega
      · refine n1 (fun y => e2 ((nJ_lt (by omega) (by omega)).mp y)) ?_
        rw [w_X4_fewestKept_b70, nI_inc]
        refine hk (i, c') ⟨Or.inl (show i < i + 1 by omega), by show i ≤ _; omega, Or.inr (by show _ ≤ kN n nL w (cv st 11) i; omega), fun s hs hg => ?_, zc⟩
        by_cases e : s = i
        · subst e; exact Or.inr ⟨rfl, Nat.le_refl _⟩
        · have := i4 s (by omega) hg
          unfold fwB at this ⊢
          show pc i < pc s ∨ _
          omega
theorem has_not : ∀ b, b < 64 → ∀ p, p < 6 → ((((nI b ^^^ (-1)) >>> (nI p &&& 31)) &&& 1) = 1 ↔ b.testBit p = false) := by decide +kernel
theorem RM_kept {n nL b : Nat} {mt : St} {c : Ct} (h : RM n nL mt c) (h0 : mt 0 11 = 0) (hb : b < 64) : RM n nL (u2 mt 0 11 (nI b ^^^ (-1))) (kpF n c b) := by
  obtain ⟨g1, g2, g3, g4, g5, g6, g7, g8⟩ := h
  have hn := g1.1
  refine ⟨vC_kp g1, fun p q a b => by rw [kp_off (by decide)]; exact g2 p q a b, by rw [u2_0 (by decide)]; exact g3, by rw [u2_0 (by decide)]; exact g4, by rw [u2_0 (by decide), kp_off (by decide)]; exact g5, fun k hk => ?_, fun p q a b => ?_, fun l hl => ?_⟩
  · obtain ⟨a1, a2, a3, a4⟩ := g6 k hk
    have t0 : c 3 k ≠ -1 := fun z => has0 k (by have := a3.mpr z; rw [h0] at this; exact this)
    rw [u2_off (show (2 : Nat) ≠ 0 by decide), u2_off (show (3 : Nat) ≠ 0 by decide), u2_off (show (4 : Nat) ≠ 0 by decide), u2_same, kp_off (show (1 : Nat) ≠ 3 by decide), kp_off (show (2 : Nat) ≠ 3 by decide), kp_3 hk]
    refine ⟨a1, a2, ?_, ?_⟩
    · unfold hasB
      rw [has_not b hb k (by omega)]
      cases e : b.testBit k with
      | true => rw [if_pos rfl]; exact ⟨fun z => (by cases z), fun z => absurd z t0⟩
      | false => rw [if_neg (by decide)]; exact ⟨fun _ => rfl, fun _ => rfl⟩
    · cases e : b.testBit k with
      | true => rw [if_pos rfl]; exact a4
      | false => rw [if_neg (by decide)]; exact fun z => absurd rfl z
  · rw [u2_off (by decide), kp_off (by decide)]; exact g7 p q a b
  · rw [u2_off (by decide), u2_off (by decide), u2_off (by decide), kp_off (by decide), kp_off (by decide), ob_kp]; exact g8 l hl
theorem hf_out {mt s : St} {x : Int32} (h : hf (u2 mt 0 11 x) s) (h0 : mt 0 11 = 0) : hf mt (u2 s 0 11 0) := by
  refine ⟨fun a ha => ?_, fun k p q r t => ?_, fun a p q r t u w y => ?_, fun a p => ?_⟩
  · rw [lv_u2 (Or.inr ⟨rfl, by decide, by decide, by decide⟩) a ha, h.1 a ha, lv_u2 (Or.inr ⟨rfl, by decide, by decide, by decide⟩) a ha]
  · rw [u2_off p, h.2.1 k p q r t, u2_off p]
  · by_cases e : a = 11
    · subst e; rw [u2_same, h0]
    · rw [u2_0 e, h.2.2.1 a p q r t u w y, u2_0 e]
  · rw [u2_off (by decide), h.2.2.2 a p, u2_off (by decide)]
theorem t_manyBy {n nL w b : Nat} {mt : St} {c : Ct} {K : Int32 → St → Prop} (hw : w < 2147483648) (hm : RM n nL mt c) (h0 : mt 0 11 = 0) (hb : b < 64) (hk : ∀ s, hf mt s → K (nI (kN n nL w c b)) s) : w_X9_manyBy (nI b) (nI w) mt K := by
  unfold w_X9_manyBy
  exact t_many hw (RM_kept hm h0 hb) fun s hs => hk _ (hf_out hs h0)
def dnF (A i : Nat) : Int32 := if i ≤ A then nI (A - i) else -1
theorem dn_s : ∀ A, A < 64 → ∀ i, i < 64 → i ≤ A → dnF A i + (-1) = dnF A (i + 1) := by decide +kernel
theorem t_fewestL {n nL w : Nat} {x : Int32} {mt : St} {c : Ct} {K : Int32 → St → Prop} (hw : w < 2147483648) (hm : RM n nL mt c) (h0 : mt 0 11 = 0) (hk : ∀ b s, ChW (2 ^ n - 1) (cnF n nL w c) (kN n nL w c) b → hf mt s → w_X9_fewest_b95 (nI w) x K (nI b) s) : ∀ s0, hf mt s0 → ∃ m, w_X9_fewest_L55 (nI w) x K m (nI (cnF n nL w c)) (nI (2 ^ n - 1)) (nI (2 ^ n - 1)) s0 := by
  have hv := hm.1
  have hn := hv.1
  have hA := A64 n (by omega)
  have dl := cn_lt (w := w) hv
  intro s0 hs0
  refine lo_rel (fun m i (z : Nat × St) => w_X9_fewest_L55 (nI w) x K m (nI (cnF n nL w c)) (nI z.1) (dnF (2 ^ n - 1) i) z.2) (fun i z => (2 ^ n - 1 < z.1 + i ∨ z.1 = 2 ^ n - 1) ∧ z.1 ≤ 2 ^ n - 1 ∧ fwG (2 ^ n - 1) (cnF n nL w c) (kN n nL w c) z.1 ∧ (∀ s, s ≤ 2 ^ n - 1 → 2 ^ n - 1 < s + i → fwG (2 ^ n - 1) (cnF n nL w c) (kN n nL w c) s → fwB z.1 s) ∧ hf mt z.2) (2 ^ n - 1, s0) (Nat.zero_le (2 ^ n - 1 + 1)) ⟨Or.inr rfl, Nat.le_refl _, Or.inl rfl, fun s hs h1 => by omega, hs0⟩ (fun z hI m => ?_) (fun m i z _ hi hI hk2 => ?_)
  · obtain ⟨i1, i2, i3, i4, i5⟩ := hI
    rw [w_X9_fewest_L55, w_X9_fewest_L55q]
    refine y1 (by unfold dnF; rw [if_neg (by omega)]; decide) (hk z.1 z.2 ⟨i2, i3, fun s hs hg => i4 s hs (by omega) hg⟩ i5)
  · obtain ⟨i1, i2, i3, i4, i5⟩ := hI
    have ed : dnF (2 ^ n - 1) i = nI (2 ^ n - 1 - i) := if_pos (by omega)
    have es := dn_s (2 ^ n - 1) hA i (by omega) (by omega)
    rw [ed] at es
    have pi := pc_lt (2 ^ n - 1 - i) (by omega)
    have pz := pc_lt z.1 (by omega)
    rw [w_X9_fewest_L55, w_X9_fewest_L55q, ed]
    refine n1 (n_lt0 (by omega)) (t_bits (by omega) (t_bits (by omega) ?_))
    have keep : ∀ s', hf mt s' → (fwG (2 ^ n - 1) (cnF n nL w c) (kN n nL w c) (2 ^ n - 1 - i) → fwB z.1 (2 ^ n - 1 - i)) → w_X9_fewest_b89 (nI w) x (fun v4 v5 v6 st => w_X9_fewest_L55 (nI w) x K m v4 v5 v6 st) K (nI (cnF n nL w c)) (nI z.1) (nI (2 ^ n - 1 - i)) s' := fun s' hs' hb => by
      rw [w_X9_fewest_b89, es]
      have a : 2 ^ n - 1 < z.1 + (i + 1) ∨ z.1 = 2 ^ n - 1 := by omega
      refine hk2 (z.1, s') ⟨a, i2, i3, fun s hs h1 hg => ?_, hs'⟩
      by_cases e : s = 2 ^ n - 1 - i
      · subst e; exact hb hg
      · exact i4 s hs (by omega) hg
    by_cases e1 : pc z.1 < pc (2 ^ n - 1 - i)
    · exact y1 ((nJ_lt (by omega) (by omega)).mpr e1) (keep z.2 i5 fun _ => Or.inl e1)
    · refine n1 (fun y => e1 ((nJ_lt (by omega) (by omega)).mp y)) (t_manyBy hw (RM_hf hm i5) ((i5.2.2.1 11 (by decide) (by decide) (by decide) (by decide) (by decide) (by decide) (by decide)).trans h0) (by omega) fun s' hs' => ?_)
      have hs2 := i5.tr hs'
      have kl := kN_lt (w := w) (b := 2 ^ n - 1 - i) hv
      by_cases e2 : kN n nL w c (2 ^ n - 1 - i) < cnF n nL w c
      · refine y1 ((nJ_lt (by omega) (by omega)).mpr e2) (keep s' hs2 fun hg => ?_)
        rcases hg with hg | hg
        · have : i = 0 ∨ 2 ^ n - 1 = 0 := by omega
          have ez : z.1 = 2 ^ n - 1 := by omega
          rw [ez, hg]
          exact Or.inr ⟨rfl, Nat.le_refl _⟩
        · omega
      · refine n1 (fun y => e2 ((nJ_lt (by omega) (by omega)).mp y)) ?_
        rw [w_X9_fewest_b89, es]
        have a : 2 ^ n - 1 < 2 ^ n - 1 - i + (i + 1) ∨ 2 ^ n - 1 - i = 2 ^ n - 1 := by omega
        refine hk2 (2 ^ n - 1 - i, s') ⟨a, by show 2 ^ n - 1 - i ≤ _; omega, Or.inr (by show _ ≤ kN n nL w c (2 ^ n - 1 - i); omega), fun s hs h1 hg => ?_, hs2⟩
        by_cases e : s = 2 ^ n - 1 - i
        · subst e; exact Or.inr ⟨rfl, Nat.le_refl _⟩
        · have := i4 s hs (by omega) hg
          have h1' : 2 ^ n - 1 < s + (i + 1) := h1
          unfold fwB at this ⊢
          show pc (2 ^ n - 1 - i) < pc s ∨ (pc (2 ^ n - 1 - i) = pc s ∧ 2 ^ n - 1 - i ≤ s)
          omega
theorem sim_fewest {st mt : St} (h : R st mt) (x1 x2 : Int32) : w_X8_fewest x1 x2 st (fun r st' => w_X9_fewest x1 x2 mt (fun r' mt' => r = r' ∧ R st' mt')) := by
  obtain ⟨n, nL, hm, g, hn, hL, h7, h8, k8, k9⟩ := h.ctx
  have hA := A64 n (by omega)
  unfold w_X8_fewest
  refine s_range (s_choice (s_firstOf ?_))
  by_cases e1 : rangeF x1 0 60 = 0
  · rw [e1]
    obtain ⟨w, -, hw, rfl⟩ := rg_nI (a := 0) (b := 60) (by decide) (by decide) e1
    by_cases e2 : inF x2 0 1 = 0
    · rw [ch_out e2, f0, if_neg (by decide)]
      refine n1 (by decide) (s_refused rO2 ?_)
      unfold w_X9_fewest
      refine t_notWeeks ?_
      rw [e1]
      refine y2 rfl (t_isIn' (y2 e2 ?_))
      rw [w_X9_fewest_b21]
      exact n1 (by decide) (t_no rO2 ⟨rfl, R_ref h rO2⟩)
    · rw [ch_in e2, f0, if_pos rfl]
      have key : ∀ K : Int32 → St → Prop, (∀ b s, ChW (2 ^ n - 1) (cnF n nL w (cv st 11)) (kN n nL w (cv st 11)) b → hf mt s → (x2 = 0 → K (nI b) s) ∧ (¬ x2 = 0 → K (wgF n (cv st 11) b) s)) → w_X9_fewest (nI w) x2 mt K := fun K hK => by
        unfold w_X9_fewest
        refine t_notWeeks ?_
        rw [e1]
        refine y2 rfl (t_isIn' (n2 e2 ?_))
        rw [w_X9_fewest_b21]
        refine y1 rfl (t_many (by omega) hm fun s hs => ?_)
        show ∃ m, w_X9_fewest_L55 (nI w) x2 K m (nI (cnF n nL w (cv st 11))) (((1 : Int32) <<< ((s 0 8) &&& 31)) - 1) (((1 : Int32) <<< ((s 0 8) &&& 31)) - 1) s
        rw [(RM_hf hm hs).2.2.1, shA n (by omega)]
        refine t_fewestL (by omega) hm (out0 h) (fun b s' hb hs' => ?_) s hs
        rw [w_X9_fewest_b95]
        exact ⟨fun y => t_payOfAll (RM_hf hm hs') (by have := hb.1; omega) ((hK b s' hb hs').2 y), fun y => (hK b s' hb hs').1 y⟩
      refine y1 rfl (mind0 (fun s => w_X4_fewestKept (nI w) s _) (fun c0 z0 => x_fewestKept h.z11 z0 hm.1 h7 (by omega) fun b c' hb zc => ⟨fun y => ?_, fun y => key _ fun b' s hb' hs => ⟨fun _ => ?_, fun y' => absurd y y'⟩⟩) h.z99)
      · refine x_wages hn (by rw [o11]; exact h7) (by have := hb.1; omega) (key _ fun b' s hb' hs => ⟨fun y' => absurd y' y, fun _ => ?_⟩)
        rw [c11, ChW_1 hb hb']
        exact ⟨rfl, R_mind h zc hs.tf⟩
      · rw [ChW_1 hb hb']
        exact ⟨rfl, R_mind h zc hs.tf⟩
  · rw [f1 e1]
    refine n1 e1 (s_refused (rg_ok e1) ?_)
    unfold w_X9_fewest
    refine t_notWeeks (n2 e1 ?_)
    rw [w_X9_fewest_b21]
    exact n1 e1 (t_no (rg_ok e1) ⟨rfl, R_ref h (rg_ok e1)⟩)
