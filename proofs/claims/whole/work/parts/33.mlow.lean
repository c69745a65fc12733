/-! pure part: small rows of the check; thoughts and what they leave -/
theorem t_isIn {v a b : Int32} {mt : St} {K : Int32 → St → Prop} (h : K (if v < a then 0 else if b < v then 0 else 1) mt) : w_X9_isIn v a b mt K := by
  unfold w_X9_isIn
  refine ⟨fun h1 => ?_, fun h1 => ⟨fun h2 => ?_, fun h2 => ?_⟩⟩ <;> simpa [h1, *] using h
theorem t_bound {v a b : Int32} {mt : St} {K : Int32 → St → Prop} (h : K (rangeF v a b) mt) : w_X9_bound v a b mt K := by
  unfold w_X9_bound
  unfold rangeF at h
  refine ⟨fun h1 => ⟨fun h2 => ?_, fun h2 => ?_⟩, fun h1 => ?_⟩
  · rw [if_neg (i_nlt.mpr h1), if_neg (i_nlt.mpr h2)] at h; exact h
  · rw [if_neg (i_nlt.mpr h1), if_pos (i_nle.mp h2)] at h; exact h
  · rw [if_pos (i_nle.mp h1)] at h; exact h
theorem t_notWeeks {v : Int32} {mt : St} {K : Int32 → St → Prop} (h : K (rangeF v 0 60) mt) : w_X9_notWeeks v mt K := by
  unfold w_X9_notWeeks
  exact t_bound h
def rOk (r : Int32) : Prop := r = -1 ∨ r = -2 ∨ r = -3 ∨ r = -4 ∨ r = -6
def rI (r : Int32) : Nat := (-r).toNatClampNeg
theorem rI_in {r : Int32} (h : rOk r) : vp_in (-r) 7 ∧ rI r < 7 ∧ -r = nI (rI r) := by
  rcases h with rfl | rfl | rfl | rfl | rfl
  · exact ⟨by rw [show -(-1 : Int32) = nI 1 by decide]; exact vp_in_nI (by decide) (by decide), by decide, by decide⟩
  · exact ⟨by rw [show -(-2 : Int32) = nI 2 by decide]; exact vp_in_nI (by decide) (by decide), by decide, by decide⟩
  · exact ⟨by rw [show -(-3 : Int32) = nI 3 by decide]; exact vp_in_nI (by decide) (by decide), by decide, by decide⟩
  · exact ⟨by rw [show -(-4 : Int32) = nI 4 by decide]; exact vp_in_nI (by decide) (by decide), by decide, by decide⟩
  · exact ⟨by rw [show -(-6 : Int32) = nI 6 by decide]; exact vp_in_nI (by decide) (by decide), by decide, by decide⟩
def refS (st : St) (r : Int32) : St := u2 st 1 (rI r) (st 1 (rI r) + 1)
theorem t_no {r : Int32} {mt : St} {K : Int32 → St → Prop} (hr : rOk r) (h : K r (refS mt r)) : w_X9_no r mt K := ⟨(rI_in hr).1, (rI_in hr).1, h⟩
theorem t_lower {r : Int32} {mt : St} {K : Int32 → St → Prop} (hr : rOk r) (h : K (1000000000 - r) (refS mt r)) : w_X9_lower r mt K := ⟨(rI_in hr).1, (rI_in hr).1, h⟩
theorem t_lowestOf {r : Int32} {mt : St} {K : Int64 → St → Prop} (hr : rOk r) (h : K (4000000000000000000 - r.toInt64) (refS mt r)) : w_X9_lowestOf r mt K := ⟨(rI_in hr).1, (rI_in hr).1, h⟩
def isF (n : Nat) (x : Int32) : Int32 := if x < 0 then 0 else if nI n ≤ x then 0 else 1
theorem isF_01 (n : Nat) (x : Int32) : isF n x = 0 ∨ isF n x = 1 := by
  unfold isF
  split
  · exact Or.inl rfl
  · split
    · exact Or.inl rfl
    · exact Or.inr rfl
theorem isF_1 {n : Nat} (hn : n < 2147483648) {x : Int32} (h : ¬ isF n x = 0) : ∃ p, p < n ∧ x = nI p := by
  unfold isF at h
  by_cases h1 : x < 0
  · rw [if_pos h1] at h; exact absurd rfl h
  · rw [if_neg h1] at h
    by_cases h2 : nI n ≤ x
    · rw [if_pos h2] at h; exact absurd rfl h
    · obtain ⟨j, hj, rfl⟩ := nI_of h1
      exact ⟨j, Nat.not_le.mp fun q => h2 (nI_le q hj), rfl⟩
theorem isF_in {n p : Nat} (hn : n < 2147483648) (h : p < n) : isF n (nI p) = 1 := by
  unfold isF
  rw [if_neg (n_lt0 (show p < 2147483648 by omega)), if_neg (nI_ge h hn)]
theorem isF_in0 {n p : Nat} (hn : n < 2147483648) (h : p < n) : ¬ isF n (nI p) = 0 := by
  rw [isF_in hn h]; decide
theorem t_isKeeper {n : Nat} {x : Int32} {mt : St} {K : Int32 → St → Prop} (h8 : mt 0 8 = nI n) (h : K (isF n x) mt) : w_X9_isKeeper x mt K := by
  unfold w_X9_isKeeper
  rw [h8]
  refine ⟨fun h1 => ?_, fun h1 => ⟨fun h2 => ?_, fun h2 => ?_⟩⟩ <;> simpa [isF, h1, *] using h
theorem t_isLetter {n : Nat} {x : Int32} {mt : St} {K : Int32 → St → Prop} (h8 : mt 0 9 = nI n) (h : K (isF n x) mt) : w_X9_isLetter x mt K := by
  unfold w_X9_isLetter
  rw [h8]
  refine ⟨fun h1 => ?_, fun h1 => ⟨fun h2 => ?_, fun h2 => ?_⟩⟩ <;> simpa [isF, h1, *] using h
theorem t_isTown {x : Int32} {mt : St} {K : Int32 → St → Prop} (h : K (townF x) mt) : w_X9_isTown x mt K := by
  unfold w_X9_isTown
  refine ⟨fun h1 => ?_, fun h1 => ⟨fun h2 => ?_, fun h2 => ?_⟩⟩ <;> simpa [townF, h1, *] using h
theorem townF_isF (x : Int32) : townF x = isF 4 x := rfl
def twF (n : Nat) (x y : Int32) : Int32 := if isF n x = 0 then 0 else if isF n y = 0 then 0 else if x = y then 0 else 1
theorem twF_1 {n : Nat} (hn : n < 2147483648) {x y : Int32} (h : ¬ twF n x y = 0) : ∃ p q, p < n ∧ q < n ∧ p ≠ q ∧ x = nI p ∧ y = nI q := by
  unfold twF at h
  by_cases h1 : isF n x = 0
  · rw [if_pos h1] at h; exact absurd rfl h
  · by_cases h2 : isF n y = 0
    · rw [if_neg h1, if_pos h2] at h; exact absurd rfl h
    · by_cases h3 : x = y
      · rw [if_neg h1, if_neg h2, if_pos h3] at h; exact absurd rfl h
      · obtain ⟨p, hp, rfl⟩ := isF_1 hn h1
        obtain ⟨q, hq, rfl⟩ := isF_1 hn h2
        exact ⟨p, q, hp, hq, fun e => h3 (by rw [e]), rfl, rfl⟩
theorem t_areTwo {n : Nat} {x y : Int32} {mt : St} {K : Int32 → St → Prop} (h8 : mt 0 8 = nI n) (h : K (twF n x y) mt) : w_X9_areTwo x y mt K := by
  unfold w_X9_areTwo
  refine t_isKeeper h8 ⟨fun h1 => ?_, fun h1 => t_isKeeper h8 ⟨fun h2 => ?_, fun h2 => ⟨fun h3 => ?_, fun h3 => ?_⟩⟩⟩ <;> simpa [twF, h1, *] using h
theorem bits_pc : ∀ n, n < 256 → fr 0 31 (fun k (s : Int32) => s + ((nI n >>> (nI k &&& 31)) &&& 1)) 0 = nI (pc n) := by decide +kernel
theorem t_bits {b : Nat} {mt : St} {K : Int32 → St → Prop} (hb : b < 256) (h : K (nI (pc b)) mt) : w_X9_bits (nI b) mt K := by
  unfold w_X9_bits
  refine lo_fr (fun m k s => w_X9_bits_L4 (nI b) K m s (nI k) mt) (fun k (s : Int32) => s + ((nI b >>> (nI k &&& 31)) &&& 1)) (fun _ _ => True) (0 : Int32) (Nat.zero_le 31) trivial (fun _ _ _ _ _ => trivial) (fun _ m => ?_) (fun m k s _ h2 _ hw => ?_)
  · rw [w_X9_bits_L4, w_X9_bits_L4q, bits_pc b hb]
    exact ⟨fun _ => h, fun h9 => absurd (nI_le (Nat.le_refl 31) (by decide)) h9⟩
  · rw [w_X9_bits_L4, w_X9_bits_L4q]
    refine ⟨fun h9 => absurd h9 (nI_ge h2 (by decide)), fun _ => ?_⟩
    rw [nI_inc]
    exact hw
theorem oo_bit : ∀ b, b < 64 → ∀ l, l < 6 → nI (b % 2 ^ l) ||| ((if b.testBit l then (1 : Int32) else 0) <<< (nI l &&& 31)) = nI (b % 2 ^ (l + 1)) := by decide +kernel
theorem t_openOnes {n nL : Nat} {mt : St} {c : Ct} {K : Int32 → St → Prop} (h : RM n nL mt c) (hk : K (nI (ob c)) mt) : w_X9_openOnes mt K := by
  have hv := h.1
  obtain ⟨-, hL, -, -, -, -, h7⟩ := hv
  unfold w_X9_openOnes
  refine lo_rel (fun m l (s : Int32) => w_X9_openOnes_L4 K m s (nI l) mt) (fun l s => s = nI (ob c % 2 ^ l)) (0 : Int32) (Nat.zero_le nL) (by rw [Nat.pow_zero, Nat.mod_one]; rfl) (fun s e m => ?_) (fun m l s _ h2 e hw => ?_)
  · rw [w_X9_openOnes_L4, w_X9_openOnes_L4q, h.2.2.2.1, e, Nat.mod_eq_of_lt h7]
    exact ⟨fun _ => hk, fun h9 => absurd (nI_le (Nat.le_refl nL) (by omega)) h9⟩
  · rw [w_X9_openOnes_L4, w_X9_openOnes_L4q, h.2.2.2.1]
    refine ⟨fun h9 => absurd h9 (nI_ge h2 (by omega)), fun _ => ⟨vp_in_nI (show l < 6 by omega) (by decide), ?_⟩⟩
    rw [clI (show l < 6 by omega) (by decide), (h.2.2.2.2.2.2.2 l h2).2.2.2, e, oo_bit _ (p64 hL h7) l (by omega), nI_inc]
    exact hw _ rfl
def allF (n : Nat) (c : Ct) : Int32 := fr 0 n (fun p s => fr (p + 1) n (fun q (s : Int32) => s + c 4 (hI p q)) s) 0
theorem t_allHate {n nL : Nat} {mt : St} {c : Ct} {K : Int32 → St → Prop} (h : RM n nL mt c) (hk : K (allF n c) mt) : w_X9_allHate mt K := by
  have hn := h.1.1
  have h8 := h.2.2.1
  unfold w_X9_allHate
  refine lo_fr (fun m p s => w_X9_allHate_L4 K m s (nI p) mt) (fun p s => fr (p + 1) n (fun q (s : Int32) => s + c 4 (hI p q)) s) (fun _ _ => True) (0 : Int32) (Nat.zero_le n) trivial (fun _ _ _ _ _ => trivial) (fun _ m => ?_) (fun m p s _ h2 _ hw => ?_)
  · rw [w_X9_allHate_L4, w_X9_allHate_L4q, h8]
    exact ⟨fun _ => hk, fun h9 => absurd (nI_le (Nat.le_refl n) (by omega)) h9⟩
  · rw [w_X9_allHate_L4, w_X9_allHate_L4q, h8]
    refine ⟨fun h9 => absurd h9 (nI_ge h2 (by omega)), fun _ => ?_⟩
    rw [nI_inc]
    refine lo_fr (fun k q s => w_X9_allHate_L16 (fun v1 v2 st => w_X9_allHate_L4 K m v1 v2 st) K k s (nI p) (nI q) mt) (fun q (s : Int32) => s + c 4 (hI p q)) (fun _ _ => True) s (show p + 1 ≤ n by omega) trivial (fun _ _ _ _ _ => trivial) (fun _ k => ?_) (fun k q s h1 h2' _ hw2 => ?_)
    · rw [w_X9_allHate_L16, w_X9_allHate_L16q, h8]
      refine ⟨fun _ => ?_, fun h9 => absurd (nI_le (Nat.le_refl n) (by omega)) h9⟩
      rw [w_X9_allHate_b39, nI_inc]
      exact hw
    · rw [w_X9_allHate_L16, w_X9_allHate_L16q, h8]
      refine ⟨fun h9 => absurd h9 (nI_ge h2' (by omega)), fun _ => t_hateOf (by omega) (by omega) ?_⟩
      rw [nI_inc, (h.2.2.2.2.2.2.1 p q (by omega) h2').1]
      exact hw2
/-- a thought leaves all that isn't scratch -/
def hf (mt s : St) : Prop := (∀ i, i < 75 → lvM s i = lvM mt i) ∧ (∀ j, j ≠ 0 → (j < 2 ∨ 8 < j) → j ≠ 13 → j ≠ 14 → s j = mt j) ∧ (∀ a, a ≠ 8 → a ≠ 9 → a ≠ 10 → a ≠ 21 → a ≠ 22 → a ≠ 25 → a ≠ 26 → s 0 a = mt 0 a) ∧ ∀ a, (a < 150 ∨ 225 ≤ a) → s 13 a = mt 13 a
/-- s is a thought begun in mt -/
def th (mt s : St) : Prop := (∀ i, i < 75 → s 13 (150 + i) = lvM mt i) ∧ (∀ j, j ≠ 0 → (j < 2 ∨ 8 < j) → j ≠ 13 → j ≠ 14 → s j = mt j) ∧ (∀ a, a ≠ 8 → a ≠ 9 → a ≠ 10 → a ≠ 21 → a ≠ 22 → a ≠ 25 → a ≠ 26 → s 0 a = mt 0 a) ∧ ∀ a, (a < 150 ∨ 225 ≤ a) → s 13 a = mt 13 a
theorem hf_rf {mt : St} : hf mt mt := ⟨fun _ _ => rfl, fun _ _ _ _ _ => rfl, fun _ _ _ _ _ _ _ _ => rfl, fun _ _ => rfl⟩
theorem hf.tr {a b c : St} (h1 : hf a b) (h2 : hf b c) : hf a c :=
  ⟨fun i hi => (h2.1 i hi).trans (h1.1 i hi), fun j p q r s => (h2.2.1 j p q r s).trans (h1.2.1 j p q r s), fun j p q r s t u v => (h2.2.2.1 j p q r s t u v).trans (h1.2.2.1 j p q r s t u v), fun j p => (h2.2.2.2 j p).trans (h1.2.2.2 j p)⟩
theorem th.wf {mt s s' : St} (h : th mt s) (w : wf s s') : th mt s' :=
  ⟨fun i hi => by rw [w.1 13 (by decide) (by decide) (by decide) (by decide)]; exact h.1 i hi, fun j p q r t => by rw [w.1 j p (by omega) (by omega) t]; exact h.2.1 j p q r t,
    fun a p q r t u v x => by rw [w.2 a (by omega) (by omega)]; exact h.2.2.1 a p q r t u v x, fun a p => by rw [w.1 13 (by decide) (by decide) (by decide) (by decide)]; exact h.2.2.2 a p⟩
theorem th_u2 {mt s : St} {j i : Nat} {v : Int32} (h : th mt s) (hj : 2 ≤ j ∧ j ≤ 8) : th mt (u2 s j i v) :=
  ⟨fun a ha => by rw [u2_off (by omega)]; exact h.1 a ha, fun k p q r t => by rw [u2_off (by omega)]; exact h.2.1 k p q r t, fun a p q r t u w x => by rw [u2_off (by omega)]; exact h.2.2.1 a p q r t u w x, fun a p => by rw [u2_off (by omega)]; exact h.2.2.2 a p⟩
theorem th_u26 {mt s : St} {v : Int32} (h : th mt s) : th mt (u2 s 0 26 v) :=
  ⟨fun a ha => by rw [u2_off (by decide)]; exact h.1 a ha, fun k p q r t => by rw [u2_off p]; exact h.2.1 k p q r t, fun a p q r t u w x => by rw [u2_ne (Or.inr x)]; exact h.2.2.1 a p q r t u w x, fun a p => by rw [u2_off (by decide)]; exact h.2.2.2 a p⟩
theorem hf_u26 {mt : St} {v : Int32} : hf mt (u2 mt 0 26 v) :=
  ⟨fun i hi => by
    unfold lvM
    simp only [u2_off (show (2 : Nat) ≠ 0 by decide), u2_off (show (3 : Nat) ≠ 0 by decide), u2_off (show (4 : Nat) ≠ 0 by decide), u2_off (show (5 : Nat) ≠ 0 by decide), u2_off (show (6 : Nat) ≠ 0 by decide), u2_off (show (7 : Nat) ≠ 0 by decide), u2_off (show (8 : Nat) ≠ 0 by decide), u2_ne (Or.inr (show (8 : Nat) ≠ 26 by decide)), u2_ne (Or.inr (show (9 : Nat) ≠ 26 by decide)), u2_ne (Or.inr (show (10 : Nat) ≠ 26 by decide))], fun k p q r t => u2_off p, fun a p q r t u w x => u2_ne (Or.inr x), fun a p => by rw [u2_off (by decide)]⟩
theorem RM_bec {n nL : Nat} {mt : St} {c : Ct} (h : RM n nL mt c) : RM n nL mt (bec c) := by
  have e : ∀ j, j ≠ 7 → bec c j = c j := fun j hj => if_neg hj
  obtain ⟨g1, g2, g3, g4, g5, g6, g7, g8⟩ := h
  have eo : ob (bec c) = ob c := by unfold ob; rw [e 0 (by decide)]
  refine ⟨?_, fun p q a b => by rw [e 4 (by decide)]; exact g2 p q a b, g3, g4, by rw [e 0 (by decide)]; exact g5, fun p hp => by rw [e 1 (by decide), e 2 (by decide), e 3 (by decide)]; exact g6 p hp, fun p q a b => by rw [e 4 (by decide)]; exact g7 p q a b, fun l hl => by rw [e 5 (by decide), e 6 (by decide), eo]; exact g8 l hl⟩
  obtain ⟨h1, h2, h3, h4, h5, h6, h7⟩ := g1
  exact ⟨h1, h2, by rw [e 0 (by decide)]; exact h3, by rw [e 0 (by decide)]; exact h4, fun l hl => by rw [e 5 (by decide)]; exact h5 l hl, by rw [eo, e 0 (by decide)]; exact h6, by rw [eo]; exact h7⟩
theorem RM_hf {n nL : Nat} {mt s : St} {c : Ct} (h : RM n nL mt c) (e : hf mt s) : RM n nL s c := RM_lv h e.1 (e.2.2.1 11 (by decide) (by decide) (by decide) (by decide) (by decide) (by decide) (by decide))
theorem t_think {n nL : Nat} {mt : St} {c : Ct} {K : St → Prop} (h : RM n nL mt c) (hk : ∀ s, RM n nL s (bec c) → th mt s → K s) : w_X9_thinks mt K := by
  refine t_thinks fun s h1 h2 h3 h4 => hk s ?_ ⟨h3, fun j a b c d => h1 j a c, fun a p q r t u v w => h2 a t u, h4⟩
  refine RM_bec (RM_lv h (fun i hi => ?_) (h2 11 (by decide) (by decide)))
  unfold lvM
  rw [h1 2 (by decide) (by decide), h1 3 (by decide) (by decide), h1 4 (by decide) (by decide), h1 5 (by decide) (by decide), h1 6 (by decide) (by decide), h1 7 (by decide) (by decide), h1 8 (by decide) (by decide), h2 8 (by decide) (by decide), h2 9 (by decide) (by decide), h2 10 (by decide) (by decide)]
theorem t_forget {mt s : St} {K : St → Prop} (h : th mt s) (hk : ∀ s', hf mt s' → s' 14 = s 14 → s' 0 26 = s 0 26 → K s') : w_X9_forgets s K := by
  refine t_forgets fun s' h1 h2 h3 => hk s' ⟨fun i hi => (h1 i hi).trans (h.1 i hi), fun j a b c d => (h2 j a b).trans (h.2.1 j a b c d), fun a p q r t u v w => (h3 a p q r t u).trans (h.2.2.1 a p q r t u v w), fun a p => by rw [h2 13 (by decide) (by decide)]; exact h.2.2.2 a p⟩ (h2 14 (by decide) (by decide)) (h3 26 (by decide) (by decide) (by decide) (by decide) (by decide))
/-- what the weeks in mind come to -/
def wkF (n nL w : Nat) (c : Ct) : Ct := weeksF n nL w (bec c)
theorem t_hateIn {n nL p q w : Nat} {mt : St} {c : Ct} {K : Int32 → St → Prop} (hw : w < 2147483648) (h : RM n nL mt c) (hp : p < n) (hq : q < n) (hpq : p ≠ q) (hk : ∀ mt', hf mt mt' → K (wkF n nL w c 4 (hI p q)) mt') : w_X9_hateIn (nI p) (nI q) (nI w) mt K := by
  have hn := h.1.1
  unfold w_X9_hateIn
  refine t_think h fun s e1 e2 => t_goesOn hw e1 fun s1 e3 e4 => t_hateOf (by omega) (by omega) (t_forget (e2.wf e4) fun s' e5 _ _ => ?_)
  have e6 : s1 5 (6 * p + q) = wkF n nL w c 4 (hI p q) := by
    have r := e3.2.2.2.2.2.2.1
    rcases Nat.lt_or_gt_of_ne hpq with z | z
    · exact (r p q z hq).1
    · have := (r q p z hp).2
      rw [this]
      show _ = weeksF n nL w (bec c) 4 (hI p q)
      congr 1
      unfold hI; omega
  rw [e6]
  exact hk s' e5
theorem t_openIn {n nL w : Nat} {mt : St} {c : Ct} {K : Int32 → St → Prop} (hw : w < 2147483648) (h : RM n nL mt c) (hk : ∀ mt', hf mt mt' → K (nI (ob (wkF n nL w c))) mt') : w_X9_openIn (nI w) mt K := by
  unfold w_X9_openIn
  exact t_think h fun s e1 e2 => t_goesOn hw e1 fun s1 e3 e4 => t_openOnes e3 (t_forget (e2.wf e4) fun s' e5 _ _ => hk s' e5)
