/-! pure part: looks, one: keepers of a town, wages, hate of a town -/
def kiF (n : Nat) (c : Ct) (t : Int32) : Nat := fr 0 n (fun p b => if c 3 p = t then b ||| 2 ^ p else b) 0
theorem kiF_lt {n : Nat} {c : Ct} {t : Int32} : kiF n c t < 2 ^ n :=
  fr_inv (fun i b => b < 2 ^ i) _ (Nat.zero_le n) (by decide) (fun i b _ _ h => by
    split
    · exact Nat.or_lt_two_pow (Nat.lt_of_lt_of_le h (Nat.pow_le_pow_right (by decide) (by omega))) (Nat.pow_lt_pow_right (by decide) (by omega))
    · exact Nat.lt_of_lt_of_le h (Nat.pow_le_pow_right (by decide) (by omega)))
theorem ki64 {n : Nat} {c : Ct} {t : Int32} (hn : n ≤ 6) : kiF n c t < 64 := p64 hn kiF_lt
theorem ki_inv {n i : Nat} (hn : n ≤ 6) (hi : i ≤ n) {c : Ct} {t : Int32} : fr 0 i (fun p b => if c 3 p = t then b ||| 2 ^ p else b) 0 < 64 := ki64 (by omega)
theorem x_keepersIn {st : St} {n : Nat} {t : Int32} {K : Int32 → St → Prop} (hn : n ≤ 6) (h7 : st 11 7 = nI n) (ht : t ≠ -1) (h : K (nI (kiF n (cv st 11) t)) st) : w_X3_keepersIn t st K := by
  unfold w_X3_keepersIn
  refine lo_fr (fun m p (b : Nat) => w_X3_keepersIn_L4 t K m (nI b) (nI p) st) (fun p b => if cv st 11 3 p = t then b ||| 2 ^ p else b) (fun _ b => b < 64) (0 : Nat) (Nat.zero_le n) (by decide) (fun i b _ hi hb => ?_) (fun _ m => ?_) (fun m p b _ hp hb hw => ?_)
  · show (if _ then _ else _) < 64
    split
    · exact Nat.or_lt_two_pow (n := 6) hb (Nat.pow_lt_pow_right (by decide) (by omega))
    · exact hb
  · rw [w_X3_keepersIn_L4, w_X3_keepersIn_L4q]
    unfold w_X1_keeperCount
    rw [h7]
    exact y1 (nI_le (Nat.le_refl n) (by omega)) h
  · rw [w_X3_keepersIn_L4, w_X3_keepersIn_L4q]
    unfold w_X1_keeperCount
    rw [h7]
    refine n1 (nI_ge hp (by omega)) (n1 ht (x_townOf (by omega) ?_))
    by_cases e : cv st 11 3 p = t
    · rw [if_pos e] at hw
      refine y2 e ?_
      rw [w_X3_keepersIn_b32, w_X3_keepersIn_b38, nI_inc]
      rw [← or_bit b hb p (by omega)] at hw
      exact hw
    · rw [if_neg e] at hw
      refine n2 e ?_
      rw [w_X3_keepersIn_b38, nI_inc]
      exact hw
theorem x_keepersAll {st : St} {n : Nat} {K : Int32 → St → Prop} (hn : n ≤ 6) (h7 : st 11 7 = nI n) (h : ∀ b, b < 64 → (∀ p, p < n → b.testBit p = true) → K (nI b) st) : w_X3_keepersIn (-1) st K := by
  unfold w_X3_keepersIn
  refine lo_rel (fun m p (b : Nat) => w_X3_keepersIn_L4 (-1) K m (nI b) (nI p) st) (fun i b => b < 64 ∧ ∀ p, p < i → b.testBit p = true) (0 : Nat) (Nat.zero_le n) ⟨by decide, fun p hp => absurd hp (Nat.not_lt_zero p)⟩ (fun b hb m => ?_) (fun m p b _ hp hb hw => ?_)
  · rw [w_X3_keepersIn_L4, w_X3_keepersIn_L4q]
    unfold w_X1_keeperCount
    rw [h7]
    exact y1 (nI_le (Nat.le_refl n) (by omega)) (h b hb.1 hb.2)
  · rw [w_X3_keepersIn_L4, w_X3_keepersIn_L4q]
    unfold w_X1_keeperCount
    rw [h7]
    refine n1 (nI_ge hp (by omega)) (y1 rfl ?_)
    rw [w_X3_keepersIn_b32, w_X3_keepersIn_b38, nI_inc]
    show w_X3_keepersIn_L4 (-1) K m (nI b ||| lbit p) (nI (p + 1)) st
    rw [or_bit b hb.1 p (by omega)]
    refine hw _ ⟨Nat.or_lt_two_pow (n := 6) hb.1 (Nat.pow_lt_pow_right (by decide) (by omega)), fun q hq => ?_⟩
    rw [tb_or]
    by_cases e : q = p
    · subst e; simp
    · rw [hb.2 q (by omega)]; rfl
theorem t_keepersIn {n nL : Nat} {mt : St} {c : Ct} {t : Int32} {K : Int32 → St → Prop} (hm : RM n nL mt c) (g : gC n nL c) (h : K (nI (kiF n c t)) mt) : w_X9_keepersIn t mt K := by
  have hn := hm.1.1
  have h8 := hm.2.2.1
  unfold w_X9_keepersIn
  refine lo_fr (fun m p (b : Nat) => w_X9_keepersIn_L4 t K m (nI b) (nI p) mt) (fun p b => if c 3 p = t then b ||| 2 ^ p else b) (fun _ b => b < 64) (0 : Nat) (Nat.zero_le n) (by decide) (fun i b _ hi hb => ?_) (fun _ m => ?_) (fun m p b _ hp hb hw => ?_)
  · show (if _ then _ else _) < 64
    split
    · exact Nat.or_lt_two_pow (n := 6) hb (Nat.pow_lt_pow_right (by decide) (by omega))
    · exact hb
  · rw [w_X9_keepersIn_L4, w_X9_keepersIn_L4q, h8]
    exact y1 (nI_le (Nat.le_refl n) (by omega)) h
  · rw [w_X9_keepersIn_L4, w_X9_keepersIn_L4q, h8]
    refine n1 (nI_ge hp (by omega)) ⟨vp_in_nI (by omega) (by decide), ?_⟩
    rw [clI (show p < 6 by omega) (by decide), hm.town g hp]
    by_cases e : c 3 p = t
    · rw [if_pos e] at hw
      refine y2 e ?_
      rw [w_X9_keepersIn_b30, nI_inc]
      rw [← or_bit b hb p (by omega)] at hw
      exact hw
    · rw [if_neg e] at hw
      refine n2 e ?_
      rw [w_X9_keepersIn_b30, nI_inc, Int32.or_zero]
      exact hw
theorem has_is : ∀ b, b < 256 → ∀ p, p < 8 → (((nI b >>> (nI p &&& 31)) &&& 1) = 1 ↔ b.testBit p = true) := by decide +kernel
theorem bit_is8 : ∀ b, b < 256 → ∀ l, l < 8 → bitF (nI b) (nI l) = if b.testBit l then 1 else 0 := by decide +kernel
theorem t_hasN {b p : Nat} {mt : St} {K : Int32 → St → Prop} (hb : b < 256) (hp : p < 8) (h : K (if b.testBit p then 1 else 0) mt) : w_X9_has (nI b) (nI p) mt K :=
  t_has (fun z => by rw [if_pos ((has_is b hb p hp).mp z)] at h; exact h) (fun z => by rw [if_neg (fun y => z ((has_is b hb p hp).mpr y))] at h; exact h)
theorem s_bitN {b p : Nat} {st : St} {K : Int32 → St → Prop} (hb : b < 256) (hp : p < 8) (h : K (if b.testBit p then 1 else 0) st) : w_X8_bit (nI b) (nI p) st K := s_bit (by rw [bit_is8 b hb p hp]; exact h)
def wgF (n : Nat) (c : Ct) (b : Nat) : Int32 := fr 0 n (fun p (s : Int32) => if b.testBit p then s + wageF c p else s) 0
theorem wgF_cg {n : Nat} {c : Ct} {a b : Nat} (h : ∀ p, p < n → a.testBit p = b.testBit p) : wgF n c a = wgF n c b := by
  have key : ∀ i, i ≤ n → wgF i c a = wgF i c b := by
    intro i
    induction i with
    | zero => intro _; rfl
    | succ i ih =>
      intro hi
      have e := ih (by omega)
      unfold wgF at e ⊢
      rw [fr_succ (Nat.zero_le i), fr_succ (Nat.zero_le i), e, h i (by omega)]
  exact key n (Nat.le_refl n)
theorem x_wages {st : St} {n b : Nat} {K : Int32 → St → Prop} (hn : n ≤ 6) (h7 : st 11 7 = nI n) (hb : b < 256) (h : K (wgF n (cv st 11) b) st) : w_X3_wages (nI b) st K := by
  unfold w_X3_wages
  refine lo_fr (fun m p (s : Int32) => w_X3_wages_L4 (nI b) K m s (nI p) st) (fun p s => if b.testBit p then s + wageF (cv st 11) p else s) (fun _ _ => True) (0 : Int32) (Nat.zero_le n) trivial (fun _ _ _ _ _ => trivial) (fun _ m => ?_) (fun m p s _ hp _ hw => ?_)
  · rw [w_X3_wages_L4, w_X3_wages_L4q]
    unfold w_X1_keeperCount
    rw [h7]
    exact y1 (nI_le (Nat.le_refl n) (by omega)) h
  · rw [w_X3_wages_L4, w_X3_wages_L4q]
    unfold w_X1_keeperCount
    rw [h7]
    refine n1 (nI_ge hp (by omega)) (s_bitN hb (by omega) ?_)
    by_cases e : b.testBit p = true
    · rw [if_pos e] at hw
      rw [if_pos e]
      refine y2 rfl (x_wageOf (by omega) ?_)
      rw [w_X3_wages_b35, nI_inc]
      exact hw
    · rw [if_neg e] at hw
      rw [if_neg e]
      refine n2 (by decide) ?_
      rw [w_X3_wages_b35, nI_inc]
      exact hw
theorem t_payOfAll {n nL b : Nat} {mt : St} {c : Ct} {K : Int32 → St → Prop} (hm : RM n nL mt c) (hb : b < 256) (h : K (wgF n c b) mt) : w_X9_payOfAll (nI b) mt K := by
  have hn := hm.1.1
  have h8 := hm.2.2.1
  unfold w_X9_payOfAll
  refine lo_fr (fun m p (s : Int32) => w_X9_payOfAll_L4 (nI b) K m s (nI p) mt) (fun p s => if b.testBit p then s + wageF c p else s) (fun _ _ => True) (0 : Int32) (Nat.zero_le n) trivial (fun _ _ _ _ _ => trivial) (fun _ m => ?_) (fun m p s _ hp _ hw => ?_)
  · rw [w_X9_payOfAll_L4, w_X9_payOfAll_L4q, h8]
    exact y1 (nI_le (Nat.le_refl n) (by omega)) h
  · rw [w_X9_payOfAll_L4, w_X9_payOfAll_L4q, h8]
    refine n1 (nI_ge hp (by omega)) (t_hasN hb (by omega) ?_)
    have a := hm.2.2.2.2.2.1 p hp
    by_cases e : b.testBit p = true
    · rw [if_pos e] at hw
      rw [if_pos e]
      refine n1 (by decide) (t_payOf (by omega) ?_)
      rw [w_X9_payOfAll_b30, nI_inc, a.1, a.2.1]
      exact hw
    · rw [if_neg e] at hw
      rw [if_neg e]
      refine y1 rfl ?_
      rw [w_X9_payOfAll_b30, nI_inc, Int32.add_zero]
      exact hw
theorem town_nI {x : Int32} (h : ¬ townF x = 0) : ∃ t, t < 4 ∧ x = nI t := isF_1 (n := 4) (by decide) h
theorem n0le {t : Nat} (h : t < 2147483648) : 0 ≤ nI t := n_le0 h
theorem sim_pay {st mt : St} (h : R st mt) (x1 x2 : Int32) : w_X8_pay x1 x2 st (fun r st' => w_X9_pay x1 x2 mt (fun r' mt' => r = r' ∧ R st' mt')) := by
  obtain ⟨n, nL, hm, g, hn, hL, h7, h8, k8, k9⟩ := h.ctx
  -- behind the town: weeks
  have weeks : ∀ K : Int32 → St → Prop, (rangeF x2 0 60 = 0 → w_X9_pay_b20 x1 x2 K 0 mt) → (¬ rangeF x2 0 60 = 0 → K (rangeF x2 0 60) (refS mt (rangeF x2 0 60))) → w_X9_pay_b16 x1 x2 K mt := fun K q1 q2 => by
    rw [w_X9_pay_b16]
    refine t_notWeeks ?_
    by_cases e : rangeF x2 0 60 = 0
    · rw [e]; exact q1 e
    · rw [w_X9_pay_b20]
      exact n1 e (t_no (rg_ok e) (q2 e))
  unfold w_X8_pay
  refine ⟨fun z => s_townRef ?_, fun z => ?_⟩
  · by_cases e : townF x1 = 0
    · rw [nb0 e, w_X8_pay_b13]
      refine s_range (s_firstOf ?_)
      rw [f1 (by decide)]
      refine n1 (by decide) (s_refused rO1 ?_)
      unfold w_X9_pay
      refine n1 z (t_isTown (y2 e ?_))
      rw [w_X9_pay_b20]
      exact n1 (by decide) (t_no rO1 ⟨rfl, R_ref h rO1⟩)
    · rw [nb1 e, w_X8_pay_b13]
      refine s_range (s_firstOf ?_)
      obtain ⟨t, ht, rfl⟩ := town_nI e
      have key : ∀ K : Int32 → St → Prop, (rangeF x2 0 60 = 0 → w_X9_pay_b20 (nI t) x2 K 0 mt) → (¬ rangeF x2 0 60 = 0 → K (rangeF x2 0 60) (refS mt (rangeF x2 0 60))) → w_X9_pay (nI t) x2 mt K := fun K q1 q2 => by
        unfold w_X9_pay
        exact n1 z (t_isTown (n2 e (weeks K q1 q2)))
      by_cases e2 : rangeF x2 0 60 = 0
      · rw [e2]
        refine y1 rfl (x_keepersIn hn h7 z (x_wages hn h7 (Nat.lt_of_lt_of_le (ki64 hn) (by decide)) (key _ (fun _ => ?_) (fun y => absurd e2 y))))
        rw [w_X9_pay_b20]
        refine y1 rfl (y1 (n0le (by omega)) (t_keepersIn hm g ?_))
        rw [w_X9_pay_b47]
        refine t_payOfAll hm (Nat.lt_of_lt_of_le (ki64 hn) (by decide)) ⟨Int32.mul_comm _ _, h⟩
      · rw [f01 e2]
        exact n1 e2 (s_refused (rg_ok e2) (key _ (fun y => absurd y e2) (fun _ => ⟨rfl, R_ref h (rg_ok e2)⟩)))
  · subst z
    rw [w_X8_pay_b13]
    refine s_range (s_firstOf ?_)
    have key : ∀ K : Int32 → St → Prop, (rangeF x2 0 60 = 0 → w_X9_pay_b20 (-1) x2 K 0 mt) → (¬ rangeF x2 0 60 = 0 → K (rangeF x2 0 60) (refS mt (rangeF x2 0 60))) → w_X9_pay (-1) x2 mt K := fun K q1 q2 => by
      unfold w_X9_pay
      exact y1 rfl (weeks K q1 q2)
    by_cases e2 : rangeF x2 0 60 = 0
    · rw [e2]
      refine y1 rfl (x_keepersAll hn h7 fun b hb hbt => x_wages hn h7 (by omega) (key _ (fun _ => ?_) (fun y => absurd e2 y)))
      rw [w_X9_pay_b20]
      refine y1 rfl (n1 (by decide) ?_)
      rw [w_X9_pay_b47]
      refine t_payOfAll (b := 63) hm (by decide) ⟨?_, h⟩
      rw [Int32.mul_comm, wgF_cg (a := b) (b := 63) fun p hp => by rw [hbt p hp]; exact ((show ∀ p, p < 6 → (63 : Nat).testBit p = true by decide) p (by omega)).symm]
    · rw [f01 e2]
      exact n1 e2 (s_refused (rg_ok e2) (key _ (fun y => absurd y e2) (fun _ => ⟨rfl, R_ref h (rg_ok e2)⟩)))
def mhS (c : Ct) (t : Int32) (p q : Nat) (s : Int32) : Int32 := if c 3 p = t ∧ c 3 q = t then (if s < c 4 (hI p q) then c 4 (hI p q) else s) else s
def mhF (n : Nat) (c : Ct) (t : Int32) : Int32 := fr 0 n (fun p s => fr (p + 1) n (fun q s => mhS c t p q s) s) (-9)
theorem x_mostHateIn {st : St} {n : Nat} {t : Int32} {K : Int32 → St → Prop} (hn : n ≤ 6) (h7 : st 11 7 = nI n) (h : K (mhF n (cv st 11) t) st) : w_X3_mostHateIn t st K := by
  unfold w_X3_mostHateIn
  refine lo_fr (fun m p (s : Int32) => w_X3_mostHateIn_L5 t K m s (nI p) st) (fun p s => fr (p + 1) n (fun q s => mhS (cv st 11) t p q s) s) (fun _ _ => True) (-9 : Int32) (Nat.zero_le n) trivial (fun _ _ _ _ _ => trivial) (fun _ m => ?_) (fun m p s _ hp _ hw => ?_)
  · rw [w_X3_mostHateIn_L5, w_X3_mostHateIn_L5q]
    unfold w_X1_keeperCount
    rw [h7]
    exact y1 (nI_le (Nat.le_refl n) (by omega)) h
  · rw [w_X3_mostHateIn_L5, w_X3_mostHateIn_L5q]
    unfold w_X1_keeperCount
    rw [h7]
    refine n1 (nI_ge hp (by omega)) ?_
    rw [nI_inc]
    refine lo_fr (fun k q (s : Int32) => w_X3_mostHateIn_L21 t (fun v2 v3 st => w_X3_mostHateIn_L5 t K m v2 v3 st) K k s (nI p) (nI q) st) (fun q s => mhS (cv st 11) t p q s) (fun _ _ => True) s (show p + 1 ≤ n by omega) trivial (fun _ _ _ _ _ => trivial) (fun _ k => ?_) (fun k q s h1 hq _ hw2 => ?_)
    · rw [w_X3_mostHateIn_L21, w_X3_mostHateIn_L21q]
      unfold w_X1_keeperCount
      rw [h7]
      refine y1 (nI_le (Nat.le_refl n) (by omega)) ?_
      rw [w_X3_mostHateIn_b68, nI_inc]
      exact hw
    · rw [w_X3_mostHateIn_L21, w_X3_mostHateIn_L21q]
      unfold w_X1_keeperCount
      rw [h7]
      refine n1 (nI_ge hq (by omega)) (x_bothIn (by omega) (by omega) ?_)
      unfold mhS at hw2
      by_cases e : cv st 11 3 p = t ∧ cv st 11 3 q = t
      · rw [if_pos e] at hw2
        rw [if_pos e]
        refine n1 (by decide) (x_hateOf (by omega) (by omega) ?_)
        rw [w_X3_mostHateIn_b62, nI_inc]
        exact hw2
      · rw [if_neg e] at hw2
        rw [if_neg e]
        refine y1 rfl ?_
        rw [w_X3_mostHateIn_b62, nI_inc]
        exact hw2
theorem t_deepestL {n nL : Nat} {mt : St} {c : Ct} {t : Int32} {K : Int32 → St → Prop} (hm : RM n nL mt c) (ht : t ≠ -1) (h : K (mhF n c t) mt) : ∃ m, w_X9_deepest_L18 t K m (-9) 0 mt := by
  have hn := hm.1.1
  have h8 := hm.2.2.1
  refine lo_fr (fun m p (s : Int32) => w_X9_deepest_L18 t K m s (nI p) mt) (fun p s => fr (p + 1) n (fun q s => mhS c t p q s) s) (fun _ _ => True) (-9 : Int32) (Nat.zero_le n) trivial (fun _ _ _ _ _ => trivial) (fun _ m => ?_) (fun m p s _ hp _ hw => ?_)
  · rw [w_X9_deepest_L18, w_X9_deepest_L18q, h8]
    exact y1 (nI_le (Nat.le_refl n) (by omega)) h
  · rw [w_X9_deepest_L18, w_X9_deepest_L18q, h8]
    refine n1 (nI_ge hp (by omega)) ?_
    rw [nI_inc]
    refine lo_fr (fun k q (s : Int32) => w_X9_deepest_L31 t (fun v2 v3 st => w_X9_deepest_L18 t K m v2 v3 st) K k s (nI p) (nI q) mt) (fun q s => mhS c t p q s) (fun _ _ => True) s (show p + 1 ≤ n by omega) trivial (fun _ _ _ _ _ => trivial) (fun _ k => ?_) (fun k q s h1 hq _ hw2 => ?_)
    · rw [w_X9_deepest_L31, w_X9_deepest_L31q, h8]
      refine y1 (nI_le (Nat.le_refl n) (by omega)) ?_
      rw [w_X9_deepest_b80, nI_inc]
      exact hw
    · rw [w_X9_deepest_L31, w_X9_deepest_L31q, h8]
      refine n1 (nI_ge hq (by omega)) (t_areThere hm hp hq ht ?_)
      unfold mhS at hw2
      by_cases e : c 3 p = t ∧ c 3 q = t
      · rw [if_pos e] at hw2
        rw [if_pos e]
        refine n1 (by decide) (t_hateOf (by omega) (by omega) ?_)
        rw [hm.hate hp hq (by omega)]
        by_cases e2 : s < c 4 (hI p q)
        · rw [if_pos e2] at hw2
          refine n1 (i_nle.mpr e2) (t_hateOf (by omega) (by omega) ?_)
          rw [hm.hate hp hq (by omega), w_X9_deepest_b73, nI_inc]
          exact hw2
        · rw [if_neg e2] at hw2
          refine y1 (i_nlt.mp e2) ?_
          rw [w_X9_deepest_b72, w_X9_deepest_b73, nI_inc]
          exact hw2
      · rw [if_neg e] at hw2
        rw [if_neg e]
        refine y1 rfl ?_
        rw [w_X9_deepest_b72, w_X9_deepest_b73, nI_inc]
        exact hw2
theorem sim_deepest {st mt : St} (h : R st mt) (x1 : Int32) : w_X8_deepest x1 st (fun r st' => w_X9_deepest x1 mt (fun r' mt' => r = r' ∧ R st' mt')) := by
  obtain ⟨n, nL, hm, g, hn, hL, h7, h8, k8, k9⟩ := h.ctx
  unfold w_X8_deepest
  refine s_townRef ?_
  by_cases e : townF x1 = 0
  · rw [nb0 e]
    refine n1 (by decide) (s_refused rO1 ?_)
    unfold w_X9_deepest
    exact t_isTown (y2 e (t_no rO1 ⟨rfl, R_ref h rO1⟩))
  · rw [nb1 e]
    obtain ⟨t, ht, rfl⟩ := town_nI e
    refine y1 rfl (x_mostHateIn hn h7 ?_)
    unfold w_X9_deepest
    exact t_isTown (n2 e (t_deepestL hm (tn1 t ht) ⟨rfl, h⟩))
/-! both: is there a two of the town who hate so much? -/
theorem fr2_inv {σ : Type} {n : Nat} (I : (Nat → Nat → Prop) → σ → Prop) (f : Nat → Nat → σ → σ) (s0 : σ) (h0 : I (fun _ _ => False) s0)
    (hs : ∀ p q s, p < q → q < n → I (fun a b => a < b ∧ b < n ∧ (a < p ∨ (a = p ∧ b < q))) s → I (fun a b => a < b ∧ b < n ∧ (a < p ∨ (a = p ∧ b < q + 1))) (f p q s)) : I (fun a b => a < b ∧ b < n) (fr 0 n (fun p s => fr (p + 1) n (fun q s => f p q s) s) s0) := by
  have cg : ∀ (A B : Nat → Nat → Prop) (s : σ), (∀ a b, A a b ↔ B a b) → I A s → I B s := fun A B s e h => by
    have : A = B := by funext a b; exact propext (e a b)
    rw [← this]; exact h
  have key := fr_inv (fun p (s : σ) => I (fun a b => a < b ∧ b < n ∧ a < p) s) (fun p s => fr (p + 1) n (fun q s => f p q s) s) (Nat.zero_le n) (s0 := s0) (cg _ _ _ (fun a b => ⟨fun z => z.elim, fun z => by omega⟩) h0) (fun p s _ hp hI => by
    have k2 := fr_inv (fun q (s : σ) => I (fun a b => a < b ∧ b < n ∧ (a < p ∨ (a = p ∧ b < q))) s) (fun q s => f p q s) (show p + 1 ≤ n by omega) (s0 := s) (cg _ _ _ (fun a b => by constructor <;> intro z <;> omega) hI) (fun q s h1 hq hI => hs p q s (by omega) hq hI)
    exact cg _ _ _ (fun a b => by constructor <;> intro z <;> omega) k2)
  exact cg _ _ _ (fun a b => by constructor <;> intro z <;> omega) key
theorem lt_tr {a b c : Int32} (h1 : a ≤ b) (h2 : b < c) : a < c := by
  rw [Int32.lt_iff_toInt_lt] at *
  rw [Int32.le_iff_toInt_le] at h1
  omega
theorem mh_lt {n : Nat} {c : Ct} {t d : Int32} (hd : (-9) < d) : mhF n c t < d ↔ ∀ a b, (a < b ∧ b < n) → c 3 a = t ∧ c 3 b = t → c 4 (hI a b) < d := by
  refine fr2_inv (fun A (s : Int32) => s < d ↔ ∀ a b, A a b → c 3 a = t ∧ c 3 b = t → c 4 (hI a b) < d) (fun p q s => mhS c t p q s) (-9) ⟨fun _ a b z => z.elim, fun _ => hd⟩ (fun p q s hp hq hJ => ?_)
  have split : (∀ a b, (a < b ∧ b < n ∧ (a < p ∨ (a = p ∧ b < q + 1))) → c 3 a = t ∧ c 3 b = t → c 4 (hI a b) < d) ↔ ((∀ a b, (a < b ∧ b < n ∧ (a < p ∨ (a = p ∧ b < q))) → c 3 a = t ∧ c 3 b = t → c 4 (hI a b) < d) ∧ (c 3 p = t ∧ c 3 q = t → c 4 (hI p q) < d)) := by
    constructor
    · intro z
      exact ⟨fun a b y => z a b (by omega), z p q (by omega)⟩
    · intro z a b y w
      by_cases e : a = p ∧ b = q
      · obtain ⟨rfl, rfl⟩ := e; exact z.2 w
      · exact z.1 a b (by omega) w
  rw [split, ← hJ]
  unfold mhS
  by_cases e : c 3 p = t ∧ c 3 q = t
  · rw [if_pos e]
    by_cases e2 : s < c 4 (hI p q)
    · rw [if_pos e2]
      exact ⟨fun z => ⟨lt_tr (Int32.le_of_lt e2) z, fun _ => z⟩, fun z => z.2 e⟩
    · rw [if_neg e2]
      exact ⟨fun z => ⟨z, fun _ => lt_tr (i_nlt.mp e2) z⟩, fun z => z.1⟩
  · rw [if_neg e]
    exact ⟨fun z => ⟨z, fun y => absurd y e⟩, fun z => z.1⟩
theorem op_none {n : Nat} {c : Ct} {t d : Int32} (ho : hOk n c) : (opS c n t d).1 = none ↔ ∀ a b, (a < b ∧ b < n) → c 3 a = t ∧ c 3 b = t → c 4 (hI a b) < d := by
  refine (fr2_inv (fun A (s : Option (Nat × Nat) × Int32) => (s.1 = none → s.2 = 100) ∧ (s.1 = none ↔ ∀ a b, A a b → c 3 a = t ∧ c 3 b = t → c 4 (hI a b) < d)) (fun p q s => oS c t d p q s) (none, 100) ⟨fun _ => rfl, fun _ a b z => z.elim, fun _ => rfl⟩ (fun p q s hp hq hJ => ?_)).2
  have split : (∀ a b, (a < b ∧ b < n ∧ (a < p ∨ (a = p ∧ b < q + 1))) → c 3 a = t ∧ c 3 b = t → c 4 (hI a b) < d) ↔ ((∀ a b, (a < b ∧ b < n ∧ (a < p ∨ (a = p ∧ b < q))) → c 3 a = t ∧ c 3 b = t → c 4 (hI a b) < d) ∧ (c 3 p = t ∧ c 3 q = t → c 4 (hI p q) < d)) := by
    constructor
    · intro z
      exact ⟨fun a b y => z a b (by omega), z p q (by omega)⟩
    · intro z a b y w
      by_cases e : a = p ∧ b = q
      · obtain ⟨rfl, rfl⟩ := e; exact z.2 w
      · exact z.1 a b (by omega) w
  rw [split]
  obtain ⟨i1, i2⟩ := hJ
  rw [← i2]
  unfold oS
  by_cases e : c 3 p = t ∧ c 3 q = t
  · rw [if_pos e]
    by_cases e2 : c 4 (hI p q) < d
    · rw [if_pos e2]
      exact ⟨i1, fun z => ⟨z, fun _ => e2⟩, fun z => z.1⟩
    · rw [if_neg e2]
      by_cases e3 : s.2 ≤ c 4 (hI p q)
      · rw [if_pos e3]
        refine ⟨i1, fun z => ?_, fun z => z.1⟩
        rw [i1 z] at e3
        have h9 := (ho p q hp hq).2
        exact absurd (lt_tr e3 (lt_tr h9 (show (99 : Int32) < 100 by decide))) (by decide)
      · rw [if_neg e3]
        exact ⟨fun z => (by cases z), fun z => (by cases z), fun z => absurd (z.2 e) e2⟩
  · rw [if_neg e]
    exact ⟨i1, fun z => ⟨z, fun y => absurd y e⟩, fun z => z.1⟩
theorem oI_neg {n : Nat} {c : Ct} {t d : Int32} (hn : n ≤ 6) : oI (opS c n t d).1 < 0 ↔ (opS c n t d).1 = none := by
  cases e : (opS c n t d).1 with
  | none => exact ⟨fun _ => rfl, fun _ => by decide⟩
  | some pq =>
    obtain ⟨p, q⟩ := pq
    have := opS_in p q e
    exact ⟨fun z => absurd z (i_nlt.mpr (s10 p (by omega) q (by omega))), fun z => by cases z⟩
theorem can_eq {n : Nat} {c : Ct} {t d : Int32} (hn : n ≤ 6) (ho : hOk n c) (hd : (-9) < d) : mhF n c t < d ↔ oI (opS c n t d).1 < 0 := by
  rw [oI_neg hn, op_none ho, mh_lt hd]
theorem sim_can {st mt : St} (h : R st mt) (x1 : Int32) : w_X8_can x1 st (fun r st' => w_X9_can x1 mt (fun r' mt' => r = r' ∧ R st' mt')) := by
  obtain ⟨n, nL, hm, g, hn, hL, h7, h8, k8, k9⟩ := h.ctx
  unfold w_X8_can
  refine s_range ?_
  by_cases e : rangeF x1 0 99 = 0
  · rw [e]
    refine y1 rfl ?_
    obtain ⟨d, -, hd, rfl⟩ := rg_nI (a := 0) (b := 99) (by decide) (by decide) e
    have hd9 : (-9 : Int32) < nI d := lt_tr (show (-9 : Int32) ≤ -1 by decide) (i_nle.mp fun z => by
      have := Int32.le_trans (n_le0 (show d < 2147483648 by omega)) z
      exact absurd this (by decide))
    unfold w_X3_townsThatOpen
    refine lo_fr (fun m t (s : Int32) => w_X3_townsThatOpen_L4 (nI d) _ m s (nI t) st) (fun t s => if mhF n (cv st 11) (nI t) < nI d then s else s ||| ((1 : Int32) <<< (nI t &&& 31))) (fun _ _ => True) (0 : Int32) (Nat.zero_le 4) trivial (fun _ _ _ _ _ => trivial) (fun _ m => ?_) (fun m t s _ ht _ hw => ?_)
    · rw [w_X3_townsThatOpen_L4, w_X3_townsThatOpen_L4q]
      refine y1 (nI_le (Nat.le_refl 4) (by decide)) ?_
      unfold w_X9_can
      refine t_bound ?_
      rw [e]
      refine y1 rfl ?_
      refine lo_fr (fun m t (s : Int32) => w_X9_can_L23 (nI d) _ m s (nI t) mt) (fun t s => if mhF n (cv st 11) (nI t) < nI d then s else s ||| ((1 : Int32) <<< (nI t &&& 31))) (fun _ _ => True) (0 : Int32) (Nat.zero_le 4) trivial (fun _ _ _ _ _ => trivial) (fun _ m => ?_) (fun m t s _ ht _ hw => ?_)
      · rw [w_X9_can_L23, w_X9_can_L23q]
        exact y1 (nI_le (Nat.le_refl 4) (by decide)) ⟨rfl, h⟩
      · rw [w_X9_can_L23, w_X9_can_L23q]
        refine n1 (nI_ge ht (by decide)) (t_opensAt hm (tn1 t ht) ?_)
        by_cases e2 : mhF n (cv st 11) (nI t) < nI d
        · rw [if_pos e2] at hw
          refine y1 ((can_eq hn hm.2.1 hd9).mp e2) ?_
          rw [w_X9_can_b48, nI_inc, Int32.or_zero]
          exact hw
        · rw [if_neg e2] at hw
          refine n1 (fun z => e2 ((can_eq hn hm.2.1 hd9).mpr z)) ?_
          rw [w_X9_can_b48, nI_inc]
          exact hw
    · rw [w_X3_townsThatOpen_L4, w_X3_townsThatOpen_L4q]
      refine n1 (nI_ge ht (by decide)) (x_mostHateIn hn h7 ?_)
      by_cases e2 : mhF n (cv st 11) (nI t) < nI d
      · rw [if_pos e2] at hw
        refine y1 e2 ?_
        rw [w_X3_townsThatOpen_b24, nI_inc]
        exact hw
      · rw [if_neg e2] at hw
        refine n1 e2 ?_
        rw [w_X3_townsThatOpen_b24, nI_inc]
        exact hw
  · refine n1 e (s_refused (rg_ok e) ?_)
    unfold w_X9_can
    exact t_bound (n1 e (t_no (rg_ok e) ⟨rfl, R_ref h (rg_ok e)⟩))
