/-! pure part: fractions: mean, jug -/
theorem LN_toInt {k : Nat} (h : k < 9223372036854775808) : (lN k).toInt = (k : Int) := lg_ofNat_toInt h
theorem LN_eq {a b : Nat} (ha : a < 9223372036854775808) (hb : b < 9223372036854775808) : lN a = lN b ↔ a = b := by
  constructor
  · intro h
    have := congrArg Int64.toInt h
    rw [LN_toInt ha, LN_toInt hb] at this
    omega
  · intro h; rw [h]
theorem LN_div {k m : Nat} (hk : k < 9223372036854775808) (hm : m < 9223372036854775808) : lN k / lN m = lN (k / m) := by
  have hq : k / m < 9223372036854775808 := Nat.lt_of_le_of_lt (Nat.div_le_self k m) hk
  refine Int64.toInt_inj.mp ?_
  rw [Int64.toInt_div_of_ne_left _ _ (fun z => ?_), LN_toInt hk, LN_toInt hm, LN_toInt hq]
  · rfl
  · have := LN_toInt hk
    rw [z] at this
    have e : (Int64.minValue).toInt = -9223372036854775808 := by decide
    omega
theorem LN_mod {k m : Nat} (hk : k < 9223372036854775808) (hm : m < 9223372036854775808) : lN k - lN k / lN m * lN m = lN (k % m) := by
  rw [LN_div hk hm, lN_mul, lN_sub (Nat.div_mul_le_self k m)]
  congr 1
  have := Nat.div_add_mod k m
  rw [Nat.mul_comm] at this
  omega
theorem LN_cmp0 {k : Nat} (hk : k < 9223372036854775808) : lg_cmp (lN k) 0 = 0 ↔ k = 0 := by
  have z0 : (0 : Int64).toInt = 0 := by decide
  unfold lg_cmp
  by_cases h : k = 0
  · subst h
    exact ⟨fun _ => rfl, fun _ => by decide⟩
  · have : lN k > 0 := Int64.lt_iff_toInt_lt.mpr (by rw [LN_toInt hk, z0]; omega)
    rw [if_pos this]
    exact ⟨fun z => absurd z (by decide), fun z => absurd z h⟩
theorem LN_cmp1 {k : Nat} (hk : k < 9223372036854775808) (h : 0 < k) : ¬ lg_cmp (lN k) 0 ≤ 0 := by
  have z0 : (0 : Int64).toInt = 0 := by decide
  unfold lg_cmp
  have : lN k > 0 := Int64.lt_iff_toInt_lt.mpr (by rw [LN_toInt hk, z0]; omega)
  rw [if_pos this]
  decide
theorem LN_ne0 {k : Nat} (hk : k < 9223372036854775808) (h : 0 < k) : ¬ lN k = 0 := fun z => by
  have := (LN_eq (b := 0) hk (by decide)).mp z
  omega
def eu : Nat → Nat → Nat → Nat
  | 0, x, _ => x
  | d + 1, x, y => if y = 0 then x else eu d y (x % y)
theorem eu_0 (d x : Nat) : eu d x 0 = x := by
  cases d with
  | zero => rfl
  | succ d => exact if_pos rfl
theorem gcd_mod (x y : Nat) : Nat.gcd x y = Nat.gcd y (x % y) := by
  rw [Nat.gcd_comm x y, Nat.gcd_rec y x, Nat.gcd_comm]
theorem eu_gcd : ∀ k d x y, y < 2 ^ k → 2 * k ≤ d → eu d x y = Nat.gcd x y
  | 0, d, x, y, h, _ => by
    have : y = 0 := by rw [Nat.pow_zero] at h; omega
    subst this
    rw [eu_0, Nat.gcd_zero_right]
  | k + 1, d, x, y, h, hd => by
    obtain ⟨d', rfl⟩ : ∃ d', d = d' + 2 := ⟨d - 2, by omega⟩
    by_cases hy : y = 0
    · subst hy
      rw [eu_0, Nat.gcd_zero_right]
    · rw [show d' + 2 = (d' + 1) + 1 by omega, eu, if_neg hy]
      by_cases hr : x % y = 0
      · rw [hr, eu_0, gcd_mod x y, hr, Nat.gcd_zero_right]
      · rw [eu, if_neg hr]
        have r1 : x % y < y := Nat.mod_lt _ (by omega)
        have r2 : y % (x % y) < x % y := Nat.mod_lt _ (by omega)
        have r3 := Nat.div_add_mod y (x % y)
        have r4 : 1 ≤ y / (x % y) := (Nat.one_le_div_iff (by omega)).mpr (by omega)
        have r5 : x % y ≤ (x % y) * (y / (x % y)) := Nat.le_mul_of_pos_right _ r4
        have r6 : y % (x % y) < 2 ^ k := by
          rw [Nat.pow_succ] at h
          omega
        rw [eu_gcd k d' (x % y) (y % (x % y)) r6 (by omega), gcd_mod x y, gcd_mod y (x % y)]
theorem x_divisor {st : St} {a b : Nat} {K : Int64 → St → Prop} (ha : a < 9223372036854775808) (hb : b < 2 ^ 50) (h : K (lN (Nat.gcd a b)) st) : w_X0_commonDivisor (lN a) (lN b) st K := by
  unfold w_X0_commonDivisor
  refine lo_rel (fun m i (s : Nat × Nat) => w_X0_commonDivisor_L9 (lN a) (lN b) K m (lN s.1) (lN s.2) (nI i) st) (fun i s => s.1 < 9223372036854775808 ∧ s.2 < 9223372036854775808 ∧ eu (100 - i) s.1 s.2 = Nat.gcd a b) (a, b) (Nat.zero_le 100) ⟨ha, Nat.lt_trans hb (by decide), eu_gcd 50 100 a b hb (by decide)⟩ (fun s hI m => ?_) (fun m i s _ hi hI hk => ?_)
  · obtain ⟨i1, i2, i3⟩ := hI
    rw [w_X0_commonDivisor_L9, w_X0_commonDivisor_L9q]
    refine y1 (nI_le (Nat.le_refl 100) (by decide)) ?_
    rw [Nat.sub_self] at i3
    have : s.1 = Nat.gcd a b := i3
    rw [this]
    exact h
  · obtain ⟨i1, i2, i3⟩ := hI
    rw [w_X0_commonDivisor_L9, w_X0_commonDivisor_L9q]
    refine n1 (nI_ge hi (by decide)) ?_
    by_cases e : s.2 = 0
    · refine y1 ((LN_cmp0 i2).mpr e) ?_
      rw [e, eu_0] at i3
      rw [i3]
      exact h
    · refine n1 (fun z => e ((LN_cmp0 i2).mp z)) ⟨LN_ne0 i2 (by omega), ?_⟩
      rw [LN_mod i1 i2, nI_inc]
      have e2 : 100 - i = (100 - (i + 1)) + 1 := by omega
      rw [e2, eu, if_neg e] at i3
      exact hk (s.2, s.1 % s.2) ⟨i2, Nat.lt_trans (Nat.mod_lt _ (by omega)) i2, i3⟩
theorem t_divisor {st : St} {a b : Nat} {K : Int64 → St → Prop} (ha : a < 9223372036854775808) (hb : b < 9223372036854775808) (h : K (lN (Nat.gcd a b)) st) : w_X9_divisor (lN a) (lN b) st K := by
  unfold w_X9_divisor
  have key : ∀ y x, x < 9223372036854775808 → y < 9223372036854775808 → Nat.gcd x y = Nat.gcd a b → ∃ n, w_X9_divisor_L6 (lN a) (lN b) K n (lN x) (lN y) st := by
    intro y
    induction y using Nat.strongRecOn with
    | _ y ih =>
      intro x hx hy hg
      by_cases e : y = 0
      · subst e
        refine ⟨1, ?_⟩
        rw [w_X9_divisor_L6, w_X9_divisor_L6q]
        refine y1 ((LN_cmp0 hy).mpr rfl) ?_
        rw [Nat.gcd_zero_right] at hg
        rw [hg]
        exact h
      · obtain ⟨n, hn⟩ := ih (x % y) (Nat.mod_lt _ (by omega)) y hy (Nat.lt_trans (Nat.mod_lt _ (by omega)) hy) (by rw [← gcd_mod]; exact hg)
        refine ⟨n + 1, ?_⟩
        rw [w_X9_divisor_L6, w_X9_divisor_L6q]
        refine n1 (fun z => e ((LN_cmp0 hy).mp z)) ⟨LN_ne0 hy (by omega), ?_⟩
        rw [LN_mod hx hy]
        exact hn
  exact key b a ha hb rfl
theorem x_part {st : St} {a b : Nat} {x : Int32} {K : Int64 → St → Prop} (ha : a < 9223372036854775808) (hb : b < 2 ^ 50) (hb0 : 0 < b) (h : K ((if x = 0 then lN a else lN b) / lN (Nat.gcd a b)) st) : w_X0_part (lN a) (lN b) x st K := by
  have g0 : 0 < Nat.gcd a b := Nat.gcd_pos_of_pos_right a hb0
  have gb : Nat.gcd a b < 9223372036854775808 := Nat.lt_of_le_of_lt (Nat.le_of_dvd hb0 (Nat.gcd_dvd_right a b)) (Nat.lt_trans hb (by decide))
  unfold w_X0_part
  refine x_divisor ha hb ⟨fun z => ?_, fun z => ?_⟩
  · rw [if_neg z] at h
    rw [w_X0_part_b17]
    exact n1 (LN_cmp1 gb g0) ⟨LN_ne0 gb g0, h⟩
  · rw [if_pos z] at h
    rw [w_X0_part_b17]
    exact n1 (LN_cmp1 gb g0) ⟨LN_ne0 gb g0, h⟩
theorem t_partOf {st : St} {a b : Nat} {x : Int32} {K : Int64 → St → Prop} (ha : a < 9223372036854775808) (hb : b < 9223372036854775808) (hb0 : 0 < b) (h : K ((if x = 0 then lN a else lN b) / lN (Nat.gcd a b)) st) : w_X9_partOf (lN a) (lN b) x st K := by
  have g0 : 0 < Nat.gcd a b := Nat.gcd_pos_of_pos_right a hb0
  have gb : Nat.gcd a b < 9223372036854775808 := Nat.lt_of_le_of_lt (Nat.le_of_dvd hb0 (Nat.gcd_dvd_right a b)) hb
  unfold w_X9_partOf
  refine ⟨fun z => ?_, fun z => ?_⟩
  · rw [if_neg z] at h
    rw [w_X9_partOf_b10]
    exact t_divisor ha hb ⟨LN_ne0 gb g0, h⟩
  · rw [if_pos z] at h
    rw [w_X9_partOf_b10]
    exact t_divisor ha hb ⟨LN_ne0 gb g0, h⟩
theorem all_nI {n : Nat} {c : Ct} (hn : n ≤ 6) (ho : hOk n c) : ∃ A, A ≤ 3564 ∧ allF n c = nI A := by
  have := fr_inv (fun i (s : Int32) => ∃ A, A ≤ 594 * i ∧ s = nI A) (fun p s => fr (p + 1) n (fun q (s : Int32) => s + c 4 (hI p q)) s) (Nat.zero_le n) (s0 := (0 : Int32)) ⟨0, Nat.le_refl 0, rfl⟩ (fun p s _ hp hs => ?_)
  · obtain ⟨A, h1, h2⟩ := this
    exact ⟨A, by omega, h2⟩
  · have k := fr_inv (fun q (s : Int32) => ∃ A, A ≤ 594 * p + 99 * q ∧ s = nI A) (fun q (s : Int32) => s + c 4 (hI p q)) (show p + 1 ≤ n by omega) (s0 := s) (by
      obtain ⟨A, h1, h2⟩ := hs
      exact ⟨A, by omega, h2⟩) (fun q s h1 hq hs => by
      obtain ⟨A, a1, rfl⟩ := hs
      obtain ⟨d, hd, e⟩ := hOk_nI ho hp hq (by omega)
      exact ⟨A + d, by omega, by rw [e, nI_add]⟩)
    obtain ⟨A, h1, h2⟩ := k
    exact ⟨A, by omega, h2⟩
theorem twos : ∀ n, n < 7 → (if 1 < ((nI n * (nI n - 1)) / 2) then ((nI n * (nI n - 1)) / 2) else 1) = nI (if n < 2 then 1 else n * (n - 1) / 2) := by decide +kernel
theorem twos2 : ∀ n, n < 7 → 2 ≤ n → (nI n * (nI n - 1)) / 2 = nI (n * (n - 1) / 2) ∧ 0 < n * (n - 1) / 2 ∧ n * (n - 1) / 2 < 16 := by decide +kernel
theorem all_small {n : Nat} {c : Ct} (hn : n < 2) : allF n c = 0 := by
  have : n = 0 ∨ n = 1 := by omega
  rcases this with rfl | rfl <;> rfl
theorem sim_mean {st mt : St} (h : R st mt) (x1 : Int32) : w_X8_mean x1 st (fun r st' => w_X9_mean x1 mt (fun r' mt' => r = r' ∧ R st' mt')) := by
  obtain ⟨n, nL, hm, g, hn, hL, h7, h8, k8, k9⟩ := h.ctx
  unfold w_X8_mean
  refine s_choice ?_
  by_cases e : inF x1 0 1 = 0
  · rw [ch_out e]
    refine n1 (by decide) (s_refused rO2 ?_)
    unfold w_X9_mean
    exact t_isIn' (y2 e (t_lowestOf rO2 ⟨rfl, R_ref h rO2⟩))
  · rw [ch_in e]
    refine y1 rfl ?_
    unfold w_X1_keeperCount
    rw [h7]
    refine x_allHate hn h7 ?_
    rw [twos n (by omega)]
    obtain ⟨A, hA, eA⟩ := all_nI hn hm.2.1
    by_cases hs : n < 2
    · have eA0 : nI A = nI 0 := eA.symm.trans (all_small hs)
      rw [eA, eA0, if_pos hs, nI_l (show 0 < 2 ^ 31 by decide), nI_l (show 1 < 2 ^ 31 by decide)]
      refine x_part (by decide) (by decide) (by decide) ?_
      unfold w_X9_mean
      refine t_isIn' (n2 e ?_)
      rw [k8]
      refine n1 (fun z => absurd ((nJ_le (a := 2) (by decide) (by omega)).mp z) (by omega)) ⟨?_, h⟩
      obtain ⟨i, hi, rfl⟩ := in_nI (g := 1) (by decide) e
      have : i = 0 ∨ i = 1 := by omega
      rcases this with rfl | rfl <;> decide
    · obtain ⟨t1, t2, t3⟩ := twos2 n (by omega) (by omega)
      rw [eA, if_neg hs, nI_l (show A < 2 ^ 31 by omega), nI_l (show n * (n - 1) / 2 < 2 ^ 31 by omega)]
      refine x_part (by omega) (Nat.lt_trans t3 (by decide)) t2 ?_
      unfold w_X9_mean
      refine t_isIn' (n2 e ?_)
      rw [k8]
      refine y1 (nI_le (show 2 ≤ n by omega) (by omega)) (t_allHate hm ?_)
      rw [k8, t1, eA, nI_l (show A < 2 ^ 31 by omega), nI_l (show n * (n - 1) / 2 < 2 ^ 31 by omega)]
      exact t_partOf (by omega) (by omega) t2 ⟨rfl, h⟩
/-! powers, ways -/
theorem x_power {st : St} {t e : Nat} {K : Int64 → St → Prop} (ht : t < 2147483648) (he : e < 2147483648) (h : K (lN (t ^ e)) st) : w_X0_power (nI t) (nI e) st K := by
  unfold w_X0_power
  refine lo_rel (fun m i (v : Int64) => w_X0_power_L5 (nI t) (nI e) K m v (nI i) st) (fun i v => v = lN (t ^ i)) (1 : Int64) (Nat.zero_le e) rfl (fun v ev m => ?_) (fun m i v _ hi ev hk => ?_)
  · rw [w_X0_power_L5, w_X0_power_L5q, ev]
    exact y1 (nI_le (Nat.le_refl e) he) h
  · rw [w_X0_power_L5, w_X0_power_L5q, ev]
    refine n1 (nI_ge hi he) ?_
    rw [nI_l (show t < 2 ^ 31 from ht), lN_mul, nI_inc]
    exact hk _ (by rw [Nat.pow_succ])
theorem t_power {st : St} {t e : Nat} {K : Int64 → St → Prop} (ht : t < 2147483648) (he : e < 2147483648) (h : K (lN (t ^ e)) st) : w_X9_power (nI t) (nI e) st K := by
  unfold w_X9_power
  refine lo_rel (fun m i (v : Int64) => w_X9_power_L5 (nI t) (nI e) K m v (nI i) st) (fun i v => v = lN (t ^ i)) (1 : Int64) (Nat.zero_le e) rfl (fun v ev m => ?_) (fun m i v _ hi ev hk => ?_)
  · rw [w_X9_power_L5, w_X9_power_L5q, ev]
    exact y1 (nI_le (Nat.le_refl e) he) h
  · rw [w_X9_power_L5, w_X9_power_L5q, ev]
    refine n1 (nI_ge hi he) ?_
    rw [nI_l (show t < 2 ^ 31 from ht), lN_mul, nI_inc]
    exact hk _ (by rw [Nat.pow_succ])
def zrF (n b : Nat) : Nat := fr 0 n (fun k z => if b.testBit k then z else z + 1) 0
theorem zr_pc : ∀ n, n < 9 → ∀ b, b < 256 → b < 2 ^ n → zrF n b = n - pc b ∧ pc b ≤ n := by decide +kernel
theorem t_partsOf {st : St} {n b t : Nat} {K : Int64 → St → Prop} (hn : n ≤ 8) (hb : b < 2 ^ n) (ht : t < 2147483648) (h1 : 1 ≤ t) (h : K (lN ((t - 1) ^ (n - pc b))) st) : w_X9_partsOf (nI b) (nI n) (nI t) st K := by
  have hb8 : b < 256 := Nat.lt_of_lt_of_le hb (Nat.pow_le_pow_right (by decide) hn : 2 ^ n ≤ 2 ^ 8)
  unfold w_X9_partsOf
  have et : nI t - 1 = nI (t - 1) := nI_sub' (b := 1) h1
  refine lo_rel (fun m i (v : Int64) => w_X9_partsOf_L5 (nI b) (nI n) (nI t) K m v (nI i) st) (fun i v => v = lN ((t - 1) ^ zrF i b)) (1 : Int64) (Nat.zero_le n) rfl (fun v ev m => ?_) (fun m i v _ hi ev hk => ?_)
  · rw [w_X9_partsOf_L5, w_X9_partsOf_L5q, ev, (zr_pc n (by omega) b hb8 hb).1]
    exact y1 (nI_le (Nat.le_refl n) (by omega)) h
  · rw [w_X9_partsOf_L5, w_X9_partsOf_L5q, ev, et]
    have es : zrF (i + 1) b = if b.testBit i then zrF i b else zrF i b + 1 := fr_succ (Nat.zero_le i) _ _
    refine n1 (nI_ge hi (by omega)) (t_hasN hb8 (by omega) ?_)
    cases e : b.testBit i with
    | true =>
      rw [if_pos rfl]
      refine n1 (by decide) ?_
      rw [w_X9_partsOf_b29, nI_inc]
      refine hk _ ?_
      rw [es, e, if_pos rfl]
      exact Int64.mul_one _
    | false =>
      rw [if_neg (by decide)]
      refine y1 rfl ?_
      rw [w_X9_partsOf_b29, nI_inc]
      refine hk _ ?_
      rw [es, e, if_neg (by decide), nI_l (show t - 1 < 2 ^ 31 by omega), lN_mul, Nat.pow_succ]
theorem sh8 : ∀ n, n < 9 → (1 : Int32) <<< (nI n &&& 31) = nI (2 ^ n) := by decide +kernel
theorem pw8 {n : Nat} (hn : n ≤ 8) : 2 ^ n ≤ 256 := (Nat.pow_le_pow_right (by decide) hn : 2 ^ n ≤ 2 ^ 8)
theorem pc8 : ∀ b, b < 256 → pc b < 9 := by decide +kernel
/-- the sum of ways over sets -/
def upF (n t e : Nat) (P : Nat → Bool) : Nat := fr 0 e (fun b s => if P b then s + (t - 1) ^ (n - pc b) else s) 0
theorem c198 : (19 : Nat) ^ 8 = 16983563041 := by decide
theorem up_le {n t e M : Nat} {P : Nat → Bool} (hn : n ≤ 8) (ht : t ≤ 20) (hM : 19 ^ 8 ≤ M) : upF n t e P ≤ e * M :=
  fr_inv (fun i (s : Nat) => s ≤ i * M) (fun b s => if P b then s + (t - 1) ^ (n - pc b) else s) (Nat.zero_le e) (s0 := 0) (Nat.zero_le _) (fun i s _ _ hs => by
    have p1 : (t - 1) ^ (n - pc i) ≤ M := Nat.le_trans (Nat.le_trans (Nat.pow_le_pow_left (show t - 1 ≤ 19 by omega) _) (Nat.pow_le_pow_right (by decide) (Nat.le_trans (Nat.sub_le _ _) hn))) hM
    show (if P i then s + (t - 1) ^ (n - pc i) else s) ≤ (i + 1) * M
    rw [Nat.succ_mul]
    split
    · exact Nat.add_le_add hs p1
    · exact Nat.le_trans hs (Nat.le_add_right _ _))
theorem up_lt {n t e : Nat} {P : Nat → Bool} (hn : n ≤ 8) (ht : t ≤ 20) (he : e ≤ 256) : upF n t e P < 9223372036854775808 :=
  Nat.lt_of_le_of_lt (Nat.le_trans (up_le (M := 16983563041) hn ht (Nat.le_of_eq c198)) (Nat.mul_le_mul_right 16983563041 he)) (by decide)
theorem x_ways {st : St} {n t : Nat} {x2 : Int32} {K : Int64 → St → Prop} (hn : n ≤ 8) (ht : t ≤ 20) (h1 : 1 ≤ t) (h : K (lN (upF n t (2 ^ n) (fun b => decide (¬ nI (pc b) < x2)))) st) : w_X0_ways (nI n) x2 (nI t) st K := by
  have p8 := pw8 hn
  have et : nI t - 1 = nI (t - 1) := nI_sub' (b := 1) h1
  unfold w_X0_ways
  refine lo_rel (fun m b (v : Int64) => w_X0_ways_L5 (nI n) x2 (nI t) K m v (nI b) st) (fun b v => v = lN (upF n t b (fun b => decide (¬ nI (pc b) < x2)))) (0 : Int64) (Nat.zero_le (2 ^ n)) rfl (fun v ev m => ?_) (fun m b v _ hb ev hk => ?_)
  · rw [w_X0_ways_L5, w_X0_ways_L5q, sh8 n (by omega), ev]
    exact y1 (nI_le (Nat.le_refl _) (by omega)) h
  · rw [w_X0_ways_L5, w_X0_ways_L5q, sh8 n (by omega), ev]
    have hpc := (zr_pc n (by omega) b (by omega) hb).2
    have es : upF n t (b + 1) (fun b => decide (¬ nI (pc b) < x2)) = if decide (¬ nI (pc b) < x2) then upF n t b (fun b => decide (¬ nI (pc b) < x2)) + (t - 1) ^ (n - pc b) else upF n t b (fun b => decide (¬ nI (pc b) < x2)) := fr_succ (Nat.zero_le b) _ _
    refine n1 (nI_ge hb (by omega)) (s_bitCount (by omega) ?_)
    by_cases e : nI (pc b) < x2
    · refine y1 e ?_
      rw [w_X0_ways_b38, nI_inc]
      refine hk _ ?_
      rw [es, if_neg (by simpa using e)]
    · refine n1 e (s_bitCount (by omega) ?_)
      rw [et, nI_sub' hpc]
      refine x_power (by omega) (by omega) ?_
      rw [w_X0_ways_b38, nI_inc]
      refine hk _ ?_
      rw [es, if_pos (by simpa using e), lN_add]
theorem t_jugL {st : St} {n t : Nat} {x2 x4 : Int32} {K : Int64 → St → Prop} (hn : n ≤ 8) (ht : t ≤ 20) (h1 : 1 ≤ t) (h : w_X9_jug_b116 (nI n) x2 (nI t) x4 K (lN (upF n t (2 ^ n) (fun b => decide (¬ nI (pc b) < x2)))) st) : ∃ m, w_X9_jug_L77 (nI n) x2 (nI t) x4 K m 0 0 st := by
  have p8 := pw8 hn
  refine lo_rel (fun m b (v : Int64) => w_X9_jug_L77 (nI n) x2 (nI t) x4 K m v (nI b) st) (fun b v => v = lN (upF n t b (fun b => decide (¬ nI (pc b) < x2)))) (0 : Int64) (Nat.zero_le (2 ^ n)) rfl (fun v ev m => ?_) (fun m b v _ hb ev hk => ?_)
  · rw [w_X9_jug_L77, w_X9_jug_L77q, sh8 n (by omega), ev]
    exact y1 (nI_le (Nat.le_refl _) (by omega)) h
  · rw [w_X9_jug_L77, w_X9_jug_L77q, sh8 n (by omega), ev]
    have es : upF n t (b + 1) (fun b => decide (¬ nI (pc b) < x2)) = if decide (¬ nI (pc b) < x2) then upF n t b (fun b => decide (¬ nI (pc b) < x2)) + (t - 1) ^ (n - pc b) else upF n t b (fun b => decide (¬ nI (pc b) < x2)) := fr_succ (Nat.zero_le b) _ _
    refine n1 (nI_ge hb (by omega)) (t_bits (by omega) ?_)
    by_cases e : nI (pc b) < x2
    · refine y1 e ?_
      rw [w_X9_jug_b107, nI_inc]
      refine hk _ ?_
      rw [es, if_neg (by simpa using e)]
      exact Int64.add_zero _
    · refine n1 e (t_partsOf hn hb (by omega) h1 ?_)
      rw [w_X9_jug_b107, nI_inc]
      refine hk _ ?_
      rw [es, if_pos (by simpa using e), lN_add]
theorem pow50 {n t : Nat} (hn : n ≤ 8) (ht : t ≤ 20) : t ^ n < 2 ^ 50 := Nat.lt_of_le_of_lt (Nat.le_trans (Nat.pow_le_pow_left ht n) (Nat.pow_le_pow_right (by decide) hn)) (by decide)
theorem i2le {x : Int32} {a b : Nat} (ha : a < 2147483648) (hb : b < 2147483648) (h1 : nI a ≤ x) (h2 : x ≤ nI b) : ∃ i, a ≤ i ∧ i ≤ b ∧ x = nI i := rg_nI ha hb (by unfold rangeF; rw [if_neg (i_nlt.mpr h1), if_neg (i_nlt.mpr h2)])
theorem sim_jug {st mt : St} (h : R st mt) (x1 x2 x3 x4 : Int32) : w_X8_jug x1 x2 x3 x4 st (fun r st' => w_X9_jug x1 x2 x3 x4 mt (fun r' mt' => r = r' ∧ R st' mt')) := by
  -- the class's last test, and what it refuses
  have fin : ∀ (v s r : Int32), (∀ c : Int32, firstF v s c = r) → ¬ r = 0 → rOk r → (∀ K : Int64 → St → Prop, K (4000000000000000000 - r.toInt64) (refS mt r) → w_X9_jug x1 x2 x3 x4 mt K) → w_X8_jug_b45 x1 x2 x3 x4 (fun r st' => w_X9_jug x1 x2 x3 x4 mt (fun r' mt' => r = r' ∧ R st' mt')) v s st := fun v s r e1 e2 e3 hc => by
    rw [w_X8_jug_b45]
    refine s_choice (s_firstOf ?_)
    rw [e1]
    exact n1 e2 (s_refused e3 (hc _ ⟨rfl, R_ref h e3⟩))
  by_cases A : x1 < 0 ∨ x2 < 0 ∨ ¬ 2 ≤ x3
  · have chk : ∀ K : Int64 → St → Prop, K (4000000000000000000 - (-4 : Int32).toInt64) (refS mt (-4)) → w_X9_jug x1 x2 x3 x4 mt K := fun K hK => by
      have b13 : w_X9_jug_b13 x1 x2 x3 x4 K mt := by
        rw [w_X9_jug_b13, w_X9_jug_b57]
        exact n1 (by decide) (t_lowestOf rO4 hK)
      unfold w_X9_jug
      refine ⟨fun _ => b13, fun z1 => ⟨fun _ => b13, fun z2 => ⟨fun z3 => ?_, fun _ => b13⟩⟩⟩
      exact absurd z3 ((A.resolve_left z1).resolve_left z2)
    have b13 : w_X8_jug_b13 x1 x2 x3 x4 (fun r st' => w_X9_jug x1 x2 x3 x4 mt (fun r' mt' => r = r' ∧ R st' mt')) st := by
      have f : ∀ s, w_X8_jug_b45 x1 x2 x3 x4 (fun r st' => w_X9_jug x1 x2 x3 x4 mt (fun r' mt' => r = r' ∧ R st' mt')) (-4) s st := fun s => fin (-4) s (-4) (fun c => rfl) (by decide) rO4 chk
      rw [w_X8_jug_b13, w_X8_jug_b19]
      exact ⟨fun _ => by rw [w_X8_jug_b39]; exact f _, fun _ => ⟨fun _ => by rw [w_X8_jug_b39]; exact f _, fun _ => ⟨fun _ => f _, fun _ => by rw [w_X8_jug_b39]; exact f _⟩⟩⟩
    unfold w_X8_jug
    refine ⟨fun _ => b13, fun z1 => ⟨fun _ => b13, fun z2 => ⟨fun z3 => ?_, fun _ => b13⟩⟩⟩
    exact absurd z3 ((A.resolve_left z1).resolve_left z2)
  · have a1 : ¬ x1 < 0 := fun z => A (Or.inl z)
    have a2 : ¬ x2 < 0 := fun z => A (Or.inr (Or.inl z))
    have a3 : 2 ≤ x3 := Classical.not_not.mp fun z => A (Or.inr (Or.inr z))
    unfold w_X8_jug
    refine n1 a1 (n1 a2 (y1 a3 ?_))
    rw [w_X8_jug_b19]
    by_cases B : 8 < x1 ∨ 8 < x2 ∨ ¬ x3 ≤ 20
    · have chk : ∀ K : Int64 → St → Prop, K (4000000000000000000 - (-6 : Int32).toInt64) (refS mt (-6)) → w_X9_jug x1 x2 x3 x4 mt K := fun K hK => by
        have b36 : w_X9_jug_b36 x1 x2 x3 x4 K mt := by
          rw [w_X9_jug_b36, w_X9_jug_b57]
          exact n1 (by decide) (t_lowestOf rO6 hK)
        unfold w_X9_jug
        refine n1 a1 (n1 a2 (y1 a3 ⟨fun _ => b36, fun z1 => ⟨fun _ => b36, fun z2 => ⟨fun z3 => ?_, fun _ => b36⟩⟩⟩))
        exact absurd z3 ((B.resolve_left z1).resolve_left z2)
      have b39 : w_X8_jug_b39 x1 x2 x3 x4 (fun r st' => w_X9_jug x1 x2 x3 x4 mt (fun r' mt' => r = r' ∧ R st' mt')) 0 st := by
        rw [w_X8_jug_b39]
        exact fin 0 (-6) (-6) (fun c => rfl) (by decide) rO6 chk
      refine ⟨fun _ => b39, fun z1 => ⟨fun _ => b39, fun z2 => ⟨fun z3 => ?_, fun _ => b39⟩⟩⟩
      exact absurd z3 ((B.resolve_left z1).resolve_left z2)
    · have b1 : ¬ 8 < x1 := fun z => B (Or.inl z)
      have b2 : ¬ 8 < x2 := fun z => B (Or.inr (Or.inl z))
      have b3 : x3 ≤ 20 := Classical.not_not.mp fun z => B (Or.inr (Or.inr z))
      refine n1 b1 (n1 b2 (y1 b3 ?_))
      by_cases e : inF x4 0 1 = 0
      · rw [w_X8_jug_b45]
        refine s_choice (s_firstOf ?_)
        rw [ch_out e, f00]
        refine n1 (by decide) (s_refused rO2 ?_)
        unfold w_X9_jug
        refine n1 a1 (n1 a2 (y1 a3 (n1 b1 (n1 b2 (y1 b3 (t_isIn' (y2 e ?_)))))))
        rw [w_X9_jug_b57]
        exact n1 (by decide) (t_lowestOf rO2 ⟨rfl, R_ref h rO2⟩)
      · rw [w_X8_jug_b45]
        refine s_choice (s_firstOf ?_)
        rw [ch_in e, f00]
        obtain ⟨n, -, hn, rfl⟩ := i2le (a := 0) (b := 8) (by decide) (by decide) (i_nlt.mp a1) (i_nlt.mp b1)
        obtain ⟨t, ht1, ht, rfl⟩ := i2le (a := 2) (b := 20) (by decide) (by decide) a3 b3
        have p0 : 0 < t ^ n := Nat.pow_pos (by omega)
        have ul := up_lt (n := n) (t := t) (e := 2 ^ n) (P := fun b => decide (¬ nI (pc b) < x2)) hn ht (pw8 hn)
        refine y1 rfl (x_ways hn ht (by omega) (x_power (by omega) (by omega) (x_part ul (pow50 hn ht) p0 ?_)))
        unfold w_X9_jug
        refine n1 a1 (n1 a2 (y1 a3 (n1 b1 (n1 b2 (y1 b3 (t_isIn' (n2 e ?_)))))))
        rw [w_X9_jug_b57]
        refine y1 rfl (t_jugL hn ht (by omega) ?_)
        rw [w_X9_jug_b116]
        exact t_power (by omega) (by omega) (t_partOf ul (Nat.lt_trans (pow50 hn ht) (by decide)) p0 ⟨rfl, h⟩)
