/-! pure part: the check's country against the class's -/
theorem m_hI : ∀ p, p < 6 → ∀ q, q < 6 → (6 * nI p) + nI q = nI (6 * p + q) := by decide +kernel
theorem clI {i n : Nat} (h : i < n) (hn : n < 2147483648) : (nI i).toNatClampNeg = i := nI_clamp (show i < 2 ^ 31 by omega)
theorem t_hateOf {mt : St} {p q : Nat} {K : Int32 → St → Prop} (hp : p < 6) (hq : q < 6) (h : K (mt 5 (6 * p + q)) mt) : w_X9_hateOf (nI p) (nI q) mt K := by
  unfold w_X9_hateOf
  rw [m_hI p hp q hq, clI (show 6 * p + q < 36 by omega) (by decide)]
  exact ⟨vp_in_nI (by omega) (by decide), h⟩
def setsF (mt : St) (p q : Nat) (v : Int32) : St := u2 (u2 mt 5 (6 * p + q) v) 5 (6 * q + p) v
theorem t_sets {mt : St} {p q : Nat} {v : Int32} {K : St → Prop} (hp : p < 6) (hq : q < 6) (h : K (setsF mt p q v)) : w_X9_sets (nI p) (nI q) v mt K := by
  unfold w_X9_sets
  rw [m_hI p hp q hq, m_hI q hq p hp, clI (show 6 * p + q < 36 by omega) (by decide), clI (show 6 * q + p < 36 by omega) (by decide)]
  exact ⟨vp_in_nI (by omega) (by decide), vp_in_nI (by omega) (by decide), h⟩
def hlF (v a b : Int32) : Int32 := if v < a then a else if b < v then b else v
theorem t_held {v a b : Int32} {mt : St} {K : Int32 → St → Prop} (h : K (hlF v a b) mt) : w_X9_held v a b mt K := by
  unfold w_X9_held
  unfold hlF at h
  refine ⟨fun h1 => ⟨fun h2 => ?_, fun h2 => ?_⟩, fun h1 => ?_⟩
  · rw [if_neg (i_nlt.mpr h1), if_neg (i_nlt.mpr h2)] at h; exact h
  · rw [if_neg (i_nlt.mpr h1), if_pos (i_nle.mp h2)] at h; exact h
  · rw [if_pos (i_nle.mp h1)] at h; exact h
theorem hlF_held (v : Int32) : hlF v 0 99 = heldF v := by
  unfold hlF heldF
  have a0 : (0 : Int32).toInt = 0 := by decide
  have a9 : (99 : Int32).toInt = 99 := by decide
  simp only [Int32.lt_iff_toInt_lt]
  by_cases h1 : v.toInt < 99
  · rw [if_pos (by omega : v.toInt < (99 : Int32).toInt)]
    by_cases h2 : v.toInt < 0
    · rw [if_pos (by omega), if_neg (by omega)]
    · by_cases h3 : v.toInt = 0
      · rw [if_neg (by omega), if_neg (by omega), if_neg (by omega)]
        exact Int32.toInt_inj.mp (by omega)
      · rw [if_neg (by omega), if_neg (by omega), if_pos (by omega)]
  · rw [if_neg (by omega : ¬ v.toInt < (99 : Int32).toInt), if_pos (show (0 : Int32).toInt < (99 : Int32).toInt by omega), if_neg (by omega)]
    by_cases h2 : 99 < v.toInt
    · rw [if_pos (by omega)]
    · rw [if_neg (by omega)]
      exact Int32.toInt_inj.mp (by omega)
def hasB (x : Int32) (p : Nat) : Prop := ((x >>> (nI p &&& 31)) &&& 1) = 1
theorem t_has {x : Int32} {p : Nat} {mt : St} {K : Int32 → St → Prop} (h1 : hasB x p → K 1 mt) (h0 : ¬ hasB x p → K 0 mt) : w_X9_has x (nI p) mt K := ⟨h0, h1⟩
theorem t_fadesOf {mt : St} {p : Nat} {K : Int32 → St → Prop} (hp : p < 6) (h : K (fadingF (mt 2 p) (mt 3 p)) mt) : w_X9_fadesOf (nI p) mt K := by
  unfold w_X9_fadesOf
  have hi : vp_in (nI p) 6 := vp_in_nI hp (by decide)
  rw [clI hp (by decide)]
  refine ⟨hi, ⟨fun h1 => ?_, fun h1 => ⟨fun h2 => ?_, fun h2 => ⟨fun h3 => ⟨hi, ?_⟩, fun h3 => ⟨fun h4 => ?_, fun h4 => ⟨fun h5 => ?_, fun h5 => ?_⟩⟩⟩⟩⟩⟩ <;> simpa [fadingF, *] using h
theorem i_comm (x y : Int32) : x + y = y + x := Int32.add_comm x y
theorem t_stirsOf {mt : St} {p : Nat} {K : Int32 → St → Prop} (hp : p < 6) (h : K (stirringF (mt 2 p) (mt 3 p)) mt) : w_X9_stirsOf (nI p) mt K := by
  unfold w_X9_stirsOf
  have hi : vp_in (nI p) 6 := vp_in_nI hp (by decide)
  rw [clI hp (by decide)]
  unfold stirringF at h
  refine ⟨hi, ⟨fun h1 => ⟨hi, ⟨fun h2 => ?_, fun h2 => ⟨hi, ?_⟩⟩⟩, fun h1 => ?_⟩⟩
  · rw [if_neg h1, if_neg h2] at h; exact h
  · rw [if_neg h1, if_pos h2, i_comm] at h; exact h
  · rw [if_pos h1] at h; exact h
theorem pay2 (x : Int32) : 2 * (x + 1) = 2 * x + 2 := by rw [Int32.mul_add]; rfl
theorem pay4 (x : Int32) : 2 * (x + 1) - 1 = 2 * x + 1 := by rw [pay2, Int32.sub_eq_add_neg, Int32.add_assoc]; rfl
theorem t_payOf {mt : St} {p : Nat} {K : Int32 → St → Prop} (hp : p < 6) (h : K (wagingF (mt 2 p) (mt 3 p)) mt) : w_X9_payOf (nI p) mt K := by
  unfold w_X9_payOf
  have hi : vp_in (nI p) 6 := vp_in_nI hp (by decide)
  rw [clI hp (by decide)]
  unfold wagingF at h
  rw [pay4, pay2] at h
  refine ⟨hi, ⟨fun h1 => ⟨hi, ?_⟩, fun h1 => ⟨fun h2 => ?_, fun h2 => ⟨fun h3 => ?_, fun h3 => ⟨fun h4 => ⟨hi, ?_⟩, fun h4 => ⟨fun h5 => ?_, fun h5 => ⟨hi, ?_⟩⟩⟩⟩⟩⟩⟩ <;> simpa [*] using h
/-- hates lie in their bounds -/
def hOk (n : Nat) (c : Ct) : Prop := ∀ p q, p < q → q < n → 0 ≤ c 4 (hI p q) ∧ c 4 (hI p q) ≤ 99
/-- the check's live rows are the class's country c; who is out stands nowhere in c -/
def RM (n nL : Nat) (mt : St) (c : Ct) : Prop :=
  vC n nL c ∧ hOk n c ∧ mt 0 8 = nI n ∧ mt 0 9 = nI nL ∧ mt 0 10 = c 0 10 ∧ (∀ p, p < n → mt 2 p = c 1 p ∧ mt 3 p = c 2 p ∧ (hasB (mt 0 11) p ↔ c 3 p = -1) ∧ (c 3 p ≠ -1 → mt 4 p = c 3 p)) ∧
  (∀ p q, p < q → q < n → mt 5 (6 * p + q) = c 4 (hI p q) ∧ mt 5 (6 * q + p) = c 4 (hI p q)) ∧ (∀ l, l < nL → mt 6 l = c 5 l ∧ mt 7 l = c 6 l ∧ c 6 l ≠ -1 ∧ mt 8 l = if (ob c).testBit l then 1 else 0)
theorem hI_lt' {p q : Nat} (h : p < q) : hI p q = 6 * p + q := by unfold hI; omega
theorem hI_inj {p q p' q' : Nat} (h : p < q) (hq : q < 6) (h' : p' < q') (hq' : q' < 6) (e : hI p q = hI p' q') : p = p' ∧ q = q' := by
  rw [hI_lt' h, hI_lt' h'] at e
  omega
theorem addsub (v a b : Int32) : v + ((-a) - b) = v - a - b := by
  rw [Int32.sub_eq_add_neg, Int32.sub_eq_add_neg, Int32.sub_eq_add_neg, Int32.add_assoc]
theorem held_id {v : Int32} (h0 : 0 ≤ v) (h9 : v ≤ 99) : heldF (v + 0) = v := by
  rw [Int32.add_zero, ← hlF_held]
  unfold hlF
  rw [if_neg (i_nlt.mpr h0), if_neg (i_nlt.mpr h9)]
theorem heldF_in (v : Int32) : 0 ≤ heldF v ∧ heldF v ≤ 99 := by
  rw [← hlF_held]
  unfold hlF
  split
  · exact ⟨by decide, by decide⟩
  next h1 =>
    split
    · exact ⟨by decide, by decide⟩
    next h2 => exact ⟨i_nlt.mp h1, i_nlt.mp h2⟩
