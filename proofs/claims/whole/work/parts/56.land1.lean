/-! pure part: a land told in letters: the form -/
def sgF (tp : Nat → Int32) (s a : Nat) : Int32 := if a < s then tp a else -1
def isDg (x : Int32) : Bool := decide (¬ x < 48) && decide (¬ 57 < x)
def dN (x : Int32) : Nat := (x - 48).toNatClampNeg
theorem dg_nI {x : Int32} (h : isDg x = true) : ∃ d, d ≤ 9 ∧ x = nI (48 + d) := by
  have h' := Bool.and_eq_true_iff.mp h
  obtain ⟨j, h1, h2, rfl⟩ := i2le (a := 48) (b := 57) (by decide) (by decide) (i_nlt.mp (of_decide_eq_true h'.1)) (i_nlt.mp (of_decide_eq_true h'.2))
  exact ⟨j - 48, by omega, by congr 1; omega⟩
theorem dN_of {d : Nat} (h : d ≤ 9) : dN (nI (48 + d)) = d ∧ nI (48 + d) - 48 = nI d := by
  have e : nI (48 + d) - 48 = nI d := by
    have := nI_sub' (a := 48 + d) (b := 48) (by omega)
    rw [show 48 + d - 48 = d by omega] at this
    exact this
  unfold dN
  rw [e]
  exact ⟨clI (show d < 10 by omega) (by decide), rfl⟩
theorem dg_v {x : Int32} (h : isDg x = true) : x - 48 = nI (dN x) ∧ dN x ≤ 9 := by
  obtain ⟨d, hd, rfl⟩ := dg_nI h
  have := dN_of hd
  rw [this.1]
  exact ⟨this.2, hd⟩
def dgN (x : Int32) : Nat := if x = 103 then 2 else if x = 104 then 4 else if x = 107 then 3 else if x = 108 then 3 else if x = 115 then 1 else if x = 119 then 2 else 0
theorem dgN_le (x : Int32) : dgN x ≤ 4 := by
  unfold dgN
  split <;> (try split) <;> (try split) <;> (try split) <;> (try split) <;> (try split) <;> omega
theorem s_digitsBehind {x : Int32} {st : St} {K : Int32 → St → Prop} (h : K (nI (dgN x)) st) : w_X7_digitsBehind x st K := by
  unfold w_X7_digitsBehind
  unfold dgN at h
  refine ⟨fun z => ?_, fun z0 => ⟨fun z => ?_, fun z1 => ⟨fun z => ?_, fun z2 => ⟨fun z => ?_, fun z3 => ⟨fun z => ?_, fun z4 => ⟨fun z => ?_, fun z5 => ?_⟩⟩⟩⟩⟩⟩
  · rw [if_pos z] at h; exact h
  · rw [if_neg z0, if_pos z] at h; exact h
  · rw [if_neg z0, if_neg z1, if_pos z] at h; exact h
  · rw [if_neg z0, if_neg z1, if_neg z2, if_pos z] at h; exact h
  · rw [if_neg z0, if_neg z1, if_neg z2, if_neg z3, if_pos z] at h; exact h
  · rw [if_neg z0, if_neg z1, if_neg z2, if_neg z3, if_neg z4, if_pos z] at h; exact h
  · rw [if_neg z0, if_neg z1, if_neg z2, if_neg z3, if_neg z4, if_neg z5] at h; exact h
theorem s_sign {st : St} {s a : Nat} {K : Int32 → St → Prop} (hs : s ≤ 96) (e : st 4 1 = nI s) (ha : a < 2147483648) (h : K (sgF (st 5) s a) st) : w_X7_sign (nI a) st K := by
  unfold w_X7_sign
  rw [e]
  unfold sgF at h
  by_cases z : a < s
  · rw [if_pos z] at h
    exact n1 (nI_ge z (by omega)) (s_at (by omega) (by decide) h)
  · rw [if_neg z] at h
    exact y1 (nI_le (by omega) ha) h
theorem s_isDigit {st : St} {s a : Nat} {K : Int32 → St → Prop} (hs : s ≤ 96) (e : st 4 1 = nI s) (ha : a < 2147483648) (h : K (if isDg (sgF (st 5) s a) then 1 else 0) st) : w_X7_isDigit (nI a) st K := by
  unfold w_X7_isDigit
  refine s_sign hs e ha ⟨fun z => ?_, fun z => s_sign hs e ha ⟨fun z2 => ?_, fun z2 => ?_⟩⟩
  · rw [if_neg (by unfold isDg; rw [decide_eq_false (fun y => y z), Bool.false_and]; decide)] at h; exact h
  · rw [if_neg (by unfold isDg; rw [decide_eq_false (p := ¬ 57 < _) (fun y => y z2), Bool.and_false]; decide)] at h; exact h
  · rw [if_pos (by unfold isDg; rw [decide_eq_true z, decide_eq_true z2]; rfl)] at h; exact h
/-- the first sign from a on that is no digit -/
def ndP (sg : Nat → Int32) (j : Nat) : Bool := !isDg (sg j)
/-- where the statement at a is broken; none: -9 -/
def bpV (sg : Nat → Int32) (a : Nat) : Int32 := if dgN (sg a) = 0 then nI a else if fstG (ndP sg) (dgN (sg a)) (a + 1) = -9 then (if sg (a + dgN (sg a) + 1) = 59 then -9 else nI (a + dgN (sg a) + 1)) else fstG (ndP sg) (dgN (sg a)) (a + 1)
def PL (sg : Nat → Int32) : Nat → Nat
  | 0 => 0
  | i + 1 => PL sg i + dgN (sg (PL sg i)) + 2
theorem PL_le (sg : Nat → Int32) : ∀ i, 2 * i ≤ PL sg i ∧ PL sg i ≤ 6 * i
  | 0 => ⟨Nat.le_refl 0, Nat.le_refl 0⟩
  | i + 1 => by
    have := PL_le sg i
    have := dgN_le (sg (PL sg i))
    rw [PL]
    omega
def stP (sg : Nat → Int32) (s i : Nat) : Bool := decide (s ≤ PL sg i) || decide (¬ bpV sg (PL sg i) = -9)
theorem st_ex {sg : Nat → Int32} {s : Nat} (hs : s ≤ 96) : ∃ N, N ≤ 48 ∧ stP sg s N = true ∧ ∀ i, i < N → stP sg s i = false := by
  have p48 : stP sg s 48 = true := by
    unfold stP
    rw [decide_eq_true (by have := (PL_le sg 48).1; omega), Bool.true_or]
  rcases fstG_some (P := stP sg s) 96 0 with ⟨-, h2⟩ | ⟨N, h1, h2, h3, h4, h5⟩
  · rw [h2 48 (by decide) (by decide)] at p48; cases p48
  · refine ⟨N, Nat.not_lt.mp fun z => ?_, h4, fun i hi => h5 i (Nat.zero_le i) hi⟩
    rw [h5 48 (Nat.zero_le _) z] at p48; cases p48
theorem st_go {sg : Nat → Int32} {s i : Nat} (h : stP sg s i = false) : PL sg i < s ∧ bpV sg (PL sg i) = -9 := by
  unfold stP at h
  have h' := Bool.or_eq_false_iff.mp h
  exact ⟨Nat.not_le.mp (of_decide_eq_false h'.1), Classical.not_not.mp (of_decide_eq_false h'.2)⟩
theorem bp_d {sg : Nat → Int32} {a : Nat} (h : bpV sg a = -9) (ha : a < 1000) : ¬ dgN (sg a) = 0 ∧ fstG (ndP sg) (dgN (sg a)) (a + 1) = -9 ∧ sg (a + dgN (sg a) + 1) = 59 := by
  have hd := dgN_le (sg a)
  unfold bpV at h
  by_cases z : dgN (sg a) = 0
  · rw [if_pos z] at h; exact absurd h (ne9 (by omega))
  · rw [if_neg z] at h
    by_cases z2 : fstG (ndP sg) (dgN (sg a)) (a + 1) = -9
    · rw [if_pos z2] at h
      by_cases z3 : sg (a + dgN (sg a) + 1) = 59
      · exact ⟨z, z2, z3⟩
      · rw [if_neg z3] at h; exact absurd h (ne9 (by omega))
    · rw [if_neg z2] at h; exact absurd h z2
/-- the class looks for a break -/
theorem x_brokenPlace {st : St} {s N : Nat} {K : Int32 → St → Prop} (hs : s ≤ 96) (h0 : 0 < s) (e : st 4 1 = nI s) (hN : N ≤ 48) (p1 : stP (sgF (st 5) s) s N = true) (p2 : ∀ i, i < N → stP (sgF (st 5) s) s i = false)
    (hA : PL (sgF (st 5) s) N < s → K (bpV (sgF (st 5) s) (PL (sgF (st 5) s) N)) st) (hB : s ≤ PL (sgF (st 5) s) N → K (-1) st) : w_X7_brokenPlace st K := by
  unfold w_X7_brokenPlace
  rw [e]
  refine n2 (fun z => absurd ((nI_inj0 (by omega)).mp z) (by omega)) ?_
  refine lo_rel (fun m i (_ : Unit) => w_X7_brokenPlace_L13 K m (nI (PL (sgF (st 5) s) i)) (nI i) st) (fun _ _ => True) () (Nat.zero_le N) trivial (fun _ _ m => ?_) (fun m i _ _ hi _ hw => ?_)
  · have pl := PL_le (sgF (st 5) s) N
    have hd := dgN_le (sgF (st 5) s (PL (sgF (st 5) s) N))
    rw [w_X7_brokenPlace_L13, w_X7_brokenPlace_L13q, e]
    refine n1 (nI_ge (show N < 96 by omega) (by decide)) ?_
    by_cases z : s ≤ PL (sgF (st 5) s) N
    · exact y1 (nI_le z (by omega)) (hB z)
    · refine n1 (nI_ge (by omega) (by omega)) (s_sign hs e (by omega) (s_digitsBehind ?_))
      have hA' := hA (by omega)
      unfold bpV at hA'
      by_cases z1 : dgN (sgF (st 5) s (PL (sgF (st 5) s) N)) = 0
      · rw [if_pos z1] at hA'
        rw [z1]
        exact y2 rfl hA'
      · rw [if_neg z1] at hA'
        refine n2 (fun y => z1 ((nI_inj0 (by omega)).mp y)) ?_
        rw [nI_add, nI_inc, nI_inc]
        refine lo_fst (W := fun k j => w_X7_brokenPlace_L54 (fun v1 v2 st => w_X7_brokenPlace_L13 K m v1 v2 st) K k (nI N) (nI (PL (sgF (st 5) s) N + dgN (sgF (st 5) s (PL (sgF (st 5) s) N)) + 1)) (nI j) st) (P := ndP (sgF (st 5) s)) (Q := fun v => v = fstG (ndP (sgF (st 5) s)) (dgN (sgF (st 5) s (PL (sgF (st 5) s) N))) (PL (sgF (st 5) s) N + 1)) (r := PL (sgF (st 5) s) N + dgN (sgF (st 5) s (PL (sgF (st 5) s) N)) + 1) (by omega) (fun hQ => ⟨1, ?_⟩) (fun j h1 h2 hP hQ => ⟨1, ?_⟩) (fun k j h1 h2 hP hk => ?_) (by congr 1; omega)
        · rw [w_X7_brokenPlace_L54, w_X7_brokenPlace_L54q]
          refine y1 (nI_le (Nat.le_refl _) (by omega)) ?_
          rw [w_X7_brokenPlace_b79]
          refine s_sign hs e (by omega) ?_
          rw [if_pos hQ.symm] at hA'
          by_cases z3 : sgF (st 5) s (PL (sgF (st 5) s) N + dgN (sgF (st 5) s (PL (sgF (st 5) s) N)) + 1) = 59
          · rw [if_pos z3] at hA'
            exfalso
            have : bpV (sgF (st 5) s) (PL (sgF (st 5) s) N) = -9 := by
              unfold bpV
              rw [if_neg z1, if_pos hQ.symm, if_pos z3]
            unfold stP at p1
            rw [decide_eq_false z, this] at p1
            simp at p1
          · rw [if_neg z3] at hA'
            exact n1 z3 hA'
        · rw [w_X7_brokenPlace_L54, w_X7_brokenPlace_L54q]
          refine n1 (nI_ge h2 (by omega)) (s_isDigit hs e (by omega) ?_)
          have hP' : isDg (sgF (st 5) s j) = false := by
            unfold ndP at hP
            cases y : isDg (sgF (st 5) s j) with
            | false => rfl
            | true => rw [y] at hP; cases hP
          rw [if_neg (by rw [hP']; decide)]
          rw [if_neg (by rw [← hQ]; exact ne9 (by omega)), ← hQ] at hA'
          exact y2 rfl hA'
        · rw [w_X7_brokenPlace_L54, w_X7_brokenPlace_L54q]
          refine n1 (nI_ge h2 (by omega)) (s_isDigit hs e (by omega) ?_)
          have hP' : isDg (sgF (st 5) s j) = true := by
            unfold ndP at hP
            cases y : isDg (sgF (st 5) s j) with
            | true => rfl
            | false => rw [y] at hP; cases hP
          rw [if_pos hP', nI_inc]
          exact n2 (by decide) hk
  · have pl := PL_le (sgF (st 5) s) i
    have hd := dgN_le (sgF (st 5) s (PL (sgF (st 5) s) i))
    obtain ⟨g1, g2⟩ := st_go (p2 i hi)
    obtain ⟨b1, b2, b3⟩ := bp_d g2 (by omega)
    rw [w_X7_brokenPlace_L13, w_X7_brokenPlace_L13q, e]
    refine n1 (nI_ge (show i < 96 by omega) (by decide)) (n1 (nI_ge g1 (by omega)) (s_sign hs e (by omega) (s_digitsBehind ?_)))
    refine n2 (fun y => b1 ((nI_inj0 (by omega)).mp y)) ?_
    rw [nI_add, nI_inc, nI_inc]
    refine lo_fst (W := fun k j => w_X7_brokenPlace_L54 (fun v1 v2 st => w_X7_brokenPlace_L13 K m v1 v2 st) K k (nI i) (nI (PL (sgF (st 5) s) i + dgN (sgF (st 5) s (PL (sgF (st 5) s) i)) + 1)) (nI j) st) (P := ndP (sgF (st 5) s)) (Q := fun v => v = -9) (r := PL (sgF (st 5) s) i + dgN (sgF (st 5) s (PL (sgF (st 5) s) i)) + 1) (by omega) (fun hQ => ⟨1, ?_⟩) (fun j h1 h2 hP hQ => absurd hQ (ne9 (by omega))) (fun k j h1 h2 hP hk => ?_) (by rw [show PL (sgF (st 5) s) i + dgN (sgF (st 5) s (PL (sgF (st 5) s) i)) + 1 - (PL (sgF (st 5) s) i + 1) = dgN (sgF (st 5) s (PL (sgF (st 5) s) i)) by omega]; exact b2)
    · rw [w_X7_brokenPlace_L54, w_X7_brokenPlace_L54q]
      refine y1 (nI_le (Nat.le_refl _) (by omega)) ?_
      rw [w_X7_brokenPlace_b79]
      refine s_sign hs e (by omega) (y1 b3 ?_)
      rw [nI_inc, nI_inc]
      exact hw () trivial
    · rw [w_X7_brokenPlace_L54, w_X7_brokenPlace_L54q]
      refine n1 (nI_ge h2 (by omega)) (s_isDigit hs e (by omega) ?_)
      have hP' : isDg (sgF (st 5) s j) = true := by
        unfold ndP at hP
        cases y : isDg (sgF (st 5) s j) with
        | true => rfl
        | false => rw [y] at hP; cases hP
      rw [if_pos hP', nI_inc]
      exact n2 (by decide) hk
/-! the check reads -/
/-- read on: frame, place, told -/
def RF (t t' : St) (p a : Nat) : Prop := (∀ j, j ≠ 0 → j ≠ 12 → t' j = t j) ∧ (∀ x, x ≠ 17 → t' 0 x = t 0 x) ∧ t' 0 17 = nI a ∧ ∀ x, (x < p ∨ p + 3 ≤ x) → t' 12 x = t 12 x
theorem RF.tr {t t' t'' : St} {p a b : Nat} (h : RF t t' p a) (h' : RF t' t'' p b) : RF t t'' p b :=
  ⟨fun j x y => (h'.1 j x y).trans (h.1 j x y), fun x y => (h'.2.1 x y).trans (h.2.1 x y), h'.2.2.1, fun x y => (h'.2.2.2 x y).trans (h.2.2.2 x y)⟩
theorem t_next {t : St} {s a : Nat} {K : Int32 → St → Prop} (hs : s ≤ 96) (ha : a < 2147483648) (e1 : t 0 16 = nI s) (e2 : t 0 17 = nI a) (h : K (sgF (t 9) s a) t) : w_X9_next t K := by
  unfold w_X9_next
  rw [e1, e2]
  unfold sgF at h
  by_cases z : a < s
  · rw [if_pos z] at h
    refine n1 (nI_ge z (by omega)) ⟨vp_in_nI (by omega) (by decide), ?_⟩
    rw [clI (show a < 96 by omega) (by decide)]
    exact h
  · rw [if_neg z] at h
    exact y1 (nI_le (by omega) ha) h
theorem t_dig {t : St} {s a : Nat} {K : Int32 → St → Prop} (hs : s ≤ 96) (ha : a < 2147483648) (e1 : t 0 16 = nI s) (e2 : t 0 17 = nI a) (h : K (if isDg (sgF (t 9) s a) then 1 else 0) t) : w_X9_next t (fun r12 st12 => w_X9_isIn r12 48 57 st12 K) := by
  refine t_next hs ha e1 e2 (t_isIn ?_)
  unfold isDg at h
  by_cases z : sgF (t 9) s a < 48
  · rw [if_pos z]
    rw [decide_eq_false (fun y => y z), Bool.false_and, if_neg (by decide)] at h
    exact h
  · rw [if_neg z]
    rw [decide_eq_true z, Bool.true_and] at h
    by_cases z2 : 57 < sgF (t 9) s a
    · rw [if_pos z2]
      rw [decide_eq_false (fun y => y z2), if_neg (by decide)] at h
      exact h
    · rw [if_neg z2]
      rw [decide_eq_true z2, if_pos rfl] at h
      exact h
/-- one digit read -/
theorem t_rd1 {t : St} {s a p q : Nat} {K : Int32 → St → Prop} (hs : s ≤ 96) (ha : a < 1000) (hq : q < 144) (hpq : p ≤ q ∧ q < p + 3) (e1 : t 0 16 = nI s) (e2 : t 0 17 = nI a)
    (h1 : isDg (sgF (t 9) s a) = true → ∀ t', RF t t' p (a + 1) → t' 12 q = nI (dN (sgF (t 9) s a)) → (∀ x, x ≠ q → t' 12 x = t 12 x) → K 1 t') (h0 : isDg (sgF (t 9) s a) = false → K 0 t) : w_X9_readsDigits (nI q) 1 t K := by
  unfold w_X9_readsDigits
  refine ⟨2, ?_⟩
  rw [w_X9_readsDigits_L5, w_X9_readsDigits_L5q]
  refine n1 (by decide) (t_dig hs (by omega) e1 e2 ?_)
  cases e : isDg (sgF (t 9) s a) with
  | false =>
    rw [if_neg (by decide)]
    exact y2 rfl (h0 e)
  | true =>
    rw [if_pos rfl]
    refine n2 (by decide) (t_next hs (by omega) e1 e2 ?_)
    rw [w_X9_readsDigits_L5, w_X9_readsDigits_L5q]
    refine y1 (by decide) ?_
    rw [w_X9_readsDigits_b56, clI hq (by decide), e2, nI_inc]
    refine ⟨vp_in_nI hq (by decide), ?_⟩
    have ev : ((10 : Int32) * 0 + sgF (t 9) s a) - 48 = nI (dN (sgF (t 9) s a)) := by
      rw [show (10 : Int32) * 0 = 0 by decide, Int32.zero_add]
      exact (dg_v e).1
    rw [ev]
    refine h1 e _ ⟨fun j x y => by rw [u2_off y, u2_off x], fun x y => by rw [u2_off (by decide), u2_0 y], by rw [u2_off (by decide), u2_same], fun x y => by rw [u2_ne (Or.inr (by omega)), u2_off (by decide)]⟩ u2_same (fun x y => by rw [u2_ne (Or.inr y), u2_off (by decide)])
/-- two digits read -/
theorem t_rd2 {t : St} {s a p q : Nat} {K : Int32 → St → Prop} (hs : s ≤ 96) (ha : a < 1000) (hq : q < 144) (hpq : p ≤ q ∧ q < p + 3) (e1 : t 0 16 = nI s) (e2 : t 0 17 = nI a)
    (h1 : isDg (sgF (t 9) s a) = true → isDg (sgF (t 9) s (a + 1)) = true → ∀ t', RF t t' p (a + 2) → t' 12 q = nI (10 * dN (sgF (t 9) s a) + dN (sgF (t 9) s (a + 1))) → (∀ x, x ≠ q → t' 12 x = t 12 x) → K 1 t') (h0 : isDg (sgF (t 9) s a) = false → K 0 t)
    (h2 : isDg (sgF (t 9) s a) = true → isDg (sgF (t 9) s (a + 1)) = false → ∀ t', RF t t' p (a + 1) → K 0 t') : w_X9_readsDigits (nI q) 2 t K := by
  unfold w_X9_readsDigits
  refine ⟨3, ?_⟩
  rw [w_X9_readsDigits_L5, w_X9_readsDigits_L5q]
  refine n1 (by decide) (t_dig hs (by omega) e1 e2 ?_)
  cases e : isDg (sgF (t 9) s a) with
  | false =>
    rw [if_neg (by decide)]
    exact y2 rfl (h0 e)
  | true =>
    rw [if_pos rfl]
    refine n2 (by decide) (t_next hs (by omega) e1 e2 ?_)
    rw [e2, nI_inc]
    have ev : ((10 : Int32) * 0 + sgF (t 9) s a) - 48 = nI (dN (sgF (t 9) s a)) := by
      rw [show (10 : Int32) * 0 = 0 by decide, Int32.zero_add]
      exact (dg_v e).1
    rw [ev, w_X9_readsDigits_L5, w_X9_readsDigits_L5q]
    have f1 : u2 t 0 17 (nI (a + 1)) 0 16 = nI s := by rw [u2_0 (by decide)]; exact e1
    have f9 : u2 t 0 17 (nI (a + 1)) 9 = t 9 := u2_off (by decide)
    refine n1 (by decide) (t_dig hs (by omega) f1 u2_same ?_)
    rw [f9]
    cases e' : isDg (sgF (t 9) s (a + 1)) with
    | false =>
      rw [if_neg (by decide)]
      exact y2 rfl (h2 e e' _ ⟨fun j x y => u2_off x, fun x y => u2_0 y, u2_same, fun x y => by rw [u2_off (by decide)]⟩)
    | true =>
      rw [if_pos rfl]
      refine n2 (by decide) (t_next hs (by omega) f1 u2_same ?_)
      rw [f9, u2_same, u2_u2, nI_inc, w_X9_readsDigits_L5, w_X9_readsDigits_L5q]
      refine y1 (by decide) ?_
      rw [w_X9_readsDigits_b56, clI hq (by decide)]
      refine ⟨vp_in_nI hq (by decide), ?_⟩
      have ev2 : ((10 : Int32) * nI (dN (sgF (t 9) s a)) + sgF (t 9) s (a + 1)) - 48 = nI (10 * dN (sgF (t 9) s a) + dN (sgF (t 9) s (a + 1))) := by
        obtain ⟨d, hd, ed⟩ := dg_nI e'
        have e10 : (10 : Int32) * nI (dN (sgF (t 9) s a)) = nI (10 * dN (sgF (t 9) s a)) := nI_mul 10 _
        rw [ed, (dN_of hd).1, e10, nI_add]
        have := nI_sub' (a := 10 * dN (sgF (t 9) s a) + (48 + d)) (b := 48) (by omega)
        rw [show 10 * dN (sgF (t 9) s a) + (48 + d) - 48 = 10 * dN (sgF (t 9) s a) + d by omega] at this
        exact this
      rw [ev2]
      refine h1 e e' _ ⟨fun j x y => by rw [u2_off y, u2_off x], fun x y => by rw [u2_off (by decide), u2_0 y], by rw [u2_off (by decide), u2_same], fun x y => by rw [u2_ne (Or.inr (by omega)), u2_off (by decide)]⟩ u2_same (fun x y => by rw [u2_ne (Or.inr y), u2_off (by decide)])
