/-! pure part: a land told in letters: all of it -/
def kdN (sg : Nat → Int32) (a : Nat) : Nat := (sg a).toNatClampNeg
theorem kd_is {sg : Nat → Int32} {a : Nat} (h : ¬ dgN (sg a) = 0) : isK (kdN sg a) ∧ sg a = nI (kdN sg a) := by
  obtain ⟨k, hk, e⟩ := kd_of h
  have : kdN sg a = k := by
    unfold kdN
    rw [e]
    exact clI (show k < 200 by rcases hk with h | h | h | h | h | h <;> omega) (by decide)
  rw [this]
  exact ⟨hk, e⟩
def Xq (sg : Nat → Int32) (x0 : SC) : Nat → SC
  | 0 => x0
  | i + 1 => nxA sg (kdN sg (PL sg i)) (PL sg i) (Xq sg x0 i)
def P2 (sg : Nat → Int32) (x0 : SC) (i : Nat) : Bool := !okA sg (kdN sg (PL sg i)) (PL sg i) (Xq sg x0 i)
theorem P2_f {sg : Nat → Int32} {x0 : SC} {i : Nat} (h : P2 sg x0 i = false) : okA sg (kdN sg (PL sg i)) (PL sg i) (Xq sg x0 i) = true := by
  unfold P2 at h
  cases z : okA sg (kdN sg (PL sg i)) (PL sg i) (Xq sg x0 i) with
  | true => rfl
  | false => rw [z] at h; cases h
theorem P2_t {sg : Nat → Int32} {x0 : SC} {i : Nat} (h : P2 sg x0 i = true) : okA sg (kdN sg (PL sg i)) (PL sg i) (Xq sg x0 i) = false := by
  unfold P2 at h
  cases z : okA sg (kdN sg (PL sg i)) (PL sg i) (Xq sg x0 i) with
  | false => rfl
  | true => rw [z] at h; cases h
/-- a good statement: its kind, its digits -/
theorem st_good {sg : Nat → Int32} {s i : Nat} (hs : s ≤ 96) (h : stP sg s i = false) : isK (kdN sg (PL sg i)) ∧ sg (PL sg i) = nI (kdN sg (PL sg i)) ∧ dgs sg (kdN sg (PL sg i)) (PL sg i) ∧ PL sg i < s := by
  obtain ⟨g1, g2⟩ := st_go h
  obtain ⟨b1, b2, b3⟩ := bp_d g2 (by omega)
  obtain ⟨k1, k2⟩ := kd_is b1
  refine ⟨k1, k2, dgs_of ?_ (by omega), g1⟩
  rw [← k2]
  exact b2
theorem dg_of {sg : Nat → Int32} {a : Nat} (hd : dgs sg (kdN sg a) a) : (kdN sg a = 104 → 10 * dN (sg (a + 1 + 2)) + dN (sg (a + 1 + 3)) ≤ 99) ∧ (kdN sg a = 108 → 10 * dN (sg (a + 1)) + dN (sg (a + 1 + 1)) ≤ 99) := by
  constructor
  · intro e
    rw [e] at hd
    have d3 := hd 2 (by decide)
    have d4 := hd 3 (by decide)
    omega
  · intro e
    rw [e] at hd
    have d1 := hd 0 (by decide)
    have d2 := hd 1 (by decide)
    rw [Nat.add_zero] at d1
    omega
theorem gX_all {sg : Nat → Int32} {s : Nat} {x0 : SC} (hs : s ≤ 96) (hx : gX x0) : ∀ i, (∀ j, j < i → stP sg s j = false ∧ P2 sg x0 j = false) → gX (Xq sg x0 i)
  | 0, _ => hx
  | i + 1, h => by
    have g := gX_all hs hx i fun j hj => h j (by omega)
    obtain ⟨q1, q2⟩ := h i (by omega)
    obtain ⟨k1, k2, k3, k4⟩ := st_good hs q1
    have d := dg_of k3
    exact gX_next g k1 (P2_f q2) d.1 d.2
/-- the class's telling, its form being good -/
theorem x_tellB {st : St} {s N : Nat} {x0 : SC} {K : Int32 → St → Prop} (hs : s ≤ 96) (h0 : 0 < s) (e : st 4 1 = nI s) (hN : N ≤ 48) (p1 : stP (sgF (st 5) s) s N = true) (p2 : ∀ i, i < N → stP (sgF (st 5) s) s i = false) (hB : s ≤ PL (sgF (st 5) s) N) (hx : gX x0)
    (hOk : (∀ j, j < N → P2 (sgF (st 5) s) x0 j = false) → K (nI N) (sv st 19 (Xq (sgF (st 5) s) x0 N).2.2)) (hF : ∀ i, i < N → (∀ j, j < i → P2 (sgF (st 5) s) x0 j = false) → P2 (sgF (st 5) s) x0 i = true → K (-2000 - nI (PL (sgF (st 5) s) i)) (sv st 19 (Xq (sgF (st 5) s) x0 i).2.2)) : w_X7_tellTo 19 (sv st 19 x0.2.2) K := by
  have e5 : ∀ c, sv st 19 c 5 = st 5 := fun c => sv_off (by decide)
  have e4 : ∀ c, sv st 19 c 4 1 = nI s := fun c => by rw [sv_off (by decide)]; exact e
  unfold w_X7_tellTo
  refine x_brokenPlace (s := s) (N := N) hs h0 (e4 _) hN (by rw [e5]; exact p1) (by rw [e5]; exact p2) (fun z => ?_) (fun _ => ?_)
  · rw [e5] at z; omega
  · refine y1 rfl ?_
    refine lo_rel (fun m i (_ : Unit) => w_X7_tellTo_L24 19 K m (nI i) (nI (PL (sgF (st 5) s) i)) (nI i) (sv st 19 (Xq (sgF (st 5) s) x0 i).2.2)) (fun i _ => ∀ j, j < i → P2 (sgF (st 5) s) x0 j = false) () (Nat.zero_le N) (fun j hj => absurd hj (Nat.not_lt_zero j)) (fun _ hI m => ?_) (fun m i _ _ hi hI hw => ?_)
    · have pl := PL_le (sgF (st 5) s) N
      rw [w_X7_tellTo_L24, w_X7_tellTo_L24q, e4]
      refine n1 (nI_ge (show N < 96 by omega) (by decide)) (y1 (nI_le hB (by omega)) (hOk hI))
    · have g := gX_all hs hx i fun j hj => ⟨p2 j (by omega), hI j hj⟩
      obtain ⟨k1, k2, k3, k4⟩ := st_good hs (p2 i hi)
      have hd := dgN_le (sgF (st 5) s (PL (sgF (st 5) s) i))
      rw [w_X7_tellTo_L24, w_X7_tellTo_L24q, e4]
      refine n1 (nI_ge (show i < 96 by omega) (by decide)) (n1 (nI_ge k4 (by omega)) (s_isRight hs e (by omega) k1 k2 k3 g ?_))
      cases eo : okA (sgF (st 5) s) (kdN (sgF (st 5) s) (PL (sgF (st 5) s) i)) (PL (sgF (st 5) s) i) (Xq (sgF (st 5) s) x0 i) with
      | false =>
        rw [if_neg (by decide)]
        refine y2 rfl ?_
        rw [w_X7_tellTo_b54]
        exact hF i hi hI (by unfold P2; rw [eo]; rfl)
      | true =>
        rw [if_pos rfl]
        refine n2 (by decide) (s_comes hs e (by omega) k1 k2 k3 g eo (s_sign hs (e4 _) (by omega) (s_digitsBehind ?_)))
        rw [e5]
        have e2 : nI (dgN (sgF (st 5) s (PL (sgF (st 5) s) i))) + 2 = nI (dgN (sgF (st 5) s (PL (sgF (st 5) s) i)) + 2) := nI_add _ 2
        rw [e2, nI_add, nI_inc]
        refine hw () fun j hj => ?_
        by_cases ej : j = i
        · subst ej
          unfold P2
          rw [eo]
          rfl
        · exact hI j (by omega)
/-! the check's reading -/
theorem TS_0 {mt : St} {s : Nat} {sg : Nat → Int32} : TS mt (u2 (u2 mt 0 17 0) 0 18 0) s 0 sg :=
  ⟨fun j x _ _ _ => by rw [u2_off x, u2_off x], fun x y z => by rw [u2_0 z, u2_0 y], u2_same, fun j hj => absurd hj (Nat.not_lt_zero j)⟩
theorem t_landA {mt : St} {s N : Nat} {K : Int32 → St → Prop} (hs : s ≤ 96) (e16 : mt 0 16 = nI s) (hN : N < 48) (p2 : ∀ i, i < N → stP (sgF (mt 9) s) s i = false) (hA : ¬ bpV (sgF (mt 9) s) (PL (sgF (mt 9) s) N) = -9) (hc : PL (sgF (mt 9) s) N < s ∨ N = 0)
    (hk : ∀ t, (∀ j, j ≠ 0 → j ≠ 10 → j ≠ 11 → j ≠ 12 → t j = mt j) → (∀ x, x ≠ 16 → x ≠ 17 → x ≠ 18 → t 0 x = mt 0 x) → t 0 16 = 0 → K (-1000 - bpV (sgF (mt 9) s) (PL (sgF (mt 9) s) N)) t) : w_X9_land mt K := by
  unfold w_X9_land
  have key := lo_rel (fun m i (t : St) => w_X9_land_L12 K (m + 1) 1 t) (fun i t => TS mt t s i (sgF (mt 9) s) ∧ t 0 17 = nI (PL (sgF (mt 9) s) i)) (u2 (u2 mt 0 17 0) 0 18 0) (Nat.zero_le N) ⟨TS_0, by rw [u2_0 (by decide), u2_same]; rfl⟩ (fun t hI m => ?_) (fun m i t _ hi hI hw => ?_)
  · obtain ⟨n, hn⟩ := key
    exact ⟨n + 1, hn⟩
  · obtain ⟨i1, i2⟩ := hI
    have pl := PL_le (sgF (mt 9) s) N
    have t16 : t 0 16 = nI s := (i1.2.1 16 (by decide) (by decide)).trans e16
    rw [w_X9_land_L12, w_X9_land_L12q, t16, i2, i1.2.2.1]
    refine n1 (by decide) ?_
    have b34 : w_X9_land_b34 (fun v1 st => w_X9_land_L12 K (m + 1) v1 st) K t := by
      rw [w_X9_land_b34]
      refine t_statement hs hN e16 i1 i2 (fun z => absurd z hA) (fun _ t' q1 q2 q3 => y1 rfl ?_)
      rw [w_X9_land_b53, w_X9_land_L12, w_X9_land_L12q]
      refine y1 rfl ?_
      rw [w_X9_land_b60]
      refine y2 rfl ?_
      have e17 : u2 (u2 t' 0 18 (t' 0 18 + 0)) 0 16 0 0 17 = bpV (sgF (mt 9) s) (PL (sgF (mt 9) s) N) := by rw [u2_0 (by decide), u2_0 (by decide)]; exact q1
      rw [e17]
      exact hk _ (fun j x y z w => by rw [u2_off x, u2_off x]; exact q2 j x y z w) (fun x y z w => by rw [u2_0 y, u2_0 w]; exact q3 x z w) u2_same
    by_cases lt : PL (sgF (mt 9) s) N < s
    · exact y1 ((nJ_lt (by omega) (by omega)).mpr lt) b34
    · refine n1 (fun y => lt ((nJ_lt (by omega) (by omega)).mp y)) ?_
      have n0 : N = 0 := hc.resolve_left lt
      exact y2 (by rw [n0]; rfl) b34
  · obtain ⟨i1, i2⟩ := hI
    obtain ⟨g1, g2⟩ := st_go (p2 i hi)
    have t16 : t 0 16 = nI s := (i1.2.1 16 (by decide) (by decide)).trans e16
    rw [w_X9_land_L12, w_X9_land_L12q, t16, i2, i1.2.2.1]
    refine n1 (by decide) (y1 ((nJ_lt (by omega) (by omega)).mpr g1) ?_)
    rw [w_X9_land_b34]
    refine t_statement hs (by omega) e16 i1 i2 (fun _ t' q1 q2 q3 => n1 (by decide) ?_) (fun z _ _ _ _ => absurd g2 z)
    · rw [w_X9_land_b53, q2, nI_inc]
      exact hw _ ⟨q3 _ (fun j x => u2_off x) (fun x y => u2_0 y) u2_same, by rw [u2_0 (by decide)]; exact q1⟩
