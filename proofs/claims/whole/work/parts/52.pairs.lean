/-! pure part: pairs: the greatest matching, by the highest keeper or by the lowest -/
def Mt (E : Nat → Nat → Prop) : Nat → (Nat → Prop) → Prop
  | 0, _ => True
  | k + 1, S => ∃ p q, S p ∧ S q ∧ p ≠ q ∧ E p q ∧ Mt E k (fun a => S a ∧ a ≠ p ∧ a ≠ q)
theorem Mt.mono {E : Nat → Nat → Prop} : ∀ {k : Nat} {S T : Nat → Prop}, (∀ a, S a → T a) → Mt E k S → Mt E k T
  | 0, _, _, _, _ => trivial
  | k + 1, S, T, h, ⟨p, q, h1, h2, h3, h4, h5⟩ => ⟨p, q, h p h1, h q h2, h3, h4, Mt.mono (fun a z => ⟨h a z.1, z.2⟩) h5⟩
theorem Mt.pivot {E : Nat → Nat → Prop} (sy : ∀ a b, E a b → E b a) {x : Nat} : ∀ {k : Nat} {S : Nat → Prop}, S x → Mt E (k + 1) S → Mt E (k + 1) (fun a => S a ∧ a ≠ x) ∨ ∃ y, S y ∧ y ≠ x ∧ E x y ∧ Mt E k (fun a => (S a ∧ a ≠ x) ∧ a ≠ y)
  | k, S, hx, ⟨p, q, h1, h2, h3, h4, h5⟩ => by
    by_cases ep : p = x
    · subst ep
      exact Or.inr ⟨q, h2, Ne.symm h3, h4, h5.mono fun a z => ⟨⟨z.1, z.2.1⟩, z.2.2⟩⟩
    · by_cases eq : q = x
      · subst eq
        exact Or.inr ⟨p, h1, h3, sy _ _ h4, h5.mono fun a z => ⟨⟨z.1, z.2.2⟩, z.2.1⟩⟩
      · cases k with
        | zero => exact Or.inl ⟨p, q, ⟨h1, ep⟩, ⟨h2, eq⟩, h3, h4, trivial⟩
        | succ k =>
          rcases Mt.pivot sy (x := x) (k := k) (S := fun a => S a ∧ a ≠ p ∧ a ≠ q) ⟨hx, Ne.symm ep, Ne.symm eq⟩ h5 with z | ⟨y, ⟨y1, y2, y3⟩, y4, y5, y6⟩
          · exact Or.inl ⟨p, q, ⟨h1, ep⟩, ⟨h2, eq⟩, h3, h4, z.mono fun a w => ⟨⟨w.1.1, w.2⟩, w.1.2⟩⟩
          · exact Or.inr ⟨y, y1, y4, y5, p, q, ⟨⟨h1, ep⟩, Ne.symm y2⟩, ⟨⟨h2, eq⟩, Ne.symm y3⟩, h3, h4, y6.mono fun a w => ⟨⟨⟨w.1.1.1, w.1.2⟩, w.2⟩, w.1.1.2⟩⟩
def isM (E : Nat → Nat → Prop) (S : Nat → Prop) (m : Nat) : Prop := ∀ k, Mt E k S ↔ k ≤ m
theorem isM_1 {E : Nat → Nat → Prop} {S : Nat → Prop} {m m' : Nat} (h : isM E S m) (h' : isM E S m') : m = m' := by
  have h1 := (h' m).mp ((h m).mpr (Nat.le_refl m))
  have h2 := (h m').mp ((h' m').mpr (Nat.le_refl m'))
  omega
/-- what is known after the partners below i are tried -/
def acM (E : Nat → Nat → Prop) (O : Nat → Prop) (x i m : Nat) : Prop := ∀ k, (Mt E k O ∨ ∃ y, y < i ∧ O y ∧ E x y ∧ ∃ k', k = k' + 1 ∧ Mt E k' (fun a => O a ∧ a ≠ y)) ↔ k ≤ m
theorem acM_0 {E : Nat → Nat → Prop} {O : Nat → Prop} {x i m : Nat} (h : isM E O m) (hi : ∀ y, O y → i ≤ y) : acM E O x i m := fun k => by
  rw [← h k]
  exact ⟨fun z => z.elim id fun ⟨y, y1, y2, _⟩ => absurd (hi y y2) (by omega), Or.inl⟩
theorem acM_skip {E : Nat → Nat → Prop} {O : Nat → Prop} {x i m : Nat} (h : acM E O x i m) (hn : ¬ (O i ∧ E x i)) : acM E O x (i + 1) m := fun k => by
  rw [← h k]
  constructor
  · rintro (z | ⟨y, y1, y2, y3, y4⟩)
    · exact Or.inl z
    · by_cases e : y = i
      · subst e; exact absurd ⟨y2, y3⟩ hn
      · exact Or.inr ⟨y, by omega, y2, y3, y4⟩
  · rintro (z | ⟨y, y1, y2, y3, y4⟩)
    · exact Or.inl z
    · exact Or.inr ⟨y, by omega, y2, y3, y4⟩
theorem acM_take {E : Nat → Nat → Prop} {O : Nat → Prop} {x i m m' : Nat} (h : acM E O x i m) (ho : O i) (he : E x i) (h' : isM E (fun a => O a ∧ a ≠ i) m') : acM E O x (i + 1) (if m < 1 + m' then 1 + m' else m) := fun k => by
  have hk := h k
  constructor
  · rintro (z | ⟨y, y1, y2, y3, k', rfl, y5⟩)
    · have := hk.mp (Or.inl z)
      split <;> omega
    · by_cases e : y = i
      · subst e
        have := (h' k').mp y5
        split <;> omega
      · have := hk.mp (Or.inr ⟨y, by omega, y2, y3, k', rfl, y5⟩)
        split <;> omega
  · intro z
    by_cases e : k ≤ m
    · rcases hk.mpr e with w | ⟨y, y1, y2, y3, y4⟩
      · exact Or.inl w
      · exact Or.inr ⟨y, by omega, y2, y3, y4⟩
    · rw [if_pos (by split at z <;> omega)] at z
      obtain ⟨k', rfl⟩ : ∃ k', k = k' + 1 := ⟨k - 1, by omega⟩
      exact Or.inr ⟨i, by omega, ho, he, k', rfl, (h' k').mpr (by omega)⟩
theorem acM_end {E : Nat → Nat → Prop} (sy : ∀ a b, E a b → E b a) {S O : Nat → Prop} {x i m : Nat} (h : acM E O x i m) (hx : S x) (hO : ∀ a, O a ↔ S a ∧ a ≠ x) (hi : ∀ y, O y → y < i) : isM E S m := fun k => by
  rw [← h k]
  constructor
  · intro z
    cases k with
    | zero => exact Or.inl trivial
    | succ k =>
      rcases z.pivot sy hx with w | ⟨y, y1, y2, y3, y4⟩
      · exact Or.inl (w.mono fun a b => (hO a).mpr b)
      · exact Or.inr ⟨y, hi y ((hO y).mpr ⟨y1, y2⟩), (hO y).mpr ⟨y1, y2⟩, y3, k, rfl, y4.mono fun a b => ⟨(hO a).mpr b.1, b.2⟩⟩
  · rintro (w | ⟨y, y1, y2, y3, k', rfl, y5⟩)
    · exact w.mono fun a b => ((hO a).mp b).1
    · have oy := (hO y).mp y2
      exact ⟨x, y, hx, oy.1, Ne.symm oy.2, y3, y5.mono fun a b => ⟨((hO a).mp b.1).1, ((hO a).mp b.1).2, b.2⟩⟩
/-! sets as bits -/
def bS (s : Nat) : Nat → Prop := fun a => a < 6 ∧ s.testBit a = true
def clr (s y : Nat) : Nat := if s.testBit y then s - 2 ^ y else s
theorem clr_bit : ∀ s, s < 64 → ∀ y, y < 6 → ∀ a, a < 6 → (clr s y).testBit a = (s.testBit a && decide (a ≠ y)) := by decide +kernel
theorem clr_I : ∀ s, s < 64 → ∀ y, y < 6 → nI s &&& (((1 : Int32) <<< (nI y &&& 31)) ^^^ (-1)) = nI (clr s y) := by decide +kernel
theorem clr_lt {s y : Nat} (h : s.testBit y = true) : clr s y < s := by
  unfold clr
  rw [if_pos h]
  have := Nat.ge_two_pow_of_testBit h
  have := Nat.two_pow_pos y
  omega
theorem clr_le {s y : Nat} : clr s y ≤ s := by
  unfold clr
  split
  · exact Nat.sub_le _ _
  · exact Nat.le_refl _
theorem bS_clr {s y a : Nat} (hs : s < 64) (hy : y < 6) : bS (clr s y) a ↔ bS s a ∧ a ≠ y := by
  unfold bS
  constructor
  · rintro ⟨h1, h2⟩
    rw [clr_bit s hs y hy a h1, Bool.and_eq_true] at h2
    exact ⟨⟨h1, h2.1⟩, of_decide_eq_true h2.2⟩
  · rintro ⟨⟨h1, h2⟩, h3⟩
    refine ⟨h1, ?_⟩
    rw [clr_bit s hs y hy a h1, h2, decide_eq_true h3]
    rfl
def eE (c : Ct) (v : Int32) (p q : Nat) : Prop := c 3 p = c 3 q ∧ v ≤ c 4 (hI p q)
theorem eE_sy {c : Ct} {v : Int32} : ∀ a b, eE c v a b → eE c v b a := fun a b h => ⟨h.1.symm, by rw [hI_comm]; exact h.2⟩
/-- a table's entry holds the greatest matching -/
def tbM (c : Ct) (v : Int32) (f : Nat → Int32) (s : Nat) : Prop := ∃ m, m ≤ s ∧ f s = nI m ∧ isM (eE c v) (bS s) m
theorem isM_0 {c : Ct} {v : Int32} : isM (eE c v) (bS 0) 0 := fun k => by
  cases k with
  | zero => exact ⟨fun _ => Nat.le_refl 0, fun _ => trivial⟩
  | succ k =>
    refine ⟨fun ⟨p, q, h1, _⟩ => ?_, fun z => absurd z (by omega)⟩
    have := h1.2
    rw [Nat.zero_testBit] at this
    cases this
theorem bS_cg {E : Nat → Nat → Prop} {S T : Nat → Prop} {m : Nat} (h : ∀ a, S a ↔ T a) (hm : isM E S m) : isM E T m := by
  have : S = T := funext fun a => propext (h a)
  rw [← this]; exact hm
theorem or_add : ∀ l, l < 6 → ∀ o, o < 64 → o < 2 ^ l → o ||| 2 ^ l = 2 ^ l + o := by decide +kernel
theorem or_bits : ∀ l, l < 6 → ∀ o, o < 64 → o < 2 ^ l → (2 ^ l + o).testBit l = true ∧ clr (2 ^ l + o) l = o ∧ 2 ^ l + o < 64 := by decide +kernel
theorem lo_bits {o l a : Nat} (ho : o < 2 ^ l) (ha : o.testBit a = true) : a < l := by
  refine Nat.not_le.mp fun z => ?_
  have := Nat.testBit_lt_two_pow (Nat.lt_of_lt_of_le ho (Nat.pow_le_pow_right (by decide) z))
  rw [ha] at this; cases this
theorem sh6 : ∀ l, l < 7 → (1 : Int32) <<< (nI l &&& 31) = nI (2 ^ l) := by decide +kernel
theorem p2l {l n : Nat} (h : l ≤ n) : 2 ^ l ≤ 2 ^ n := Nat.pow_le_pow_right (by decide) h
theorem x_mostTwosWith {s : St} {c : Ct} {l o : Nat} {v : Int32} {K : Int32 → St → Prop} (cvs : cv s 11 = c) (hl : l < 6) (ho : o < 2 ^ l) (j3 : ∀ a, a < 2 ^ l + o → tbM c v (s 9) a) (h : ∀ m, m < 2 ^ l + o → isM (eE c v) (bS (2 ^ l + o)) m → K (nI m) s) : w_X3_mostTwosWith (nI l) (nI o) v s K := by
  have p := p2l (show l ≤ 5 by omega)
  have p0 := Nat.two_pow_pos l
  obtain ⟨b1, b2, b3⟩ := or_bits l (by omega) o (by omega) ho
  unfold w_X3_mostTwosWith
  obtain ⟨m0, q1, q2, q3⟩ := j3 o (by omega)
  refine s_at (by omega) (by decide) ?_
  rw [q2]
  have hO : ∀ a, bS o a ↔ bS (2 ^ l + o) a ∧ a ≠ l := fun a => by
    have := bS_clr (a := a) b3 (show l < 6 by omega)
    rw [b2] at this
    exact this
  refine lo_rel (fun i y (m : Nat) => w_X3_mostTwosWith_L13 (nI l) (nI o) v K i (nI m) (nI y) s) (fun y m => m < 2 ^ l + o ∧ acM (eE c v) (bS o) l y m) m0 (Nat.zero_le l) ⟨by omega, acM_0 q3 fun y _ => Nat.zero_le y⟩ (fun m hA i => ?_) (fun i y m _ hy hA hk2 => ?_)
  · rw [w_X3_mostTwosWith_L13, w_X3_mostTwosWith_L13q]
    exact y1 (nI_le (Nat.le_refl l) (by omega)) (h m hA.1 (acM_end eE_sy hA.2 (S := bS (2 ^ l + o)) ⟨by omega, b1⟩ hO fun y hy => lo_bits ho hy.2))
  · rw [w_X3_mostTwosWith_L13, w_X3_mostTwosWith_L13q]
    refine n1 (nI_ge hy (by omega)) (x_townOf (by omega) (x_townOf (by omega) ?_))
    rw [cvs]
    have skip : ¬ (bS o y ∧ eE c v l y) → w_X3_mostTwosWith_b99 (nI l) (nI o) v (fun v4 v5 st => w_X3_mostTwosWith_L13 (nI l) (nI o) v K i v4 v5 st) K (nI m) (nI y) s := fun z => by
      rw [w_X3_mostTwosWith_b99, nI_inc]
      exact hk2 m ⟨hA.1, acM_skip hA.2 z⟩
    have b44 : ∀ t : Int32, (t = 0 → ¬ c 3 y = c 3 l) → (¬ t = 0 → c 3 y = c 3 l) → w_X3_mostTwosWith_b44 (nI l) (nI o) v (fun v4 v5 st => w_X3_mostTwosWith_L13 (nI l) (nI o) v K i v4 v5 st) K (nI m) (nI y) t s := fun t t0 t1 => by
      rw [w_X3_mostTwosWith_b44]
      refine s_bitN (by omega) (by omega) ?_
      by_cases eb : o.testBit y = true
      · rw [if_pos eb]
        refine y2 rfl ⟨fun z => skip fun w => t0 z w.2.1.symm, fun z => x_hateOf (by omega) (by omega) ?_⟩
        rw [cvs]
        by_cases eh : c 4 (hI y l) < v
        · refine y1 eh (skip fun w => ?_)
          have := w.2.2
          rw [hI_comm] at this
          exact i_nlt.mpr this eh
        · refine n1 eh ?_
          rw [clr_I o (by omega) y (by omega)]
          have cl := clr_lt eb
          obtain ⟨m', r1, r2, r3⟩ := j3 (clr o y) (by omega)
          refine s_at (by omega) (by decide) ?_
          rw [r2]
          have ee : eE c v l y := ⟨(t1 z).symm, by rw [hI_comm]; exact i_nlt.mp eh⟩
          have nx := acM_take hA.2 (⟨by omega, eb⟩ : bS o y) ee (bS_cg (fun a => bS_clr (by omega) (by omega)) r3)
          rw [w_X3_mostTwosWith_b99, nI_inc]
          have e1 : (1 : Int32) + nI m' = nI (1 + m') := nI_add 1 m'
          rw [e1]
          have e2 : (if nI m < nI (1 + m') then nI (1 + m') else nI m) = nI (if m < 1 + m' then 1 + m' else m) := by
            by_cases lt : m < 1 + m'
            · rw [if_pos ((nJ_lt (by omega) (by omega)).mpr lt), if_pos lt]
            · rw [if_neg (fun q => lt ((nJ_lt (by omega) (by omega)).mp q)), if_neg lt]
          rw [e2]
          refine hk2 _ ⟨?_, nx⟩
          have hm := hA.1
          split <;> omega
      · rw [if_neg eb]
        exact n2 (by decide) (skip fun w => eb w.1.2)
    exact ⟨fun z => b44 0 (fun _ => z) (fun w => absurd rfl w), fun z => b44 1 (fun w => absurd w (by decide)) (fun _ => z)⟩
theorem x_mostTwos {st : St} {n : Nat} {v : Int32} {K : Int32 → St → Prop} (hn : n ≤ 6) (h7 : st 11 7 = nI n) (h9 : st 9 0 = 0) (h : ∀ m s, isM (eE (cv st 11) v) (bS (2 ^ n - 1)) m → (∀ j, j ≠ 9 → s j = st j) → s 9 0 = 0 → K (nI m) s) : w_X3_mostTwos v st K := by
  unfold w_X3_mostTwos
  refine lo_rel (fun k l (s : St) => w_X3_mostTwos_L2 v K k (nI l) s) (fun l s => (∀ j, j ≠ 9 → s j = st j) ∧ s 9 0 = 0 ∧ ∀ a, a < 2 ^ l → tbM (cv st 11) v (s 9) a) st (Nat.zero_le n) ⟨fun _ _ => rfl, h9, fun a ha => by
    rw [Nat.pow_zero] at ha
    have : a = 0 := by omega
    subst this
    exact ⟨0, Nat.le_refl 0, h9, isM_0⟩⟩ (fun s hI k => ?_) (fun k l s _ hl hI hw => ?_)
  · obtain ⟨i1, i2, i3⟩ := hI
    rw [w_X3_mostTwos_L2, w_X3_mostTwos_L2q]
    unfold w_X1_keeperCount
    rw [i1 11 (by decide), h7]
    refine y1 (nI_le (Nat.le_refl n) (by omega)) ?_
    rw [w_X3_mostTwos_b53]
    unfold w_X1_keeperCount
    rw [i1 11 (by decide), h7]
    show w_X8_at 9 64 (((1 : Int32) <<< (nI n &&& 31)) - 1) s (fun r68 st68 => K r68 st68)
    have p := p2l hn
    have p0 := Nat.two_pow_pos n
    rw [sh6 n (by omega), show nI (2 ^ n) - 1 = nI (2 ^ n - 1) from nI_sub' (b := 1) p0]
    obtain ⟨m, m1, m2, m3⟩ := i3 (2 ^ n - 1) (by omega)
    refine s_at (by omega) (by decide) ?_
    rw [m2]
    exact h m s m3 i1 i2
  · obtain ⟨i1, i2, i3⟩ := hI
    rw [w_X3_mostTwos_L2, w_X3_mostTwos_L2q]
    unfold w_X1_keeperCount
    rw [i1 11 (by decide), h7]
    refine n1 (nI_ge hl (by omega)) ?_
    have p := p2l (show l ≤ 5 by omega)
    have p0 := Nat.two_pow_pos l
    refine lo_rel (fun j o (s : St) => w_X3_mostTwos_L15 v (fun v2 st => w_X3_mostTwos_L2 v K k v2 st) K j (nI l) (nI o) s) (fun o s => (∀ j, j ≠ 9 → s j = st j) ∧ s 9 0 = 0 ∧ ∀ a, a < 2 ^ l + o → tbM (cv st 11) v (s 9) a) s (Nat.zero_le (2 ^ l)) ⟨i1, i2, i3⟩ (fun s hJ j => ?_) (fun j o s _ ho hJ hk => ?_)
    · rw [w_X3_mostTwos_L15, w_X3_mostTwos_L15q, sh6 l (by omega)]
      refine y1 (nI_le (Nat.le_refl _) (by omega)) ?_
      rw [w_X3_mostTwos_b47, nI_inc]
      exact hw s ⟨hJ.1, hJ.2.1, fun a ha => hJ.2.2 a (by rw [Nat.pow_succ] at ha; omega)⟩
    · obtain ⟨j1, j2, j3⟩ := hJ
      obtain ⟨b1, b2, b3⟩ := or_bits l (by omega) o (by omega) ho
      rw [w_X3_mostTwos_L15, w_X3_mostTwos_L15q, sh6 l (by omega)]
      refine n1 (nI_ge ho (by omega)) ?_
      refine x_mostTwosWith (c := cv st 11) (cv_eq fun a h1 h2 => j1 a (by omega)) (by omega) ho j3 fun m m1 mM => ?_
      have eor : nI o ||| nI (2 ^ l) = nI (2 ^ l + o) := by
        have e := or_bit o (by omega) l (by omega)
        rw [show lbit l = nI (2 ^ l) from sh6 l (by omega)] at e
        rw [e, or_add l (by omega) o (by omega) ho]
      rw [eor]
      refine s_put b3 (by decide) ?_
      rw [nI_inc]
      refine hk _ ⟨fun j hj => by rw [u2_off hj]; exact j1 j hj, by rw [u2_ne (Or.inr (by omega))]; exact j2, fun a ha => ?_⟩
      by_cases e : a = 2 ^ l + o
      · subst e
        exact ⟨m, by omega, u2_same, mM⟩
      · obtain ⟨m', r1, r2, r3⟩ := j3 a (by omega)
        exact ⟨m', r1, by rw [u2_ne (Or.inr e)]; exact r2, r3⟩
/-! the check's -/
theorem low_bit : ∀ s, s < 64 → 0 < s → ∃ p, p < 6 ∧ s.testBit p = true ∧ ∀ a, a < p → s.testBit a = false := by decide +kernel
theorem t_findTwos {n nL S : Nat} {v : Int32} {mt : St} {c : Ct} {K : St → Prop} (hm : RM n nL mt c) (g : gC n nL c) (hS : S < 2 ^ n) (hS0 : 0 < S) (j3 : ∀ a, a < S → tbM c v (mt 15) a) (hk : ∀ m, m ≤ S → isM (eE c v) (bS S) m → K (u2 mt 15 S (nI m))) : w_X9_findTwos (nI S) v mt K := by
  have hn := hm.1.1
  have h8 := hm.2.2.1
  have p := p2l hn
  obtain ⟨x, x1, x2, x3⟩ := low_bit S (by omega) hS0
  have xn : x < n := lo_bits hS x2
  unfold w_X9_findTwos
  refine lo_rel (fun m i (_ : Unit) => w_X9_findTwos_L2 (nI S) v K m (nI i) mt) (fun i _ => True) () (Nat.zero_le x) trivial (fun _ _ m => ?_) (fun m i _ _ hi _ hw => ?_)
  · rw [w_X9_findTwos_L2, w_X9_findTwos_L2q]
    refine t_hasN (by omega) (by omega) ?_
    rw [if_pos x2]
    refine n2 (by decide) ?_
    rw [w_X9_findTwos_b16, clr_I S (by omega) x x1]
    have cl := clr_lt x2
    obtain ⟨m0, q1, q2, q3⟩ := j3 (clr S x) cl
    refine ⟨vp_in_nI (by omega) (by decide), ?_⟩
    rw [clI (show clr S x < 64 by omega) (by decide), q2, nI_inc]
    have hO : ∀ a, bS (clr S x) a ↔ bS S a ∧ a ≠ x := fun a => bS_clr (by omega) x1
    have up : ∀ y, bS (clr S x) y → x + 1 ≤ y := fun y hy => by
      have := (hO y).mp hy
      refine Nat.not_lt.mp fun z => ?_
      have := x3 y (by have := this.2; omega)
      rw [((hO y).mp hy).1.2] at this
      cases this
    refine lo_rel (fun k y (m : Nat) => w_X9_findTwos_L39 (nI S) v K k (nI x) (nI (clr S x)) (nI m) (nI y) mt) (fun y m => m ≤ S ∧ acM (eE c v) (bS (clr S x)) x y m) m0 (show x + 1 ≤ n by omega) ⟨by omega, acM_0 q3 up⟩ (fun m hA k => ?_) (fun k y m hy1 hy hA hk2 => ?_)
    · rw [w_X9_findTwos_L39, w_X9_findTwos_L39q, h8]
      refine y1 (nI_le (Nat.le_refl n) (by omega)) ?_
      rw [w_X9_findTwos_b127, clI (show S < 64 by omega) (by decide)]
      exact ⟨vp_in_nI (by omega) (by decide), hk m hA.1 (acM_end eE_sy hA.2 (S := bS S) ⟨x1, x2⟩ hO fun y hy => lo_bits hS ((hO y).mp hy).1.2)⟩
    · rw [w_X9_findTwos_L39, w_X9_findTwos_L39q, h8]
      refine n1 (nI_ge hy (by omega)) (t_hasN (by omega) (by omega) ?_)
      have skip : ¬ (bS (clr S x) y ∧ eE c v x y) → w_X9_findTwos_b121 (nI S) v (fun v3 v4 v5 v6 st => w_X9_findTwos_L39 (nI S) v K k v3 v4 v5 v6 st) K (nI x) (nI (clr S x)) (nI m) (nI y) mt := fun z => by
        rw [w_X9_findTwos_b121, nI_inc]
        exact hk2 m ⟨hA.1, acM_skip hA.2 z⟩
      by_cases eb : S.testBit y = true
      · rw [if_pos eb]
        have vx : vp_in (nI x) 6 := vp_in_nI (by omega) (by decide)
        have vy : vp_in (nI y) 6 := vp_in_nI (by omega) (by decide)
        have oy : bS (clr S x) y := (hO y).mpr ⟨⟨by omega, eb⟩, by omega⟩
        refine n1 (by decide) ⟨vx, vy, ?_⟩
        rw [clI (show x < 6 by omega) (by decide), clI (show y < 6 by omega) (by decide), hm.town g xn, hm.town g hy]
        by_cases et : c 3 x = c 3 y
        · refine y2 et (t_hateOf (by omega) (by omega) ?_)
          rw [hm.hate xn hy (by omega)]
          by_cases eh : v ≤ c 4 (hI x y)
          · refine y1 eh ?_
            rw [clr_I (clr S x) (by omega) y (by omega)]
            have cl2 := clr_lt oy.2
            obtain ⟨m', r1, r2, r3⟩ := j3 (clr (clr S x) y) (by omega)
            refine ⟨vp_in_nI (by omega) (by decide), ?_⟩
            rw [clI (show clr (clr S x) y < 64 by omega) (by decide), r2]
            have e1 : (1 : Int32) + nI m' = nI (1 + m') := nI_add 1 m'
            rw [e1]
            have nx := acM_take hA.2 oy ⟨et, eh⟩ (bS_cg (fun a => bS_clr (by omega) (by omega)) r3)
            by_cases lt : m < 1 + m'
            · rw [if_pos lt] at nx
              refine n1 (fun q => absurd ((nJ_le (by omega) (by omega)).mp q) (by omega)) ?_
              rw [w_X9_findTwos_b119, w_X9_findTwos_b121, nI_inc]
              exact hk2 _ ⟨by omega, nx⟩
            · rw [if_neg lt] at nx
              refine y1 (nI_le (by omega) (by omega)) ?_
              rw [w_X9_findTwos_b119, w_X9_findTwos_b121, nI_inc]
              exact hk2 _ ⟨hA.1, nx⟩
          · exact n1 eh (skip fun w => eh w.2.2)
        · exact n2 et (skip fun w => et w.2.1)
      · rw [if_neg eb]
        exact y1 rfl (skip fun w => eb ((hO y).mp w.1).1.2)
  · rw [w_X9_findTwos_L2, w_X9_findTwos_L2q]
    refine t_hasN (by omega) (by omega) ?_
    rw [if_neg (by rw [x3 i hi]; decide)]
    refine y2 rfl ?_
    rw [nI_inc]
    exact hw () trivial
theorem sim_pairs {st mt : St} (h : R st mt) (x1 : Int32) : w_X8_pairs x1 st (fun r st' => w_X9_pairs x1 mt (fun r' mt' => r = r' ∧ R st' mt')) := by
  obtain ⟨n, nL, hm, g, hn, hL, h7, h8, k8, k9⟩ := h.ctx
  have p := p2l hn
  have p0 := Nat.two_pow_pos n
  unfold w_X8_pairs
  refine s_range ?_
  by_cases e : rangeF x1 0 99 = 0
  · rw [e]
    refine y1 rfl (x_mostTwos hn h7 h.2.2.1 fun m s mM i1 i2 => ?_)
    unfold w_X9_pairs
    refine t_bound ?_
    rw [e]
    refine y1 rfl ⟨vp_in_nI (n := 0) (N := 64) (by decide) (by decide), ?_⟩
    have hx : xf st s := ⟨fun j _ h2 => i1 j h2, by rw [i2, h.2.2.1], fun z => by
      have : cv s 99 = cv st 99 := cv_eq fun a h1 h2 => i1 a (by omega)
      rw [this]; exact z⟩
    show ∃ k, w_X9_pairs_L27 x1 _ k (nI 1) (u2 mt 15 0 0)
    refine lo_rel (fun k S (t : St) => w_X9_pairs_L27 x1 _ k (nI S) t) (fun S t => (∀ j, j ≠ 15 → t j = mt j) ∧ ∀ a, a < S → tbM (cv st 11) x1 (t 15) a) (u2 mt 15 0 0) (show 1 ≤ 2 ^ n by omega) ⟨fun j hj => u2_off hj, fun a ha => by
      have : a = 0 := by omega
      subst this
      exact ⟨0, Nat.le_refl 0, u2_same, isM_0⟩⟩ (fun t hI k => ?_) (fun k S t hS1 hS hI hk => ?_)
    · obtain ⟨q1, q2⟩ := hI
      rw [w_X9_pairs_L27, w_X9_pairs_L27q, q1 0 (by decide), k8, sh6 n (by omega)]
      refine y1 (nI_le (Nat.le_refl _) (by omega)) ?_
      rw [w_X9_pairs_b49, q1 0 (by decide), k8, sh6 n (by omega), show nI (2 ^ n) - 1 = nI (2 ^ n - 1) from nI_sub' (b := 1) p0, clI (show 2 ^ n - 1 < 64 by omega) (by decide)]
      obtain ⟨m', r1, r2, r3⟩ := q2 (2 ^ n - 1) (by omega)
      refine ⟨vp_in_nI (by omega) (by decide), ?_⟩
      rw [r2, isM_1 mM r3]
      refine ⟨rfl, R_fr h hx ⟨fun i hi => ?_, by rw [q1 0 (by decide)], q1 1 (by decide), q1 9 (by decide), q1 16 (by decide), by rw [q1 0 (by decide)], by rw [q1 0 (by decide)], by rw [q1 0 (by decide)], by rw [q1 0 (by decide)], fun a _ => by rw [q1 13 (by decide)]⟩⟩
      unfold lvM
      rw [q1 2 (by decide), q1 3 (by decide), q1 4 (by decide), q1 5 (by decide), q1 6 (by decide), q1 7 (by decide), q1 8 (by decide), q1 0 (by decide)]
    · obtain ⟨q1, q2⟩ := hI
      rw [w_X9_pairs_L27, w_X9_pairs_L27q, q1 0 (by decide), k8, sh6 n (by omega)]
      refine n1 (nI_ge hS (by omega)) ?_
      have rm : RM n nL t (cv st 11) := RM_off hm (fun j h1 h2 => q1 j (by omega)) (fun i _ _ => by rw [q1 0 (by decide)])
      refine t_findTwos rm g hS (by omega) q2 fun m' r1 r2 => ?_
      rw [nI_inc]
      refine hk _ ⟨fun j hj => by rw [u2_off hj]; exact q1 j hj, fun a ha => ?_⟩
      by_cases ea : a = S
      · subst ea
        exact ⟨m', r1, u2_same, r2⟩
      · obtain ⟨m2, s1, s2, s3⟩ := q2 a (by omega)
        exact ⟨m2, s1, by rw [u2_ne (Or.inr ea)]; exact s2, s3⟩
  · refine n1 e (s_refused (rg_ok e) ?_)
    unfold w_X9_pairs
    exact t_bound (n1 e (t_no (rg_ok e) ⟨rfl, R_ref h (rg_ok e)⟩))
