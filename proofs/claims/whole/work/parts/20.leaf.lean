/-! pure part: folds, numbers, the leaves -/
def fo {σ : Type} : Nat → (Nat → σ → σ) → σ → σ
  | 0, _, s => s
  | n + 1, f, s => f n (fo n f s)
def fr {σ : Type} (a n : Nat) (f : Nat → σ → σ) (s : σ) : σ := fo (n - a) (fun i => f (a + i)) s
theorem fr_self {σ : Type} (a : Nat) (f : Nat → σ → σ) (s : σ) : fr a a f s = s := by simp [fr, fo]
theorem fr_succ {σ : Type} {a i : Nat} (h : a ≤ i) (f : Nat → σ → σ) (s : σ) : fr a (i + 1) f s = f i (fr a i f s) := by
  have e : i + 1 - a = (i - a) + 1 := by omega
  simp only [fr, e, fo]
  rw [Nat.add_sub_cancel' h]
/-- a loop that counts: its state goes by f -/
theorem lo_fr {σ : Type} (W : Nat → Nat → σ → Prop) (f : Nat → σ → σ) (I : Nat → σ → Prop) {e i0 : Nat} (s0 : σ) (hi : i0 ≤ e) (h0 : I i0 s0) (hI : ∀ i s, i0 ≤ i → i < e → I i s → I (i + 1) (f i s))
    (hx : I e (fr i0 e f s0) → ∀ n, W (n + 1) e (fr i0 e f s0)) (hs : ∀ n i s, i0 ≤ i → i < e → I i s → W n (i + 1) (f i s) → W (n + 1) i s) : ∃ n, W n i0 s0 := by
  have key : ∀ d i, i0 ≤ i → i + d = e → I i (fr i0 i f s0) → W (d + 1) i (fr i0 i f s0) := by
    intro d
    induction d with
    | zero =>
      intro i h1 h2 h3
      have : i = e := by omega
      subst this
      exact hx h3 0
    | succ d ih =>
      intro i h1 h2 h3
      have h4 := ih (i + 1) (by omega) (by omega) (by rw [fr_succ h1]; exact hI i _ h1 (by omega) h3)
      rw [fr_succ h1] at h4
      exact hs (d + 1) i _ h1 (by omega) h3 h4
  have h := key (e - i0) i0 (Nat.le_refl _) (by omega) (by rw [fr_self]; exact h0)
  rw [fr_self] at h
  exact ⟨_, h⟩
theorem fr_inv {σ : Type} (I : Nat → σ → Prop) (f : Nat → σ → σ) {e i0 : Nat} {s0 : σ} (hi : i0 ≤ e) (h0 : I i0 s0) (hI : ∀ i s, i0 ≤ i → i < e → I i s → I (i + 1) (f i s)) : I e (fr i0 e f s0) := by
  have key : ∀ d i, i0 ≤ i → i = i0 + d → i ≤ e → I i (fr i0 i f s0) := by
    intro d
    induction d with
    | zero => intro i h1 h2 h3; have : i = i0 := by omega
              subst this; rw [fr_self]; exact h0
    | succ d ih =>
      intro i h1 h2 h3
      obtain ⟨j, rfl⟩ : ∃ j, i = j + 1 := ⟨i - 1, by omega⟩
      rw [fr_succ (by omega)]
      exact hI j _ (by omega) (by omega) (ih j (by omega) (by omega) (by omega))
  exact key (e - i0) e hi (by omega) (Nat.le_refl _)
theorem n_lt0 {n : Nat} (h : n < 2147483648) : ¬ nI n < 0 := nI_pos h
theorem n_le0 {n : Nat} (h : n < 2147483648) : 0 ≤ nI n := nI_pos' h
theorem i_nlt {x y : Int32} : ¬ x < y ↔ y ≤ x := Int32.not_lt
theorem i_nle {x y : Int32} : ¬ x ≤ y ↔ y < x := Int32.not_le
def atF (n : Nat) (f : Nat → Int32) (x : Int32) : Int32 := if x < 0 then 0 else if nI n ≤ x then 0 else f x.toNatClampNeg
theorem vp_in_of2 {n : Nat} (hn : n < 2147483648) {x : Int32} (h1 : ¬ x < 0) (h2 : ¬ nI n ≤ x) : vp_in x n := by
  obtain ⟨j, hj, rfl⟩ := nI_of h1
  have : j < n := Nat.not_le.mp fun q => h2 (nI_le q hj)
  exact vp_in_nI this hn
theorem s_atX {k n : Nat} {x : Int32} {st : St} {K : Int32 → St → Prop} (hn : n < 2147483648) (h : K (atF n (st k) x) st) : w_X8_at k n x st K := by
  unfold w_X8_at
  refine ⟨fun h1 => ?_, fun h1 => ⟨fun h2 => ?_, fun h2 => ⟨vp_in_of2 hn h1 h2, ?_⟩⟩⟩
  · simpa [atF, h1] using h
  · simpa [atF, h1, h2] using h
  · simpa [atF, h1, h2] using h
theorem atF_in {n i : Nat} (hi : i < n) (hn : n < 2147483648) (f : Nat → Int32) : atF n f (nI i) = f i := by
  simp only [atF, if_neg (n_lt0 (show i < 2147483648 by omega)), if_neg (nI_ge hi hn)]
  rw [nI_clamp (show i < 2 ^ 31 by omega)]
theorem s_at {k n i : Nat} {st : St} {K : Int32 → St → Prop} (hi : i < n) (hn : n < 2147483648) (h : K (st k i) st) : w_X8_at k n (nI i) st K :=
  s_atX hn (by rw [atF_in hi hn]; exact h)
theorem s_put {k n i : Nat} {v : Int32} {st : St} {K : St → Prop} (hi : i < n) (hn : n < 2147483648) (h : K (u2 st k i v)) : w_X8_put k n (nI i) v st K := by
  unfold w_X8_put
  refine ⟨fun h1 => absurd h1 (n_lt0 (by omega)), fun _ => ⟨fun h2 => absurd h2 (nI_ge hi hn), fun _ => ⟨vp_in_nI hi hn, ?_⟩⟩⟩
  rw [nI_clamp (show i < 2 ^ 31 by omega)]
  exact h
def rangeF (v a b : Int32) : Int32 := if v < a then -4 else if b < v then -6 else 0
theorem s_range {v a b : Int32} {st : St} {K : Int32 → St → Prop} (h : K (rangeF v a b) st) : w_X8_range v a b st K := by
  unfold w_X8_range
  simp only [rangeF, i_nle] at *
  refine ⟨fun h1 => ⟨fun h2 => ?_, fun h2 => ?_⟩, fun h1 => ?_⟩
  · rw [if_neg (i_nlt.mpr h1), if_neg (i_nlt.mpr h2)] at h; exact h
  · rw [if_neg (i_nlt.mpr h1), if_pos h2] at h; exact h
  · rw [if_pos h1] at h; exact h
def choiceF (v g : Int32) : Int32 := if v < 0 then -2 else if g < v then -2 else 0
theorem s_choice {v g : Int32} {st : St} {K : Int32 → St → Prop} (h : K (choiceF v g) st) : w_X8_choice v g st K := by
  unfold w_X8_choice
  refine ⟨fun h1 => ?_, fun h1 => ⟨fun h2 => ?_, fun h2 => ?_⟩⟩ <;> simpa [choiceF, h1, *] using h
def firstF (a b c : Int32) : Int32 := if a = 0 then (if b = 0 then c else b) else a
theorem s_firstOf {a b c : Int32} {st : St} {K : Int32 → St → Prop} (h : K (firstF a b c) st) : w_X8_firstOf a b c st K := by
  unfold w_X8_firstOf
  refine ⟨fun h1 => ⟨fun h2 => ?_, fun h2 => ?_⟩, fun h1 => ?_⟩ <;> simpa [firstF, h1, *] using h
def bitF (b x : Int32) : Int32 := if x < 0 then 0 else if 31 ≤ x then 0 else (b >>> (x &&& 31)) &&& 1
theorem s_bit {b x : Int32} {st : St} {K : Int32 → St → Prop} (h : K (bitF b x) st) : w_X8_bit b x st K := by
  unfold w_X8_bit
  refine ⟨fun h1 => ?_, fun h1 => ⟨fun h2 => ?_, fun h2 => ?_⟩⟩ <;> simpa [bitF, h1, *] using h
def townF (x : Int32) : Int32 := if x < 0 then 0 else if 4 ≤ x then 0 else 1
theorem s_isTown {x : Int32} {st : St} {K : Int32 → St → Prop} (h : K (townF x) st) : w_X8_isTown x st K := by
  unfold w_X8_isTown
  refine ⟨fun h1 => ?_, fun h1 => ⟨fun h2 => ?_, fun h2 => ?_⟩⟩ <;> simpa [townF, h1, *] using h
theorem s_twoName {p q : Nat} {st : St} {K : Int32 → St → Prop} (hp : p < 6) (hq : q < 6) (h : K (nI (10 * min p q + max p q)) st) : w_X8_twoName (nI p) (nI q) st K := by
  unfold w_X8_twoName
  have e : ∀ p, p < 6 → ∀ q, q < 6 → (10 * (if nI q < nI p then nI q else nI p)) + (if nI p < nI q then nI q else nI p) = nI (10 * min p q + max p q) := by decide +kernel
  rw [e p hp q hq]; exact h
theorem s_copy {k n k' : Nat} {st : St} {K : St → Prop} (hn : n < 2147483648) (h : K (u1 st k' (va_cpy (st k) (st k') 0 0 n))) : w_X8_copy k n k' n st K := by
  unfold w_X8_copy
  have e : (if nI n < nI n then nI n else nI n) = nI n := by split <;> rfl
  rw [e, nI_clamp (show n < 2 ^ 31 from hn)]
  exact ⟨⟨n_lt0 hn, Nat.le_refl _, Nat.le_refl _⟩, h⟩
def pc (n : Nat) : Nat := (List.range 10).foldl (fun s i => s + (n / 2 ^ i) % 2) 0
def ushF (x : Int32) (s : Int32) : Int32 := (x.toUInt32 >>> (s.toUInt32 &&& Int32.toUInt32 31)).toInt32
def bc1 (x : Int32) : Int32 := x - (ushF x 1 &&& 1431655765)
def bc2 (a : Int32) : Int32 := (a &&& 858993459) + (ushF a 2 &&& 858993459)
def bc3 (b : Int32) : Int32 := (b + ushF b 4) &&& 252645135
def bc4 (d : Int32) : Int32 := d + ushF d 8
def bc5 (e : Int32) : Int32 := e + ushF e 16
def bcF (x : Int32) : Int32 := bc5 (bc4 (bc3 (bc2 (bc1 x)))) &&& 63
theorem bcF_pc : ∀ n, n < 256 → bcF (nI n) = nI (pc n) := by decide +kernel
theorem s_bitCount {n : Nat} {st : St} {K : Int32 → St → Prop} (hn : n < 256) (h : K (nI (pc n)) st) : w_J6_bitCount_0f7a4 (nI n) st K := by
  rw [← bcF_pc n hn] at h
  exact h
