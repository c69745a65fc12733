/-! pure part: a country by itself, and where it lies -/
abbrev Ct : Type := Nat → Nat → Int32
def cv (st : St) (k : Nat) : Ct := fun j => if j < 8 then st (k + j) else fun _ => 0
def sv (st : St) (k : Nat) (c : Ct) : St := fun i => if k ≤ i ∧ i < k + 8 then c (i - k) else st i
def nC (c : Ct) : Prop := ∀ j, 8 ≤ j → c j = fun _ => 0
theorem sv_at {st : St} {k : Nat} {c : Ct} {j : Nat} (hj : j < 8) : sv st k c (k + j) = c j := by
  unfold sv
  rw [if_pos ⟨by omega, by omega⟩, Nat.add_sub_cancel_left]
theorem sv_0 {st : St} {k : Nat} {c : Ct} : sv st k c k = c 0 := sv_at (j := 0) (by decide)
theorem sv_off {st : St} {k : Nat} {c : Ct} {i : Nat} (h : i < k ∨ k + 8 ≤ i) : sv st k c i = st i := by
  unfold sv
  rw [if_neg (by omega)]
theorem cv_sv {st : St} {k : Nat} {c : Ct} (h : nC c) : cv (sv st k c) k = c := by
  funext j
  unfold cv
  by_cases hj : j < 8
  · rw [if_pos hj, sv_at hj]
  · rw [if_neg hj, h j (by omega)]
theorem cv_off {st : St} {k k' : Nat} {c : Ct} (h : k' + 8 ≤ k ∨ k + 8 ≤ k') : cv (sv st k c) k' = cv st k' := by
  funext j
  unfold cv
  by_cases hj : j < 8
  · rw [if_pos hj, if_pos hj, sv_off (by omega)]
  · rw [if_neg hj, if_neg hj]
theorem sv_cv {st : St} {k : Nat} : sv st k (cv st k) = st := by
  funext i
  unfold sv cv
  split
  next h =>
    rw [if_pos (by omega)]
    congr 1
    omega
  next => rfl
theorem sv_sv {st : St} {k : Nat} {c c' : Ct} : sv (sv st k c) k c' = sv st k c' := by
  funext i
  unfold sv
  split <;> rfl
theorem nC_cv {st : St} {k : Nat} : nC (cv st k) := fun j h => by simp [cv, Nat.not_lt.mpr h]
theorem sv_u1 {st : St} {k : Nat} {c : Ct} {j : Nat} (hj : j < 8) (f : Nat → Int32) : u1 (sv st k c) (k + j) f = sv st k (u1 c j f) := by
  funext a
  unfold u1 sv
  by_cases ha : a = k + j
  · subst ha
    rw [if_pos rfl, if_pos ⟨by omega, by omega⟩, Nat.add_sub_cancel_left]
    exact (if_pos rfl).symm
  · rw [if_neg ha]
    by_cases h : k ≤ a ∧ a < k + 8
    · rw [if_pos h, if_pos h]
      exact (if_neg (by omega)).symm
    · rw [if_neg h, if_neg h]
theorem sv_u2 {st : St} {k : Nat} {c : Ct} {j : Nat} (hj : j < 8) (i : Nat) (v : Int32) : u2 (sv st k c) (k + j) i v = sv st k (u2 c j i v) := by
  unfold u2
  rw [sv_at hj, sv_u1 hj]
theorem sv_u20 {st : St} {k : Nat} {c : Ct} (i : Nat) (v : Int32) : u2 (sv st k c) k i v = sv st k (u2 c 0 i v) := sv_u2 (j := 0) (by decide) i v
theorem nC_u1 {c : Ct} (h : nC c) {j : Nat} (hj : j < 8) (f : Nat → Int32) : nC (u1 c j f) := fun i hi => by
  unfold u1
  rw [if_neg (by omega)]
  exact h i hi
theorem nC_u2 {c : Ct} (h : nC c) {j : Nat} (hj : j < 8) (i : Nat) (v : Int32) : nC (u2 c j i v) := nC_u1 h hj _
theorem u2_same {st : St} {k i : Nat} {v : Int32} : u2 st k i v k i = v := by simp [u2, u1, upd]
theorem u2_ne {st : St} {k i k' i' : Nat} {v : Int32} (h : k' ≠ k ∨ i' ≠ i) : u2 st k i v k' i' = st k' i' := by
  unfold u2 u1 upd
  by_cases h1 : k' = k
  · subst h1
    have h2 : i' ≠ i := h.resolve_left (fun z => z rfl)
    simp [h2]
  · simp [h1]
theorem u2_off {st : St} {k i k' : Nat} {v : Int32} (h : k' ≠ k) : u2 st k i v k' = st k' := by
  unfold u2 u1
  rw [if_neg h]
def hI (p q : Nat) : Nat := 6 * min p q + max p q
theorem hI_lt {p q : Nat} (hp : p < 6) (hq : q < 6) : hI p q < 36 := by unfold hI; omega
theorem hI_e : ∀ p, p < 6 → ∀ q, q < 6 → (((if nI q < nI p then nI q else nI p) * 6) + (if nI p < nI q then nI q else nI p)) = nI (hI p q) := by decide +kernel
theorem s_hateOf {st : St} {k : Nat} {c : Ct} {p q : Nat} {K : Int32 → St → Prop} (hp : p < 6) (hq : q < 6) (h : K (c 4 (hI p q)) (sv st k c)) : w_X1_hateOf k (nI p) (nI q) (sv st k c) K := by
  unfold w_X1_hateOf
  rw [hI_e p hp q hq]
  refine s_at (hI_lt hp hq) (by decide) ?_
  rw [sv_at (by decide)]
  exact h
def heldF (v : Int32) : Int32 := if 0 < (if v < 99 then v else 99) then (if v < 99 then v else 99) else 0
theorem s_setHate {st : St} {k : Nat} {c : Ct} {p q : Nat} {v : Int32} {K : St → Prop} (hp : p < 6) (hq : q < 6) (h : K (sv st k (u2 c 4 (hI p q) (heldF v)))) : w_X1_setHate k (nI p) (nI q) v (sv st k c) K := by
  unfold w_X1_setHate
  rw [hI_e p hp q hq]
  refine s_put (hI_lt hp hq) (by decide) ?_
  rw [sv_u2 (by decide)]
  exact h
