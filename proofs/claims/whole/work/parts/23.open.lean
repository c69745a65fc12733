/-! pure part: who opens what, and the letters of a week -/
def oI : Option (Nat × Nat) → Int32
  | none => -9
  | some (p, q) => nI (10 * p + q)
theorem s_bothIn {st : St} {k : Nat} {c : Ct} {t : Int32} {p q : Nat} {K : Int32 → St → Prop} (hp : p < 6) (hq : q < 6) (h : K (if c 3 p = t ∧ c 3 q = t then 1 else 0) (sv st k c)) : w_X1_areBothIn k t (nI p) (nI q) (sv st k c) K := by
  unfold w_X1_areBothIn
  refine s_at hp (by decide) ?_
  rw [sv_3]
  refine ⟨fun h1 => ?_, fun h1 => s_at hq (by decide) ?_⟩
  · rw [if_neg (fun z => h1 z.1)] at h; exact h
  · rw [sv_3]
    refine ⟨fun h2 => ?_, fun h2 => ?_⟩
    · rw [if_neg (fun z => h2 z.2)] at h; exact h
    · rw [if_pos ⟨h1, h2⟩] at h; exact h
def oS (c : Ct) (t d : Int32) (p q : Nat) (s : Option (Nat × Nat) × Int32) : Option (Nat × Nat) × Int32 :=
  if c 3 p = t ∧ c 3 q = t then (if c 4 (hI p q) < d then s else if s.2 ≤ c 4 (hI p q) then s else (some (p, q), c 4 (hI p q))) else s
def opS (c : Ct) (n : Nat) (t d : Int32) : Option (Nat × Nat) × Int32 := fr 0 n (fun p s => fr (p + 1) n (fun q s => oS c t d p q s) s) (none, 100)
theorem m10 {p q : Nat} (h : p < q) : 10 * min p q + max p q = 10 * p + q := by omega
theorem s_op44 {st : St} {k n p : Nat} {c : Ct} {t d x1 : Int32} {s : Option (Nat × Nat) × Int32} {c29 : Int32 → Int32 → Int32 → Int32 → Int32 → St → Prop} {K : Int32 → St → Prop} (hp : p < n) (hn : n ≤ 6) (h7 : c 0 7 = nI n) (hd : (-9) < d)
    (h : c29 t d (oI (fr (p + 1) n (fun q s => oS c t d p q s) s).1) (fr (p + 1) n (fun q s => oS c t d p q s) s).2 (nI (p + 1)) (sv st k c)) : ∃ m, w_X1_opener_L44 k x1 c29 K m t d (oI s.1) s.2 (nI p) (nI (p + 1)) (sv st k c) := by
  refine lo_fr (fun m q s => w_X1_opener_L44 k x1 c29 K m t d (oI s.1) s.2 (nI p) (nI q) (sv st k c)) (fun q s => oS c t d p q s) (fun _ _ => True) s (show p + 1 ≤ n by omega) trivial (fun _ _ _ _ _ => trivial) (fun _ m => ?_) (fun m q s h1 h2 _ hw => ?_)
  · rw [w_X1_opener_L44, w_X1_opener_L44q, sv_0, h7]
    refine ⟨fun _ => ?_, fun h9 => absurd (nI_le (Nat.le_refl n) (by omega)) h9⟩
    rw [w_X1_opener_b112, nI_inc]
    exact h
  · rw [w_X1_opener_L44, w_X1_opener_L44q, sv_0, h7]
    refine ⟨fun h9 => absurd h9 (nI_ge h2 (by omega)), fun _ => ?_⟩
    refine s_bothIn (by omega) (by omega) ?_
    by_cases hb : c 3 p = t ∧ c 3 q = t
    · rw [if_pos hb]
      refine ⟨fun h9 => absurd h9 (by decide), fun _ => s_hateOf (by omega) (by omega) ?_⟩
      simp only [oS, if_pos hb] at hw
      rw [w_X1_opener_b78, w_X1_opener_b106, nI_inc]
      refine ⟨fun h3 => ?_, fun h3 => ⟨fun h4 => ?_, fun h4 => s_twoName (by omega) (by omega) ?_⟩⟩
      · rw [if_pos h3] at hw; exact hw
      · rw [if_neg h3, if_pos h4] at hw; exact hw
      · rw [if_neg h3, if_neg h4] at hw
        rw [w_X1_opener_b106, nI_inc, m10 (by omega)]
        exact hw
    · rw [if_neg hb]
      refine ⟨fun _ => ?_, fun h9 => absurd rfl h9⟩
      simp only [oS, if_neg hb] at hw
      rw [w_X1_opener_b78, w_X1_opener_b106, nI_inc]
      exact ⟨fun _ => hw, fun h3 => absurd hd h3⟩
theorem s_op29 {st : St} {k n : Nat} {c : Ct} {t d x1 : Int32} {K : Int32 → St → Prop} (hn : n ≤ 6) (h7 : c 0 7 = nI n) (hd : (-9) < d) (h : K (oI (opS c n t d).1) (sv st k c)) :
    ∃ m, w_X1_opener_L29 k x1 K m t d (-9) 100 0 (sv st k c) := by
  refine lo_fr (fun m p s => w_X1_opener_L29 k x1 K m t d (oI s.1) s.2 (nI p) (sv st k c)) (fun p s => fr (p + 1) n (fun q s => oS c t d p q s) s) (fun _ _ => True) (none, 100) (Nat.zero_le n) trivial (fun _ _ _ _ _ => trivial) (fun _ m => ?_) (fun m p s h1 h2 _ hw => ?_)
  · rw [w_X1_opener_L29, w_X1_opener_L29q, sv_0, h7]
    exact ⟨fun _ => h, fun h9 => absurd (nI_le (Nat.le_refl n) (by omega)) h9⟩
  · rw [w_X1_opener_L29, w_X1_opener_L29q, sv_0, h7]
    refine ⟨fun h9 => absurd h9 (nI_ge h2 (by omega)), fun _ => ?_⟩
    rw [nI_inc]
    exact s_op44 h2 hn h7 hd hw
def openerF (c : Ct) (n l : Nat) : Option (Nat × Nat) := (opS c n (c 6 l) (c 5 l)).1
theorem s_opener {st : St} {k n l : Nat} {c : Ct} {K : Int32 → St → Prop} (hl : l < 6) (hn : n ≤ 6) (h7 : c 0 7 = nI n) (hd : (-9) < c 5 l) (h : K (oI (openerF c n l)) (sv st k c)) : w_X1_opener k (nI l) (sv st k c) K := by
  unfold w_X1_opener
  refine s_at hl (by decide) (s_at hl (by decide) ?_)
  rw [sv_6, sv_5]
  exact s_op29 hn h7 hd h
theorem opS_in {c : Ct} {n : Nat} {t d : Int32} : ∀ a b, (opS c n t d).1 = some (a, b) → a < b ∧ b < n ∧ c 3 a = t ∧ c 3 b = t ∧ d ≤ c 4 (hI a b) := by
  refine fr_inv (fun _ (s : Option (Nat × Nat) × Int32) => ∀ a b, s.1 = some (a, b) → a < b ∧ b < n ∧ c 3 a = t ∧ c 3 b = t ∧ d ≤ c 4 (hI a b)) _ (Nat.zero_le n) (fun a b h => by cases h) (fun p s _ hp hs => ?_)
  refine fr_inv (fun _ (s : Option (Nat × Nat) × Int32) => ∀ a b, s.1 = some (a, b) → a < b ∧ b < n ∧ c 3 a = t ∧ c 3 b = t ∧ d ≤ c 4 (hI a b)) _ (show p + 1 ≤ n by omega) hs (fun q s h1 h2 hs => ?_)
  unfold oS
  split
  next hb =>
    split
    next => exact hs
    next h3 =>
      split
      next => exact hs
      next =>
        intro a b e
        cases e
        exact ⟨by omega, h2, hb.1, hb.2, i_nlt.mp h3⟩
  next => exact hs
theorem s_isOpen {st : St} {k : Nat} {c : Ct} {x : Int32} {K : Int32 → St → Prop} (h : K (if bitF (c 0 9) x = 1 then 1 else 0) (sv st k c)) : w_X1_isOpen k x (sv st k c) K := by
  unfold w_X1_isOpen
  refine s_bit ?_
  rw [sv_0]
  refine ⟨fun h1 => ?_, fun h1 => ?_⟩
  · rw [if_neg h1] at h; exact h
  · rw [if_pos h1] at h; exact h
theorem o10 : ∀ p, p < 6 → ∀ q, q < 6 → nI (10 * p + q) / 10 = nI p ∧ nI (10 * p + q) - nI (10 * p + q) / 10 * 10 = nI q ∧ ¬ nI (10 * p + q) = -9 := by decide +kernel
def lbit (l : Nat) : Int32 := (1 : Int32) <<< (nI l &&& 31)
def opens (c : Ct) (l p q : Nat) : Ct := u2 (u2 (u2 c 0 9 (c 0 9 ||| lbit l)) 7 l (nI (10 * p + q))) 4 (hI p q) (heldF (c 4 (hI p q) - 5))
def stepL (n l : Nat) (s : Int32 × Ct) : Int32 × Ct := if bitF (s.2 0 9) (nI l) = 1 then s else match openerF s.2 n l with
  | none => s
  | some (p, q) => (s.1 ||| lbit l, opens s.2 l p q)
theorem opens_off {c : Ct} {l p q j : Nat} (h0 : j ≠ 0) (h4 : j ≠ 4) (h7 : j ≠ 7) : opens c l p q j = c j := by
  unfold opens
  rw [u2_off h4, u2_off h7, u2_off h0]
theorem opens_0 {c : Ct} {l p q i : Nat} (h : i ≠ 9) : opens c l p q 0 i = c 0 i := by
  unfold opens
  rw [u2_off (by decide), u2_off (by decide), u2_ne (Or.inr h)]
theorem stepL_off {n l : Nat} {s : Int32 × Ct} {j : Nat} (h0 : j ≠ 0) (h4 : j ≠ 4) (h7 : j ≠ 7) : (stepL n l s).2 j = s.2 j := by
  unfold stepL
  split
  · rfl
  · split
    · rfl
    · exact opens_off h0 h4 h7
theorem stepL_0 {n l : Nat} {s : Int32 × Ct} {i : Nat} (h : i ≠ 9) : (stepL n l s).2 0 i = s.2 0 i := by
  unfold stepL
  split
  · rfl
  · split
    · rfl
    next p q _ =>
      show opens s.2 l p q 0 i = s.2 0 i
      exact opens_0 h
def dOk (nL : Nat) (c : Ct) : Prop := ∀ l, l < nL → (-9) < c 5 l
theorem s_pw67 {st : St} {k n nL : Nat} {c : Ct} {K : Int32 → St → Prop} (hn : n ≤ 6) (hL : nL ≤ 6) (h7 : c 0 7 = nI n) (h8 : c 0 8 = nI nL) (hd : dOk nL c) (h : K (fr 0 nL (stepL n) (0, c)).1 (sv st k (fr 0 nL (stepL n) (0, c)).2)) :
    ∃ m, w_X1_passWeek_L67 k K m 0 0 (sv st k c) := by
  refine lo_fr (fun m l (s : Int32 × Ct) => w_X1_passWeek_L67 k K m s.1 (nI l) (sv st k s.2)) (stepL n) (fun _ s => s.2 0 7 = nI n ∧ s.2 0 8 = nI nL ∧ dOk nL s.2) (0, c) (Nat.zero_le nL) ⟨h7, h8, hd⟩
    (fun l s _ _ hI => ⟨by rw [stepL_0 (by decide)]; exact hI.1, by rw [stepL_0 (by decide)]; exact hI.2.1, fun j hj => by rw [stepL_off (by decide) (by decide) (by decide)]; exact hI.2.2 j hj⟩) (fun hI m => ?_) (fun m l s _ h2 hI hw => ?_)
  · rw [w_X1_passWeek_L67, w_X1_passWeek_L67q, sv_0, hI.2.1]
    exact ⟨fun _ => h, fun h9 => absurd (nI_le (Nat.le_refl nL) (by omega)) h9⟩
  · rw [w_X1_passWeek_L67, w_X1_passWeek_L67q, sv_0, hI.2.1]
    refine ⟨fun h9 => absurd h9 (nI_ge h2 (by omega)), fun _ => s_isOpen ?_⟩
    by_cases hb : bitF (s.2 0 9) (nI l) = 1
    · rw [if_pos hb]
      refine ⟨fun h9 => absurd h9 (by decide), fun _ => ?_⟩
      simp only [stepL, if_pos hb] at hw
      rw [w_X1_passWeek_b93, w_X1_passWeek_b153, nI_inc]
      exact ⟨fun _ => hw, fun h9 => absurd rfl h9⟩
    · rw [if_neg hb]
      refine ⟨fun _ => s_opener (by omega) hn hI.1 (hI.2.2 l h2) ?_, fun h9 => absurd rfl h9⟩
      simp only [stepL, if_neg hb] at hw
      rw [w_X1_passWeek_b93, w_X1_passWeek_b153, nI_inc]
      cases ho : openerF s.2 n l with
      | none =>
        rw [ho] at hw
        exact ⟨fun _ => hw, fun h9 => absurd rfl h9⟩
      | some pq =>
        obtain ⟨p, q⟩ := pq
        rw [ho] at hw
        have hpq := opS_in p q ho
        have h10 := o10 p (by omega) q (by omega)
        refine ⟨fun h9 => absurd h9 h10.2.2, fun _ => ?_⟩
        show w_X8_put (k + 7) 6 (nI l) (nI (10 * p + q)) _ _
        rw [sv_u20, sv_0]
        refine s_put (by omega) (by decide) ?_
        rw [sv_u2 (by decide)]
        show w_X1_hateOf k (nI (10 * p + q) / 10) (nI (10 * p + q) - nI (10 * p + q) / 10 * 10) _ _
        rw [h10.2.1, h10.1]
        refine s_hateOf (by omega) (by omega) ?_
        show w_X1_setHate k (nI (10 * p + q) / 10) (nI (10 * p + q) - nI (10 * p + q) / 10 * 10) _ _ _
        rw [h10.2.1, h10.1]
        refine s_setHate (by omega) (by omega) ?_
        rw [u2_off (by decide), u2_off (by decide), w_X1_passWeek_b153, nI_inc]
        exact hw
def weekF (n nL : Nat) (c : Ct) : Int32 × Ct := fr 0 nL (stepL n) (0, hatesF n (u2 c 0 10 (c 0 10 + 1)))
theorem hatesF_off {n : Nat} {c : Ct} {j : Nat} (h : j ≠ 4) : hatesF n c j = c j :=
  fr_inv (fun _ (x : Ct) => x j = c j) _ (Nat.zero_le n) rfl (fun p s _ h2 e => by rw [rowH_off h2 h]; exact e)
theorem s_passWeek {st : St} {k n nL : Nat} {c : Ct} {K : Int32 → St → Prop} (hn : n ≤ 6) (hL : nL ≤ 6) (h7 : c 0 7 = nI n) (h8 : c 0 8 = nI nL) (hd : dOk nL c) (h : K (weekF n nL c).1 (sv st k (weekF n nL c).2)) : w_X1_passWeek k (sv st k c) K := by
  unfold w_X1_passWeek
  rw [sv_0, sv_u20]
  refine s_pw12 hn (by rw [u2_ne (Or.inr (by decide))]; exact h7) ?_
  rw [w_X1_passWeek_b63]
  refine s_pw67 hn hL (by rw [hatesF_off (by decide), u2_ne (Or.inr (by decide))]; exact h7) (by rw [hatesF_off (by decide), u2_ne (Or.inr (by decide))]; exact h8) (fun l hl => by rw [hatesF_off (by decide), u2_off (by decide)]; exact hd l hl) h
