/-! pure part: looks, two: worst, fullest, thickest, mildest, bare, enemy -/
def oN : Option Nat → Int32
  | none => -9
  | some l => nI l
theorem fr_split {σ : Type} {a b c : Nat} (f : Nat → σ → σ) (s : σ) (h1 : a ≤ b) (h2 : b ≤ c) : fr a c f s = fr b c f (fr a b f s) := by
  have key : ∀ d, fr a (b + d) f s = fr b (b + d) f (fr a b f s) := by
    intro d
    induction d with
    | zero => rw [Nat.add_zero, fr_self]
    | succ d ih => rw [show b + (d + 1) = (b + d) + 1 by omega, fr_succ (by omega), fr_succ (by omega), ih]
  have := key (c - b)
  rwa [show b + (c - b) = c by omega] at this
theorem fr_id {σ : Type} {a b : Nat} (f : Nat → σ → σ) (s : σ) (h : a ≤ b) (hf : ∀ i s, a ≤ i → i < b → f i s = s) : fr a b f s = s :=
  fr_inv (fun _ x => x = s) f h rfl (fun i x h1 h2 e => by rw [e]; exact hf i s h1 h2)
theorem fr_cg {σ : Type} {a b : Nat} (f g : Nat → σ → σ) (s : σ) (h : a ≤ b) (hf : ∀ i s, a ≤ i → i < b → f i s = g i s) : fr a b f s = fr a b g s := by
  have key : ∀ d, a + d ≤ b → fr a (a + d) f s = fr a (a + d) g s := by
    intro d
    induction d with
    | zero => intro _; rw [Nat.add_zero, fr_self, fr_self]
    | succ d ih => intro hd; rw [show a + (d + 1) = (a + d) + 1 by omega, fr_succ (by omega), fr_succ (by omega), ih (by omega), hf _ _ (by omega) (by omega)]
  have := key (b - a) (by omega)
  rwa [show a + (b - a) = b by omega] at this
theorem fr_shift {σ : Type} {a b k : Nat} (f : Nat → σ → σ) (s : σ) (h : a ≤ b) : fr (k + a) (k + b) f s = fr a b (fun i => f (k + i)) s := by
  have key : ∀ d, fr (k + a) (k + (a + d)) f s = fr a (a + d) (fun i => f (k + i)) s := by
    intro d
    induction d with
    | zero => rw [Nat.add_zero, fr_self, fr_self]
    | succ d ih => rw [show k + (a + (d + 1)) = (k + (a + d)) + 1 by omega, fr_succ (by omega), show a + (d + 1) = (a + d) + 1 by omega, fr_succ (by omega), ih]
  have := key (b - a)
  rwa [show a + (b - a) = b by omega] at this
/-- ten by ten, the twos alone -/
theorem fr_tens {σ : Type} {n : Nat} (hn : n ≤ 6) (f : Nat → Nat → σ → σ) (s : σ) : fr 0 60 (fun k s => if k / 10 < k % 10 ∧ k % 10 < n then f (k / 10) (k % 10) s else s) s = fr 0 n (fun p s => fr (p + 1) n (fun q s => f p q s) s) s := by
  have row : ∀ p s, p < 6 → fr (10 * p) (10 * p + 10) (fun k s => if k / 10 < k % 10 ∧ k % 10 < n then f (k / 10) (k % 10) s else s) s = if p < n then fr (p + 1) n (fun q s => f p q s) s else s := by
    intro p s hp
    have e1 := fr_shift (a := 0) (b := 10) (k := 10 * p) (fun k s => if k / 10 < k % 10 ∧ k % 10 < n then f (k / 10) (k % 10) s else s) s (by decide)
    rw [Nat.add_zero] at e1
    rw [e1]
    have e2 : fr 0 10 (fun i => (fun k s => if k / 10 < k % 10 ∧ k % 10 < n then f (k / 10) (k % 10) s else s) (10 * p + i)) s = fr 0 10 (fun q s => if p < q ∧ q < n then f p q s else s) s :=
      fr_cg _ _ _ (by decide) fun q s _ hq => by
        show (if (10 * p + q) / 10 < (10 * p + q) % 10 ∧ (10 * p + q) % 10 < n then f ((10 * p + q) / 10) ((10 * p + q) % 10) s else s) = _
        rw [show (10 * p + q) / 10 = p by omega, show (10 * p + q) % 10 = q by omega]
    rw [e2]
    by_cases h : p < n
    · rw [if_pos h, fr_split (a := 0) (b := p + 1) (c := 10) _ _ (by omega) (by omega), fr_id (a := 0) (b := p + 1) _ _ (by omega) (fun i s _ hi => if_neg (by omega)), fr_split (a := p + 1) (b := n) (c := 10) _ _ (by omega) (by omega), fr_id (a := n) (b := 10) _ _ (by omega) (fun i s hi _ => if_neg (by omega))]
      exact fr_cg _ _ _ (by omega) fun q s h1 h2 => if_pos ⟨by omega, h2⟩
    · rw [if_neg h]
      exact fr_id _ _ (by decide) fun i s _ hi => if_neg (by omega)
  have key : ∀ m, m ≤ 6 → fr 0 (10 * m) (fun k s => if k / 10 < k % 10 ∧ k % 10 < n then f (k / 10) (k % 10) s else s) s = fr 0 m (fun p s => if p < n then fr (p + 1) n (fun q s => f p q s) s else s) s := by
    intro m
    induction m with
    | zero => intro _; rfl
    | succ m ih => intro hm; rw [show 10 * (m + 1) = 10 * m + 10 by omega, fr_split (b := 10 * m) _ _ (by omega) (by omega), ih (by omega), row m _ (by omega), fr_succ (by omega)]
  rw [show (60 : Nat) = 10 * 6 by decide, key 6 (by decide), fr_split (b := n) _ _ (by omega) hn, fr_id (a := n) (b := 6) _ _ (by omega) (fun i s hi _ => if_neg (by omega))]
  exact fr_cg _ _ _ (by omega) fun p s _ hp => if_pos hp
def wtS (c : Ct) (p q : Nat) (s : Option (Nat × Nat) × Int32) : Option (Nat × Nat) × Int32 := if c 4 (hI p q) ≤ s.2 then s else (some (p, q), c 4 (hI p q))
def wtF (n : Nat) (c : Ct) : Option (Nat × Nat) × Int32 := fr 0 n (fun p s => fr (p + 1) n (fun q s => wtS c p q s) s) (none, -9)
def fdF (n : Nat) (c : Ct) : Int32 := fr 0 n (fun p s => fr (p + 1) n (fun q (s : Int32) => if c 4 (hI p q) = 0 then s + 1 else s) s) 0
theorem x_worstTwo {st : St} {n : Nat} {w : Int32} {K : Int32 → St → Prop} (hn : n ≤ 6) (h7 : st 11 7 = nI n) (h : K (if w = 0 then (wtF n (cv st 11)).2 else oI (wtF n (cv st 11)).1) st) : w_X3_worstTwo w st K := by
  unfold w_X3_worstTwo
  refine lo_fr (fun m p (s : Option (Nat × Nat) × Int32) => w_X3_worstTwo_L9 w K m (oI s.1) s.2 (nI p) st) (fun p s => fr (p + 1) n (fun q s => wtS (cv st 11) p q s) s) (fun _ _ => True) (none, -9) (Nat.zero_le n) trivial (fun _ _ _ _ _ => trivial) (fun _ m => ?_) (fun m p s _ hp _ hw => ?_)
  · rw [w_X3_worstTwo_L9, w_X3_worstTwo_L9q]
    unfold w_X1_keeperCount
    rw [h7]
    refine y1 (nI_le (Nat.le_refl n) (by omega)) ?_
    rw [w_X3_worstTwo_b86]
    by_cases e : w = 0
    · rw [if_pos e] at h; exact y1 e h
    · rw [if_neg e] at h; exact n1 e h
  · rw [w_X3_worstTwo_L9, w_X3_worstTwo_L9q]
    unfold w_X1_keeperCount
    rw [h7]
    refine n1 (nI_ge hp (by omega)) ?_
    rw [nI_inc]
    refine lo_fr (fun k q (s : Option (Nat × Nat) × Int32) => w_X3_worstTwo_L27 w (fun v2 v3 v4 st => w_X3_worstTwo_L9 w K m v2 v3 v4 st) K k (oI s.1) s.2 (nI p) (nI q) st) (fun q s => wtS (cv st 11) p q s) (fun _ _ => True) s (show p + 1 ≤ n by omega) trivial (fun _ _ _ _ _ => trivial) (fun _ k => ?_) (fun k q s h1 hq _ hw2 => ?_)
    · rw [w_X3_worstTwo_L27, w_X3_worstTwo_L27q]
      unfold w_X1_keeperCount
      rw [h7]
      refine y1 (nI_le (Nat.le_refl n) (by omega)) ?_
      rw [w_X3_worstTwo_b80, nI_inc]
      exact hw
    · rw [w_X3_worstTwo_L27, w_X3_worstTwo_L27q]
      unfold w_X1_keeperCount
      rw [h7]
      refine n1 (nI_ge hq (by omega)) (x_hateOf (by omega) (by omega) ?_)
      unfold wtS at hw2
      by_cases e : cv st 11 4 (hI p q) ≤ s.2
      · rw [if_pos e] at hw2
        refine y1 e ?_
        rw [w_X3_worstTwo_b74, nI_inc]
        exact hw2
      · rw [if_neg e] at hw2
        refine n1 e (x_hateOf (by omega) (by omega) (s_twoName (by omega) (by omega) ?_))
        rw [w_X3_worstTwo_b74, nI_inc, m10 (by omega)]
        exact hw2
theorem x_friends {st : St} {n : Nat} {K : Int32 → St → Prop} (hn : n ≤ 6) (h7 : st 11 7 = nI n) (h : K (fdF n (cv st 11)) st) : w_X3_friends st K := by
  unfold w_X3_friends
  refine lo_fr (fun m p (s : Int32) => w_X3_friends_L4 K m s (nI p) st) (fun p s => fr (p + 1) n (fun q (s : Int32) => if cv st 11 4 (hI p q) = 0 then s + 1 else s) s) (fun _ _ => True) (0 : Int32) (Nat.zero_le n) trivial (fun _ _ _ _ _ => trivial) (fun _ m => ?_) (fun m p s _ hp _ hw => ?_)
  · rw [w_X3_friends_L4, w_X3_friends_L4q]
    unfold w_X1_keeperCount
    rw [h7]
    exact y1 (nI_le (Nat.le_refl n) (by omega)) h
  · rw [w_X3_friends_L4, w_X3_friends_L4q]
    unfold w_X1_keeperCount
    rw [h7]
    refine n1 (nI_ge hp (by omega)) ?_
    rw [nI_inc]
    refine lo_fr (fun k q (s : Int32) => w_X3_friends_L19 (fun v2 v3 st => w_X3_friends_L4 K m v2 v3 st) K k s (nI p) (nI q) st) (fun q (s : Int32) => if cv st 11 4 (hI p q) = 0 then s + 1 else s) (fun _ _ => True) s (show p + 1 ≤ n by omega) trivial (fun _ _ _ _ _ => trivial) (fun _ k => ?_) (fun k q s h1 hq _ hw2 => ?_)
    · rw [w_X3_friends_L19, w_X3_friends_L19q]
      unfold w_X1_keeperCount
      rw [h7]
      refine y1 (nI_le (Nat.le_refl n) (by omega)) ?_
      rw [w_X3_friends_b51, nI_inc]
      exact hw
    · rw [w_X3_friends_L19, w_X3_friends_L19q]
      unfold w_X1_keeperCount
      rw [h7]
      refine n1 (nI_ge hq (by omega)) (x_hateOf (by omega) (by omega) ?_)
      by_cases e : cv st 11 4 (hI p q) = 0
      · rw [if_pos e] at hw2
        refine y2 e ?_
        rw [w_X3_friends_b45, nI_inc]
        exact hw2
      · rw [if_neg e] at hw2
        refine n2 e ?_
        rw [w_X3_friends_b45, nI_inc]
        exact hw2
def wkS (c : Ct) (p q : Nat) (s : (Option (Nat × Nat) × Int32) × Int32) : (Option (Nat × Nat) × Int32) × Int32 := (wtS c p q s.1, if c 4 (hI p q) = 0 then s.2 + 1 else s.2)
theorem fr_pair {σ τ : Type} {a b : Nat} (f : Nat → σ → σ) (g : Nat → τ → τ) (s : σ) (t : τ) (h : a ≤ b) : fr a b (fun i (x : σ × τ) => (f i x.1, g i x.2)) (s, t) = (fr a b f s, fr a b g t) := by
  have key : ∀ d, fr a (a + d) (fun i (x : σ × τ) => (f i x.1, g i x.2)) (s, t) = (fr a (a + d) f s, fr a (a + d) g t) := by
    intro d
    induction d with
    | zero => rw [Nat.add_zero, fr_self, fr_self, fr_self]
    | succ d ih => rw [show a + (d + 1) = (a + d) + 1 by omega, fr_succ (by omega), fr_succ (by omega), fr_succ (by omega), ih]
  have := key (b - a)
  rwa [show a + (b - a) = b by omega] at this
theorem wk_eq {n : Nat} {c : Ct} : fr 0 n (fun p s => fr (p + 1) n (fun q s => wkS c p q s) s) ((none, -9), 0) = (wtF n c, fdF n c) := by
  unfold wtF fdF
  rw [← fr_pair _ _ _ _ (Nat.zero_le n)]
  refine fr_cg _ _ _ (Nat.zero_le n) fun p s _ hp => ?_
  obtain ⟨s1, s2⟩ := s
  exact fr_pair (fun q s => wtS c p q s) (fun q (s : Int32) => if c 4 (hI p q) = 0 then s + 1 else s) s1 s2 (by omega)
theorem k10 : ∀ k, k < 60 → nI k / 10 = nI (k / 10) ∧ nI k - nI k / 10 * 10 = nI (k % 10) := by decide +kernel
theorem t_worstL {n nL : Nat} {mt : St} {c : Ct} {x : Int32} {K : Int32 → St → Prop} (hm : RM n nL mt c) (h : K (if x = 0 then oI (wtF n c).1 else if x = 1 then (wtF n c).2 else fdF n c) mt) : ∃ m, w_X9_worst_L28 x K m (-9) (-9) 0 0 mt := by
  have hn := hm.1.1
  have h8 := hm.2.2.1
  have e := fr_tens hn (wkS c) ((none, -9), 0)
  rw [wk_eq] at e
  refine lo_fr (fun m k (s : (Option (Nat × Nat) × Int32) × Int32) => w_X9_worst_L28 x K m (oI s.1.1) s.1.2 s.2 (nI k) mt) (fun k s => if k / 10 < k % 10 ∧ k % 10 < n then wkS c (k / 10) (k % 10) s else s) (fun _ _ => True) ((none, -9), 0) (Nat.zero_le 60) trivial (fun _ _ _ _ _ => trivial) (fun _ m => ?_) (fun m k s _ hk _ hw => ?_)
  · rw [e, w_X9_worst_L28, w_X9_worst_L28q]
    refine y1 (nI_le (Nat.le_refl 60) (by decide)) ?_
    rw [w_X9_worst_b122]
    by_cases e0 : x = 0
    · rw [if_pos e0] at h; exact y2 e0 h
    · rw [if_neg e0] at h
      refine n2 e0 ?_
      by_cases e1 : x = 1
      · rw [if_pos e1] at h; exact y2 e1 h
      · rw [if_neg e1] at h; exact n2 e1 h
  · rw [w_X9_worst_L28, w_X9_worst_L28q, h8, (k10 k hk).2, (k10 k hk).1]
    refine n1 (nI_ge hk (by decide)) ?_
    by_cases c1 : k / 10 < k % 10
    · refine n1 (nI_ge c1 (by omega)) ?_
      by_cases c2 : k % 10 < n
      · rw [if_pos ⟨c1, c2⟩] at hw
        have eh : mt 5 (6 * (k / 10) + k % 10) = c 4 (hI (k / 10) (k % 10)) := hm.hate (by omega) c2 (by omega)
        have fin : ∀ v : Int32, s.2 + v = (if c 4 (hI (k / 10) (k % 10)) = 0 then s.2 + 1 else s.2) → w_X9_worst_b86 x (fun v2 v3 v4 v5 st => w_X9_worst_L28 x K m v2 v3 v4 v5 st) K (oI s.1.1) s.1.2 (nI k) (nI (k / 10)) (nI (k % 10)) v s.2 mt := by
          intro v ev
          rw [w_X9_worst_b86]
          refine t_hateOf (by omega) (by omega) ?_
          rw [eh]
          unfold wkS wtS at hw
          by_cases e2 : c 4 (hI (k / 10) (k % 10)) ≤ s.1.2
          · rw [if_pos e2] at hw
            refine n1 (i_nlt.mpr e2) ?_
            rw [w_X9_worst_b116, nI_inc, ev]
            exact hw
          · rw [if_neg e2] at hw
            refine y1 (i_nle.mp e2) (t_hateOf (by omega) (by omega) ?_)
            rw [eh, w_X9_worst_b116, nI_inc, ev]
            have e3 : nI k = oI (some (k / 10, k % 10)) := by
              show nI k = nI (10 * (k / 10) + k % 10)
              congr 1; omega
            rw [e3]
            exact hw
        refine y1 ((nJ_lt (by omega) (by omega)).mpr c2) (t_hateOf (by omega) (by omega) ?_)
        rw [eh]
        by_cases e0 : c 4 (hI (k / 10) (k % 10)) = 0
        · exact y2 e0 (fin 1 (by rw [if_pos e0]))
        · exact n2 e0 (fin 0 (by rw [if_neg e0, Int32.add_zero]))
      · rw [if_neg (fun z => c2 z.2)] at hw
        refine n1 (fun z => c2 ((nJ_lt (by omega) (by omega)).mp z)) ?_
        rw [w_X9_worst_b116, nI_inc]
        exact hw
    · rw [if_neg (fun z => c1 z.1)] at hw
      refine y1 (nI_le (by omega) (by omega)) ?_
      rw [w_X9_worst_b116, nI_inc]
      exact hw
theorem sim_worst {st mt : St} (h : R st mt) (x1 : Int32) : w_X8_worst x1 st (fun r st' => w_X9_worst x1 mt (fun r' mt' => r = r' ∧ R st' mt')) := by
  obtain ⟨n, nL, hm, g, hn, hL, h7, h8, k8, k9⟩ := h.ctx
  unfold w_X8_worst
  refine s_choice ?_
  by_cases e : inF x1 0 2 = 0
  · rw [ch_out e]
    refine n1 (by decide) (s_refused rO2 ?_)
    unfold w_X9_worst
    exact t_isIn' (y2 e (t_no rO2 ⟨rfl, R_ref h rO2⟩))
  · rw [ch_in e]
    refine y1 rfl ⟨fun z => ⟨fun z1 => ?_, fun z1 => ?_⟩, fun z => ?_⟩
    · rw [w_X8_worst_b44]
      refine x_worstTwo hn h7 ?_
      unfold w_X9_worst
      have e1 : x1 = 1 := by
        obtain ⟨i, hi, rfl⟩ := in_nI (g := 2) (by decide) e
        have : i = 0 ∨ i = 1 ∨ i = 2 := by omega
        rcases this with rfl | rfl | rfl
        · exact absurd rfl z1
        · rfl
        · exact absurd rfl z
      subst e1
      exact t_isIn' (n2 e (t_worstL hm ⟨rfl, h⟩))
    · subst z1
      rw [w_X8_worst_b44]
      refine x_worstTwo hn h7 ?_
      unfold w_X9_worst
      exact t_isIn' (n2 e (t_worstL hm ⟨rfl, h⟩))
    · subst z
      refine x_friends hn h7 ?_
      unfold w_X9_worst
      exact t_isIn' (n2 e (t_worstL hm ⟨rfl, h⟩))
theorem pc_lt : ∀ b, b < 64 → pc b < 7 := by decide +kernel
theorem x_crowd {st : St} {n : Nat} {t : Int32} {K : Int32 → St → Prop} (hn : n ≤ 6) (h7 : st 11 7 = nI n) (ht : t ≠ -1) (h : K (nI (pc (kiF n (cv st 11) t))) st) : w_X3_crowd t st K := by
  unfold w_X3_crowd
  exact x_keepersIn hn h7 ht (s_bitCount (Nat.lt_of_lt_of_le (ki64 hn) (by decide)) h)
def cdF (n : Nat) (c : Ct) (t : Nat) : Nat := pc (kiF n c (nI t))
def flF (n : Nat) (c : Ct) : Nat := fr 1 4 (fun t b => if cdF n c t ≤ cdF n c b then b else t) 0
theorem fl_lt {n : Nat} {c : Ct} : flF n c < 4 := fr_inv (fun _ b => b < 4) _ (by decide) (by decide) (fun t b _ ht hb => by split <;> assumption)
theorem cd_lt {n t : Nat} {c : Ct} (hn : n ≤ 6) : cdF n c t < 7 := pc_lt _ (ki64 hn)
theorem x_townOfMost {st : St} {n : Nat} {K : Int32 → St → Prop} (hn : n ≤ 6) (h7 : st 11 7 = nI n) (h : K (nI (flF n (cv st 11))) st) : w_X3_townOfMost st K := by
  unfold w_X3_townOfMost
  refine lo_fr (fun m t (b : Nat) => w_X3_townOfMost_L4 K m (nI b) (nI t) st) (fun t b => if cdF n (cv st 11) t ≤ cdF n (cv st 11) b then b else t) (fun _ b => b < 4) (0 : Nat) (show 1 ≤ 4 by decide) (by decide) (fun t b _ ht hb => by show (if _ then _ else _) < 4; split <;> assumption) (fun _ m => ?_) (fun m t b _ ht hb hw => ?_)
  · rw [w_X3_townOfMost_L4, w_X3_townOfMost_L4q]
    exact y1 (nI_le (Nat.le_refl 4) (by decide)) h
  · rw [w_X3_townOfMost_L4, w_X3_townOfMost_L4q]
    refine n1 (nI_ge ht (by decide)) (x_crowd hn h7 (tn1 t ht) (x_crowd hn h7 (tn1 b hb) ?_))
    have l1 : cdF n (cv st 11) t < 7 := cd_lt hn
    have l2 : cdF n (cv st 11) b < 7 := cd_lt hn
    by_cases e : cdF n (cv st 11) t ≤ cdF n (cv st 11) b
    · rw [if_pos e] at hw
      refine y1 (nI_le e (by unfold cdF at l2; omega)) ?_
      rw [w_X3_townOfMost_b24, nI_inc]
      exact hw
    · rw [if_neg e] at hw
      refine n1 (nI_ge (by unfold cdF at e; omega) (by unfold cdF at l1; omega)) ?_
      rw [w_X3_townOfMost_b24, nI_inc]
      exact hw
theorem t_crowd {n nL : Nat} {mt : St} {c : Ct} {t : Int32} {K : Int32 → St → Prop} (hm : RM n nL mt c) (g : gC n nL c) (h : K (nI (pc (kiF n c t))) mt) : w_X9_keepersIn t mt (fun r st => w_X9_bits r st K) :=
  t_keepersIn hm g (t_bits (Nat.lt_of_lt_of_le (ki64 hm.1.1) (by decide)) h)
theorem sim_fullest {st mt : St} (h : R st mt) (x1 : Int32) : w_X8_fullest x1 st (fun r st' => w_X9_fullest x1 mt (fun r' mt' => r = r' ∧ R st' mt')) := by
  obtain ⟨n, nL, hm, g, hn, hL, h7, h8, k8, k9⟩ := h.ctx
  unfold w_X8_fullest
  refine s_choice ?_
  by_cases e : inF x1 0 1 = 0
  · rw [ch_out e]
    refine n1 (by decide) (s_refused rO2 ?_)
    unfold w_X9_fullest
    exact t_isIn' (y2 e (t_no rO2 ⟨rfl, R_ref h rO2⟩))
  · rw [ch_in e]
    have key : ∀ K : Int32 → St → Prop, K (if x1 = 0 then nI (flF n (cv st 11)) else nI (cdF n (cv st 11) (flF n (cv st 11)))) mt → w_X9_fullest x1 mt K := by
      intro K hK
      unfold w_X9_fullest
      refine t_isIn' (n2 e ?_)
      refine lo_fr (fun m t (b : Nat) => w_X9_fullest_L20 x1 K m (nI b) (nI t) mt) (fun t b => if cdF n (cv st 11) t ≤ cdF n (cv st 11) b then b else t) (fun _ b => b < 4) (0 : Nat) (show 1 ≤ 4 by decide) (by decide) (fun t b _ ht hb => by show (if _ then _ else _) < 4; split <;> assumption) (fun _ m => ?_) (fun m t b _ ht hb hw => ?_)
      · rw [w_X9_fullest_L20, w_X9_fullest_L20q]
        refine y1 (nI_le (Nat.le_refl 4) (by decide)) ?_
        rw [w_X9_fullest_b56]
        by_cases e0 : x1 = 0
        · rw [if_pos e0] at hK; exact y2 e0 hK
        · rw [if_neg e0] at hK; exact n2 e0 (t_crowd hm g hK)
      · rw [w_X9_fullest_L20, w_X9_fullest_L20q]
        refine n1 (nI_ge ht (by decide)) (t_crowd hm g (t_crowd hm g ?_))
        have l1 : cdF n (cv st 11) t < 7 := cd_lt hn
        have l2 : cdF n (cv st 11) b < 7 := cd_lt hn
        by_cases e : cdF n (cv st 11) t ≤ cdF n (cv st 11) b
        · rw [if_pos e] at hw
          refine y1 (nI_le e (by unfold cdF at l2; omega)) ?_
          rw [w_X9_fullest_b49, nI_inc]
          exact hw
        · rw [if_neg e] at hw
          refine n1 (nI_ge (by unfold cdF at e; omega) (by unfold cdF at l1; omega)) ?_
          rw [w_X9_fullest_b49, nI_inc]
          exact hw
    refine y1 rfl (x_townOfMost hn h7 ⟨fun z => x_crowd hn h7 (tn1 _ fl_lt) (key _ ?_), fun z => key _ ?_⟩)
    · rw [if_neg z]; exact ⟨rfl, h⟩
    · rw [if_pos z]; exact ⟨rfl, h⟩
