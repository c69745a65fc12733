/-! pure part: looks, three: thickest, mildest, bare, enemy -/
theorem oN_neg {b : Option Nat} (hb : ∀ j, b = some j → j < 2147483648) : oN b < 0 ↔ b = none := by
  cases b with
  | none => exact ⟨fun _ => rfl, fun _ => by decide⟩
  | some j => exact ⟨fun z => absurd z (n_lt0 (hb j rfl)), fun z => by cases z⟩
theorem oN_9 {b : Option Nat} (hb : ∀ j, b = some j → j < 2147483648) : oN b = -9 ↔ b = none := by
  cases b with
  | none => exact ⟨fun _ => rfl, fun _ => rfl⟩
  | some j =>
    refine ⟨fun z => absurd ?_ (n_lt0 (hb j rfl)), fun z => by cases z⟩
    show oN (some j) < 0
    rw [z]; decide
def tkS (c : Ct) (l : Nat) (b : Option Nat) : Option Nat := if (ob c).testBit l then b else match b with
  | none => some l
  | some j => if c 5 l ≤ c 5 j then b else some l
def tkF (nL : Nat) (c : Ct) : Option Nat := fr 0 nL (tkS c) none
theorem tk_in {c : Ct} {e l : Nat} {b : Option Nat} (hl : l < e) (h : ∀ j, b = some j → j < e) : ∀ j, tkS c l b = some j → j < e := by
  intro j hj
  unfold tkS at hj
  split at hj
  · exact h j hj
  · cases b with
    | none => cases hj; exact hl
    | some k =>
      simp only at hj
      split at hj
      · exact h j hj
      · cases hj; exact hl
theorem sim_thickest {st mt : St} (h : R st mt) : w_X8_thickest st (fun r st' => w_X9_thickest mt (fun r' mt' => r = r' ∧ R st' mt')) := by
  obtain ⟨n, nL, hm, g, hn, hL, h7, h8, k8, k9⟩ := h.ctx
  unfold w_X8_thickest w_X3_deepestSealed
  refine lo_fr (fun m l (b : Option Nat) => w_X3_deepestSealed_L5 _ m (oN b) (nI l) st) (tkS (cv st 11)) (fun _ b => ∀ j, b = some j → j < nL) none (Nat.zero_le nL) (fun j hj => by cases hj) (fun l b _ hl hb => tk_in hl hb) (fun _ m => ?_) (fun m l b _ hl hb hw => ?_)
  · rw [w_X3_deepestSealed_L5, w_X3_deepestSealed_L5q]
    unfold w_X1_letterCount
    rw [h8]
    refine y1 (nI_le (Nat.le_refl nL) (by omega)) ?_
    unfold w_X9_thickest
    refine lo_fr (fun m l (b : Option Nat) => w_X9_thickest_L5 _ m (oN b) (nI l) mt) (tkS (cv st 11)) (fun _ b => ∀ j, b = some j → j < nL) none (Nat.zero_le nL) (fun j hj => by cases hj) (fun l b _ hl hb => tk_in hl hb) (fun _ m => ?_) (fun m l b _ hl hb hw => ?_)
    · rw [w_X9_thickest_L5, w_X9_thickest_L5q, k9]
      exact y1 (nI_le (Nat.le_refl nL) (by omega)) ⟨rfl, h⟩
    · obtain ⟨a1, a2, a3, a4⟩ := hm.2.2.2.2.2.2.2 l hl
      rw [w_X9_thickest_L5, w_X9_thickest_L5q, k9, clI (show l < 6 by omega) (by decide), a1, a4]
      refine n1 (nI_ge hl (by omega)) ⟨vp_in_nI (by omega) (by decide), ?_⟩
      unfold tkS at hw
      by_cases eb : (ob (cv st 11)).testBit l = true
      · rw [if_pos eb] at hw
        rw [if_pos eb]
        refine n2 (by decide) ?_
        rw [w_X9_thickest_b43, nI_inc]
        exact hw
      · rw [if_neg eb] at hw
        rw [if_neg eb]
        refine y2 rfl ?_
        cases b with
        | none =>
          refine y1 (by decide) ?_
          rw [w_X9_thickest_b41, w_X9_thickest_b43, nI_inc]
          exact hw
        | some j =>
          have hj := hb j rfl
          refine n1 (n_lt0 (by omega)) ⟨vp_in_nI (by omega) (by decide), vp_in_nI (by omega) (by decide), ?_⟩
          show (cv st 11 5 l ≤ mt 6 (nI j).toNatClampNeg → _) ∧ (¬ cv st 11 5 l ≤ mt 6 (nI j).toNatClampNeg → _)
          rw [clI (show j < 6 by omega) (by decide), (hm.2.2.2.2.2.2.2 j hj).1]
          simp only at hw
          by_cases e2 : cv st 11 5 l ≤ cv st 11 5 j
          · rw [if_pos e2] at hw
            refine y1 e2 ?_
            rw [w_X9_thickest_b43, nI_inc]
            exact hw
          · rw [if_neg e2] at hw
            refine n1 e2 ?_
            rw [w_X9_thickest_b41, w_X9_thickest_b43, nI_inc]
            exact hw
  · rw [w_X3_deepestSealed_L5, w_X3_deepestSealed_L5q]
    unfold w_X1_letterCount
    rw [h8]
    refine n1 (nI_ge hl (by omega)) ?_
    -- the last step: sealed or not
    have fin : ∀ v : Int32, (if (ob (cv st 11)).testBit l then True else (v = 0 ∧ tkS (cv st 11) l b = b) ∨ (v = 1 ∧ tkS (cv st 11) l b = some l)) → w_X3_deepestSealed_b46 (fun v1 v2 st => w_X3_deepestSealed_L5 (fun r st' => w_X9_thickest mt fun r' mt' => r = r' ∧ R st' mt') m v1 v2 st) (fun r st' => w_X9_thickest mt fun r' mt' => r = r' ∧ R st' mt') (oN b) (nI l) v st := by
      intro v hv
      rw [w_X3_deepestSealed_b46]
      refine x_isOpen hm.1 (by omega) ?_
      by_cases eb : (ob (cv st 11)).testBit l = true
      · rw [if_pos eb]
        refine n2 (by decide) ?_
        rw [w_X3_deepestSealed_b64, nI_inc]
        unfold tkS at hw
        rw [if_pos eb] at hw
        exact hw
      · rw [if_neg eb]
        rw [if_neg eb] at hv
        refine y2 rfl ?_
        rcases hv with ⟨rfl, e⟩ | ⟨rfl, e⟩
        · refine y1 rfl ?_
          rw [w_X3_deepestSealed_b64, nI_inc]
          rw [e] at hw
          exact hw
        · refine n1 (by decide) ?_
          rw [w_X3_deepestSealed_b64, nI_inc]
          rw [e] at hw
          exact hw
    cases b with
    | none =>
      refine y1 rfl ?_
      rw [w_X3_deepestSealed_b41]
      refine fin 1 ?_
      split
      · trivial
      next eb => exact Or.inr ⟨rfl, by unfold tkS; rw [if_neg eb]⟩
    | some j =>
      have hj := hb j rfl
      refine n1 (fun z => absurd ((oN_9 (fun i hi => by cases hi; omega)).mp z) (by simp)) (x_depthOf (by omega) (x_depthOf (by omega) ?_))
      by_cases e2 : cv st 11 5 l ≤ cv st 11 5 j
      · refine y1 e2 (fin 0 ?_)
        split
        · trivial
        next eb => exact Or.inl ⟨rfl, by unfold tkS; rw [if_neg eb]; simp only; rw [if_pos e2]⟩
      · refine n1 e2 ?_
        rw [w_X3_deepestSealed_b41]
        refine fin 1 ?_
        split
        · trivial
        next eb => exact Or.inr ⟨rfl, by unfold tkS; rw [if_neg eb]; simp only; rw [if_neg e2]⟩
def hsF (n : Nat) (c : Ct) (p : Nat) : Int32 := fr 0 n (fun q (s : Int32) => s + hsS c p q) 0
theorem x_hatesTogether {st : St} {n p : Nat} {K : Int32 → St → Prop} (hn : n ≤ 6) (h7 : st 11 7 = nI n) (hp : p < 6) (h : K (hsF n (cv st 11) p) st) : w_X3_hatesTogether (nI p) st K := by
  unfold w_X3_hatesTogether
  refine lo_fr (fun m q (s : Int32) => w_X3_hatesTogether_L4 (nI p) K m s (nI q) st) (fun q (s : Int32) => s + hsS (cv st 11) p q) (fun _ _ => True) (0 : Int32) (Nat.zero_le n) trivial (fun _ _ _ _ _ => trivial) (fun _ m => ?_) (fun m q s _ hq _ hw => ?_)
  · rw [w_X3_hatesTogether_L4, w_X3_hatesTogether_L4q]
    unfold w_X1_keeperCount
    rw [h7]
    exact y1 (nI_le (Nat.le_refl n) (by omega)) h
  · rw [w_X3_hatesTogether_L4, w_X3_hatesTogether_L4q]
    unfold w_X1_keeperCount
    rw [h7]
    refine n1 (nI_ge hq (by omega)) (x_hateOrSelf hp (by omega) ?_)
    rw [nI_inc]
    exact hw
theorem t_hatesOf {n nL p : Nat} {mt : St} {c : Ct} {K : Int32 → St → Prop} (hm : RM n nL mt c) (hp : p < n) (h : K (hsF n c p) mt) : w_X9_hatesOf (nI p) mt K := by
  have hn := hm.1.1
  have h8 := hm.2.2.1
  unfold w_X9_hatesOf
  refine lo_fr (fun m q (s : Int32) => w_X9_hatesOf_L4 (nI p) K m s (nI q) mt) (fun q (s : Int32) => s + hsS c p q) (fun _ _ => True) (0 : Int32) (Nat.zero_le n) trivial (fun _ _ _ _ _ => trivial) (fun _ m => ?_) (fun m q s _ hq _ hw => ?_)
  · rw [w_X9_hatesOf_L4, w_X9_hatesOf_L4q, h8]
    exact y1 (nI_le (Nat.le_refl n) (by omega)) h
  · rw [w_X9_hatesOf_L4, w_X9_hatesOf_L4q, h8]
    refine n1 (nI_ge hq (by omega)) ?_
    unfold hsS at hw
    by_cases e : p = q
    · subst e
      rw [if_pos rfl] at hw
      refine y2 rfl ?_
      rw [w_X9_hatesOf_b28, nI_inc]
      exact hw
    · rw [if_neg e] at hw
      refine n2 (fun z => e (nI_eqI (by omega) (by omega) z.symm)) (t_hateOf (by omega) (by omega) ?_)
      rw [w_X9_hatesOf_b28, nI_inc, hm.hate hp hq e]
      exact hw
def mdS (n : Nat) (c : Ct) (p : Nat) (b : Option Nat) : Option Nat := match b with
  | none => some p
  | some j => if hsF n c j ≤ hsF n c p then b else some p
theorem md_in {n : Nat} {c : Ct} {e l : Nat} {b : Option Nat} (hl : l < e) (h : ∀ j, b = some j → j < e) : ∀ j, mdS n c l b = some j → j < e := by
  intro j hj
  unfold mdS at hj
  cases b with
  | none => cases hj; exact hl
  | some k =>
    simp only at hj
    split at hj
    · exact h j hj
    · cases hj; exact hl
theorem sim_mildest {st mt : St} (h : R st mt) : w_X8_mildest st (fun r st' => w_X9_mildest mt (fun r' mt' => r = r' ∧ R st' mt')) := by
  obtain ⟨n, nL, hm, g, hn, hL, h7, h8, k8, k9⟩ := h.ctx
  unfold w_X8_mildest w_X3_leastHating
  refine lo_fr (fun m p (b : Option Nat) => w_X3_leastHating_L5 _ m (oN b) (nI p) st) (mdS n (cv st 11)) (fun _ b => ∀ j, b = some j → j < n) none (Nat.zero_le n) (fun j hj => by cases hj) (fun l b _ hl hb => md_in hl hb) (fun _ m => ?_) (fun m p b _ hp hb hw => ?_)
  · rw [w_X3_leastHating_L5, w_X3_leastHating_L5q]
    unfold w_X1_keeperCount
    rw [h7]
    refine y1 (nI_le (Nat.le_refl n) (by omega)) ?_
    unfold w_X9_mildest
    refine lo_fr (fun m p (b : Option Nat) => w_X9_mildest_L5 _ m (oN b) (nI p) mt) (mdS n (cv st 11)) (fun _ b => ∀ j, b = some j → j < n) none (Nat.zero_le n) (fun j hj => by cases hj) (fun l b _ hl hb => md_in hl hb) (fun _ m => ?_) (fun m p b _ hp hb hw => ?_)
    · rw [w_X9_mildest_L5, w_X9_mildest_L5q, k8]
      exact y1 (nI_le (Nat.le_refl n) (by omega)) ⟨rfl, h⟩
    · rw [w_X9_mildest_L5, w_X9_mildest_L5q, k8]
      refine n1 (nI_ge hp (by omega)) ?_
      cases b with
      | none =>
        refine y1 (by decide) ?_
        rw [w_X9_mildest_b30, w_X9_mildest_b35, nI_inc]
        exact hw
      | some j =>
        have hj := hb j rfl
        refine n1 (n_lt0 (by omega)) (t_hatesOf hm hp (t_hatesOf hm hj ?_))
        unfold mdS at hw
        simp only at hw
        by_cases e2 : hsF n (cv st 11) j ≤ hsF n (cv st 11) p
        · rw [if_pos e2] at hw
          refine y1 e2 ?_
          rw [w_X9_mildest_b35, nI_inc]
          exact hw
        · rw [if_neg e2] at hw
          refine n1 e2 ?_
          rw [w_X9_mildest_b30, w_X9_mildest_b35, nI_inc]
          exact hw
  · rw [w_X3_leastHating_L5, w_X3_leastHating_L5q]
    unfold w_X1_keeperCount
    rw [h7]
    refine n1 (nI_ge hp (by omega)) ?_
    cases b with
    | none =>
      refine y1 rfl ?_
      rw [w_X3_leastHating_b35, w_X3_leastHating_b37, nI_inc]
      exact hw
    | some j =>
      have hj := hb j rfl
      refine n1 (fun z => absurd ((oN_9 (fun i hi => by cases hi; omega)).mp z) (by simp)) (x_hatesTogether hn h7 (by omega) (x_hatesTogether hn h7 (by omega) ?_))
      unfold mdS at hw
      simp only at hw
      by_cases e2 : hsF n (cv st 11) j ≤ hsF n (cv st 11) p
      · rw [if_pos e2] at hw
        refine y1 e2 ?_
        rw [w_X3_leastHating_b37, nI_inc]
        exact hw
      · rw [if_neg e2] at hw
        refine n1 e2 ?_
        rw [w_X3_leastHating_b35, w_X3_leastHating_b37, nI_inc]
        exact hw
def enS (c : Ct) (p q : Nat) (b : Option Nat) : Option Nat := if q = p then b else match b with
  | none => some q
  | some j => if c 4 (hI p q) ≤ c 4 (hI p j) then b else some q
theorem en_in {c : Ct} {p e l : Nat} {b : Option Nat} (hl : l < e) (h : ∀ j, b = some j → j < e ∧ j ≠ p) : ∀ j, enS c p l b = some j → j < e ∧ j ≠ p := by
  intro j hj
  unfold enS at hj
  split at hj
  · exact h j hj
  next hne =>
    cases b with
    | none => cases hj; exact ⟨hl, hne⟩
    | some k =>
      simp only at hj
      split at hj
      · exact h j hj
      · cases hj; exact ⟨hl, hne⟩
theorem sim_enemy {st mt : St} (h : R st mt) (x1 : Int32) : w_X8_enemy x1 st (fun r st' => w_X9_enemy x1 mt (fun r' mt' => r = r' ∧ R st' mt')) := by
  obtain ⟨n, nL, hm, g, hn, hL, h7, h8, k8, k9⟩ := h.ctx
  unfold w_X8_enemy
  refine s_keeperRef h7 ?_
  by_cases e : isF n x1 = 0
  · rw [nb0 e]
    refine n1 (by decide) (s_refused rO1 ?_)
    unfold w_X9_enemy
    exact t_isKeeper k8 (y2 e (t_no rO1 ⟨rfl, R_ref h rO1⟩))
  · rw [nb1 e]
    obtain ⟨p, hp, rfl⟩ := isF_1 (by omega) e
    refine y1 rfl ?_
    unfold w_X3_mostHated
    refine lo_fr (fun m q (b : Option Nat) => w_X3_mostHated_L5 (nI p) _ m (oN b) (nI q) st) (enS (cv st 11) p) (fun _ b => ∀ j, b = some j → j < n ∧ j ≠ p) none (Nat.zero_le n) (fun j hj => by cases hj) (fun l b _ hl hb => en_in hl hb) (fun _ m => ?_) (fun m q b _ hq hb hw => ?_)
    · rw [w_X3_mostHated_L5, w_X3_mostHated_L5q]
      unfold w_X1_keeperCount
      rw [h7]
      refine y1 (nI_le (Nat.le_refl n) (by omega)) ?_
      unfold w_X9_enemy
      refine t_isKeeper k8 (n2 e ?_)
      refine lo_fr (fun m q (b : Option Nat) => w_X9_enemy_L19 (nI p) _ m (oN b) (nI q) mt) (enS (cv st 11) p) (fun _ b => ∀ j, b = some j → j < n ∧ j ≠ p) none (Nat.zero_le n) (fun j hj => by cases hj) (fun l b _ hl hb => en_in hl hb) (fun _ m => ?_) (fun m q b _ hq hb hw => ?_)
      · rw [w_X9_enemy_L19, w_X9_enemy_L19q, k8]
        exact y1 (nI_le (Nat.le_refl n) (by omega)) ⟨rfl, h⟩
      · rw [w_X9_enemy_L19, w_X9_enemy_L19q, k8]
        refine n1 (nI_ge hq (by omega)) ?_
        unfold enS at hw
        by_cases eq : q = p
        · subst eq
          rw [if_pos rfl] at hw
          refine y1 rfl ?_
          rw [w_X9_enemy_b53, nI_inc]
          exact hw
        · rw [if_neg eq] at hw
          refine n1 (fun z => eq (nI_eqI (by omega) (by omega) z)) ?_
          cases b with
          | none =>
            refine y1 (by decide) ?_
            rw [w_X9_enemy_b51, w_X9_enemy_b53, nI_inc]
            exact hw
          | some j =>
            obtain ⟨hj, hjp⟩ := hb j rfl
            refine n1 (n_lt0 (by omega)) (t_hateOf (by omega) (by omega) ?_)
            show w_X9_hateOf (nI p) (nI j) mt _
            refine t_hateOf (by omega) (by omega) ?_
            rw [hm.hate hp hq (fun z => eq z.symm), hm.hate hp hj (fun z => hjp z.symm)]
            simp only at hw
            by_cases e2 : cv st 11 4 (hI p q) ≤ cv st 11 4 (hI p j)
            · rw [if_pos e2] at hw
              refine y1 e2 ?_
              rw [w_X9_enemy_b53, nI_inc]
              exact hw
            · rw [if_neg e2] at hw
              refine n1 e2 ?_
              rw [w_X9_enemy_b51, w_X9_enemy_b53, nI_inc]
              exact hw
    · rw [w_X3_mostHated_L5, w_X3_mostHated_L5q]
      unfold w_X1_keeperCount
      rw [h7]
      refine n1 (nI_ge hq (by omega)) ?_
      have fin : ∀ v : Int32, (v = 0 ∧ (q = p ∨ enS (cv st 11) p q b = b)) ∨ (v = 1 ∧ (q = p ∨ enS (cv st 11) p q b = some q)) → w_X3_mostHated_b48 (nI p) (fun v2 v3 st => w_X3_mostHated_L5 (nI p) (fun r st' => w_X9_enemy (nI p) mt fun r' mt' => r = r' ∧ R st' mt') m v2 v3 st) (fun r st' => w_X9_enemy (nI p) mt fun r' mt' => r = r' ∧ R st' mt') (oN b) (nI q) v st := by
        intro v hv
        rw [w_X3_mostHated_b48]
        by_cases eq : q = p
        · subst eq
          refine y1 rfl ?_
          rw [w_X3_mostHated_b62, nI_inc]
          unfold enS at hw
          rw [if_pos rfl] at hw
          exact hw
        · refine n1 (fun z => eq (nI_eqI (by omega) (by omega) z)) ?_
          rcases hv with ⟨rfl, z⟩ | ⟨rfl, z⟩
          · refine y1 rfl ?_
            rw [w_X3_mostHated_b62, nI_inc]
            rw [z.resolve_left eq] at hw
            exact hw
          · refine n1 (by decide) ?_
            rw [w_X3_mostHated_b62, nI_inc]
            rw [z.resolve_left eq] at hw
            exact hw
      cases b with
      | none =>
        refine y1 rfl ?_
        rw [w_X3_mostHated_b43]
        refine fin 1 (Or.inr ⟨rfl, ?_⟩)
        by_cases eq : q = p
        · exact Or.inl eq
        · exact Or.inr (by unfold enS; rw [if_neg eq])
      | some j =>
        obtain ⟨hj, hjp⟩ := hb j rfl
        refine n1 (fun z => absurd ((oN_9 (fun i hi => by cases hi; omega)).mp z) (by simp)) (x_hateOf (by omega) (by omega) ?_)
        show w_X1_hateOf 11 (nI p) (nI j) st _
        refine x_hateOf (by omega) (by omega) ?_
        by_cases e2 : cv st 11 4 (hI p q) ≤ cv st 11 4 (hI p j)
        · refine y1 e2 (fin 0 (Or.inl ⟨rfl, ?_⟩))
          by_cases eq : q = p
          · exact Or.inl eq
          · exact Or.inr (by unfold enS; rw [if_neg eq]; simp only; rw [if_pos e2])
        · refine n1 e2 ?_
          rw [w_X3_mostHated_b43]
          refine fin 1 (Or.inr ⟨rfl, ?_⟩)
          by_cases eq : q = p
          · exact Or.inl eq
          · exact Or.inr (by unfold enS; rw [if_neg eq]; simp only; rw [if_neg e2])
def brS (n : Nat) (c : Ct) (l : Nat) (s : Int32) : Int32 := if (ob c).testBit l then s else if 2 ≤ pc (kiF n c (c 6 l)) then s else s ||| ((1 : Int32) <<< (c 6 l &&& 31))
theorem sim_bare {st mt : St} (h : R st mt) : w_X8_bare st (fun r st' => w_X9_bare mt (fun r' mt' => r = r' ∧ R st' mt')) := by
  obtain ⟨n, nL, hm, g, hn, hL, h7, h8, k8, k9⟩ := h.ctx
  have pl : ∀ t : Int32, pc (kiF n (cv st 11) t) < 7 := fun t => pc_lt _ (ki64 hn)
  unfold w_X8_bare w_X3_bareTowns
  refine lo_fr (fun m l (s : Int32) => w_X3_bareTowns_L4 _ m s (nI l) st) (brS n (cv st 11)) (fun _ _ => True) (0 : Int32) (Nat.zero_le nL) trivial (fun _ _ _ _ _ => trivial) (fun _ m => ?_) (fun m l s _ hl _ hw => ?_)
  · rw [w_X3_bareTowns_L4, w_X3_bareTowns_L4q]
    unfold w_X1_letterCount
    rw [h8]
    refine y1 (nI_le (Nat.le_refl nL) (by omega)) ?_
    unfold w_X9_bare
    refine lo_fr (fun m l (s : Int32) => w_X9_bare_L4 _ m s (nI l) mt) (brS n (cv st 11)) (fun _ _ => True) (0 : Int32) (Nat.zero_le nL) trivial (fun _ _ _ _ _ => trivial) (fun _ m => ?_) (fun m l s _ hl _ hw => ?_)
    · rw [w_X9_bare_L4, w_X9_bare_L4q, k9]
      exact y1 (nI_le (Nat.le_refl nL) (by omega)) ⟨rfl, h⟩
    · obtain ⟨a1, a2, a3, a4⟩ := hm.2.2.2.2.2.2.2 l hl
      rw [w_X9_bare_L4, w_X9_bare_L4q, k9, clI (show l < 6 by omega) (by decide), a4]
      refine n1 (nI_ge hl (by omega)) ⟨vp_in_nI (by omega) (by decide), ?_⟩
      unfold brS at hw
      by_cases eb : (ob (cv st 11)).testBit l = true
      · rw [if_pos eb] at hw
        rw [if_pos eb]
        refine n2 (by decide) ?_
        rw [w_X9_bare_b50, w_X9_bare_b51, nI_inc, Int32.or_zero]
        exact hw
      · rw [if_neg eb] at hw
        rw [if_neg eb]
        refine y2 rfl ⟨vp_in_nI (by omega) (by decide), t_crowd hm g ?_⟩
        rw [a2]
        have l1 := pl (cv st 11 6 l)
        by_cases e2 : 2 ≤ pc (kiF n (cv st 11) (cv st 11 6 l))
        · rw [if_pos e2] at hw
          refine y1 (nI_le e2 (by omega)) ?_
          rw [w_X9_bare_b50, w_X9_bare_b51, nI_inc, Int32.or_zero]
          exact hw
        · rw [if_neg e2] at hw
          refine n1 (show ¬ nI 2 ≤ nI _ from nI_ge (by omega) (by decide)) ⟨vp_in_nI (by omega) (by decide), ?_⟩
          rw [w_X9_bare_b51, nI_inc]
          exact hw
  · rw [w_X3_bareTowns_L4, w_X3_bareTowns_L4q]
    unfold w_X1_letterCount
    rw [h8]
    refine n1 (nI_ge hl (by omega)) (x_isOpen hm.1 (by omega) ?_)
    unfold brS at hw
    by_cases eb : (ob (cv st 11)).testBit l = true
    · rw [if_pos eb] at hw
      rw [if_pos eb]
      refine n2 (by decide) ?_
      rw [w_X3_bareTowns_b55, nI_inc]
      exact hw
    · rw [if_neg eb] at hw
      rw [if_neg eb]
      have ne : cv st 11 6 l ≠ -1 := (hm.2.2.2.2.2.2.2 l hl).2.2.1
      refine y2 rfl (x_letterTownOf (by omega) (x_crowd hn h7 ne ?_))
      have l1 := pl (cv st 11 6 l)
      by_cases e2 : 2 ≤ pc (kiF n (cv st 11) (cv st 11 6 l))
      · rw [if_pos e2] at hw
        refine y1 (nI_le e2 (by omega)) ?_
        rw [w_X3_bareTowns_b55, nI_inc]
        exact hw
      · rw [if_neg e2] at hw
        refine n1 (show ¬ nI 2 ≤ nI _ from nI_ge (by omega) (by decide)) (x_letterTownOf (by omega) ?_)
        rw [w_X3_bareTowns_b55, nI_inc]
        exact hw
