/-! pure part: who opens what, on the check's side -/
theorem t_areThere {n nL p q : Nat} {mt : St} {c : Ct} {t : Int32} {K : Int32 → St → Prop} (h : RM n nL mt c) (hp : p < n) (hq : q < n) (ht : t ≠ -1) (hk : K (if c 3 p = t ∧ c 3 q = t then 1 else 0) mt) : w_X9_areThere (nI p) (nI q) t mt K := by
  obtain ⟨g1, g2, g3, g4, g5, g6, g7, g8⟩ := h
  have hn := g1.1
  obtain ⟨a1, a2, a3, a4⟩ := g6 p hp
  obtain ⟨b1, b2, b3, b4⟩ := g6 q hq
  have no : ¬ (c 3 p = t ∧ c 3 q = t) → K 0 mt := fun z => by rw [if_neg z] at hk; exact hk
  unfold w_X9_areThere
  rw [clI (show p < 6 by omega) (by decide), clI (show q < 6 by omega) (by decide)]
  refine ⟨vp_in_nI (by omega) (by decide), fun e => no fun z => e ?_, fun e => ⟨vp_in_nI (by omega) (by decide), fun e2 => no fun z => e2 ?_, fun e2 => ?_⟩⟩
  · rw [a4 (by rw [z.1]; exact ht)]; exact z.1
  · rw [b4 (by rw [z.2]; exact ht)]; exact z.2
  · refine t_has (fun y => ⟨fun _ => no fun z => ht ?_, fun x => absurd x (by decide)⟩) (fun y => ⟨fun x => absurd rfl x, fun _ => t_has (fun y2 => ⟨fun _ => no fun z => ht ?_, fun x => absurd x (by decide)⟩) (fun y2 => ⟨fun x => absurd rfl x, fun _ => ?_⟩)⟩)
    · rw [← z.1]; exact a3.mp y
    · rw [← z.2]; exact b3.mp y2
    · have e3 : c 3 p = t := by rw [← a4 (fun e => y (a3.mpr e))]; exact e
      have e4 : c 3 q = t := by rw [← b4 (fun e => y2 (b3.mpr e))]; exact e2
      rw [if_pos ⟨e3, e4⟩] at hk
      exact hk
theorem n10 : ∀ p, p < 6 → ∀ q, q < 6 → (10 * nI p) + nI q = nI (10 * p + q) := by decide +kernel
theorem t_op25 {n nL p : Nat} {mt : St} {c : Ct} {t d : Int32} {s : Option (Nat × Nat) × Int32} {c10 : Int32 → Int32 → Int32 → St → Prop} {K : Int32 → St → Prop} (h : RM n nL mt c) (hp : p < n) (ht : t ≠ -1)
    (hk : c10 (oI (fr (p + 1) n (fun q s => oS c t d p q s) s).1) (fr (p + 1) n (fun q s => oS c t d p q s) s).2 (nI (p + 1)) mt) : ∃ m, w_X9_opensAt_L25 t d c10 K m (oI s.1) s.2 (nI p) (nI (p + 1)) mt := by
  have hn := h.1.1
  have h8 : mt 0 8 = nI n := h.2.2.1
  refine lo_fr (fun m q s => w_X9_opensAt_L25 t d c10 K m (oI s.1) s.2 (nI p) (nI q) mt) (fun q s => oS c t d p q s) (fun _ _ => True) s (show p + 1 ≤ n by omega) trivial (fun _ _ _ _ _ => trivial) (fun _ m => ?_) (fun m q s h1 h2 _ hw => ?_)
  · rw [w_X9_opensAt_L25, w_X9_opensAt_L25q, h8]
    refine ⟨fun _ => ?_, fun h9 => absurd (nI_le (Nat.le_refl n) (by omega)) h9⟩
    rw [w_X9_opensAt_b99, nI_inc]
    exact hk
  · rw [w_X9_opensAt_L25, w_X9_opensAt_L25q, h8]
    refine ⟨fun h9 => absurd h9 (nI_ge h2 (by omega)), fun _ => t_areThere h hp h2 ht ?_⟩
    have e7 := (h.2.2.2.2.2.2.1 p q (by omega) h2).1
    by_cases hb : c 3 p = t ∧ c 3 q = t
    · rw [if_pos hb]
      refine ⟨fun h9 => absurd h9 (by decide), fun _ => t_hateOf (by omega) (by omega) ?_⟩
      simp only [oS, if_pos hb] at hw
      rw [w_X9_opensAt_b93, nI_inc, e7]
      refine ⟨fun h3 => ?_, fun h3 => t_hateOf (by omega) (by omega) ?_⟩
      · rw [if_pos h3] at hw; exact hw
      · rw [if_neg h3] at hw
        rw [e7]
        refine ⟨fun h4 => t_hateOf (by omega) (by omega) ?_, fun h4 => ?_⟩
        · rw [if_neg (i_nle.mpr h4)] at hw
          rw [w_X9_opensAt_b93, nI_inc, n10 p (by omega) q (by omega), e7]
          exact hw
        · rw [if_pos (i_nlt.mp h4)] at hw
          rw [w_X9_opensAt_b93, nI_inc]
          exact hw
    · rw [if_neg hb]
      refine ⟨fun _ => ?_, fun h9 => absurd rfl h9⟩
      simp only [oS, if_neg hb] at hw
      rw [w_X9_opensAt_b93, nI_inc]
      exact hw
theorem t_opensAt {n nL : Nat} {mt : St} {c : Ct} {t d : Int32} {K : Int32 → St → Prop} (h : RM n nL mt c) (ht : t ≠ -1) (hk : K (oI (opS c n t d).1) mt) : w_X9_opensAt t d mt K := by
  have hn := h.1.1
  have h8 : mt 0 8 = nI n := h.2.2.1
  refine lo_fr (fun m p s => w_X9_opensAt_L10 t d K m (oI s.1) s.2 (nI p) mt) (fun p s => fr (p + 1) n (fun q s => oS c t d p q s) s) (fun _ _ => True) (none, 100) (Nat.zero_le n) trivial (fun _ _ _ _ _ => trivial) (fun _ m => ?_) (fun m p s h1 h2 _ hw => ?_)
  · rw [w_X9_opensAt_L10, w_X9_opensAt_L10q, h8]
    exact ⟨fun _ => hk, fun h9 => absurd (nI_le (Nat.le_refl n) (by omega)) h9⟩
  · rw [w_X9_opensAt_L10, w_X9_opensAt_L10q, h8]
    refine ⟨fun h9 => absurd h9 (nI_ge h2 (by omega)), fun _ => ?_⟩
    rw [nI_inc]
    exact t_op25 h h2 ht hw
