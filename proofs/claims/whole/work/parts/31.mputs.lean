/-! pure part: the check puts a kept country back -/
theorem RM_lv {n nL : Nat} {mt mt' : St} {c : Ct} (h : RM n nL mt c) (hl : ∀ i, i < 75 → lvM mt' i = lvM mt i) (h11 : mt' 0 11 = mt 0 11) : RM n nL mt' c := by
  obtain ⟨g1, g2, g3, g4, g5, g6, g7, g8⟩ := h
  have hn := g1.1
  have hL := g1.2.1
  have k2 : ∀ i, i < 6 → mt' 2 i = mt 2 i := fun i hi => by have e := hl i (by omega); simpa [lvM, hi] using e
  have k3 : ∀ i, i < 6 → mt' 3 i = mt 3 i := fun i hi => by have e := hl (6 + i) (by omega); simpa [lvM, show ¬ 6 + i < 6 by omega, show 6 + i < 12 by omega, show 6 + i - 6 = i by omega] using e
  have k4 : ∀ i, i < 6 → mt' 4 i = mt 4 i := fun i hi => by have e := hl (12 + i) (by omega); simpa [lvM, show ¬ 12 + i < 6 by omega, show ¬ 12 + i < 12 by omega, show 12 + i < 18 by omega, show 12 + i - 12 = i by omega] using e
  have k5 : ∀ i, i < 36 → mt' 5 i = mt 5 i := fun i hi => by have e := hl (18 + i) (by omega); simpa [lvM, show ¬ 18 + i < 6 by omega, show ¬ 18 + i < 12 by omega, show ¬ 18 + i < 18 by omega, show 18 + i < 54 by omega, show 18 + i - 18 = i by omega] using e
  have k6 : ∀ i, i < 6 → mt' 6 i = mt 6 i := fun i hi => by have e := hl (54 + i) (by omega); simpa [lvM, show ¬ 54 + i < 6 by omega, show ¬ 54 + i < 12 by omega, show ¬ 54 + i < 18 by omega, show ¬ 54 + i < 54 by omega, show 54 + i < 60 by omega, show 54 + i - 54 = i by omega] using e
  have k7 : ∀ i, i < 6 → mt' 7 i = mt 7 i := fun i hi => by have e := hl (60 + i) (by omega); simpa [lvM, show ¬ 60 + i < 6 by omega, show ¬ 60 + i < 12 by omega, show ¬ 60 + i < 18 by omega, show ¬ 60 + i < 54 by omega, show ¬ 60 + i < 60 by omega, show 60 + i < 66 by omega, show 60 + i - 60 = i by omega] using e
  have k8 : ∀ i, i < 6 → mt' 8 i = mt 8 i := fun i hi => by have e := hl (66 + i) (by omega); simpa [lvM, show ¬ 66 + i < 6 by omega, show ¬ 66 + i < 12 by omega, show ¬ 66 + i < 18 by omega, show ¬ 66 + i < 54 by omega, show ¬ 66 + i < 60 by omega, show ¬ 66 + i < 66 by omega, show 66 + i < 72 by omega, show 66 + i - 66 = i by omega] using e
  have z8 : mt' 0 8 = mt 0 8 := hl 72 (by decide)
  have z9 : mt' 0 9 = mt 0 9 := hl 73 (by decide)
  have z10 : mt' 0 10 = mt 0 10 := hl 74 (by decide)
  refine ⟨g1, g2, z8.trans g3, z9.trans g4, z10.trans g5, fun p hp => ?_, fun p q a b => ?_, fun l hl => ?_⟩
  · rw [k2 p (by omega), k3 p (by omega), k4 p (by omega), h11]
    exact g6 p hp
  · rw [k5 _ (by omega), k5 _ (by omega)]
    exact g7 p q a b
  · rw [k6 l (by omega), k7 l (by omega), k8 l (by omega)]
    exact g8 l hl
theorem t_puts {w : Nat} {mt : St} {K : St → Prop} (hw : w < 11) (hk : ∀ s : St, (∀ i, i < 75 → lvM s i = mt 13 (75 * w + i)) → (∀ j, j ≠ 0 → (j < 2 ∨ 8 < j) → s j = mt j) → (∀ a, a ≠ 8 → a ≠ 9 → a ≠ 10 → a ≠ 21 → a ≠ 22 → s 0 a = mt 0 a) → K s) : w_X9_passesAll (nI w) 0 mt K := by
  unfold w_X9_passesAll
  refine ⟨Or.inl rfl, ?_⟩
  rw [c75 w hw]
  refine t_passesR (cur := 75 * w) (by decide) (by decide) (by rw [u2_ne (Or.inr (by decide)), u2_same]) (by rw [u2_same]) (by omega) fun s1 a1 b1 c1 d1 => ?_
  refine t_passesR (cur := 75 * w + 6) (by decide) (by decide) (a1) (by rw [c1 21 (by decide), u2_same]) (by omega) fun s2 a2 b2 c2 d2 => ?_
  refine t_passesR (cur := 75 * w + 12) (by decide) (by decide) (a2) (by rw [c2 21 (by decide), c1 21 (by decide), u2_same]) (by omega) fun s3 a3 b3 c3 d3 => ?_
  refine t_passesR (cur := 75 * w + 18) (by decide) (by decide) (a3) (by rw [c3 21 (by decide), c2 21 (by decide), c1 21 (by decide), u2_same]) (by omega) fun s4 a4 b4 c4 d4 => ?_
  refine t_passesR (cur := 75 * w + 54) (by decide) (by decide) (a4) (by rw [c4 21 (by decide), c3 21 (by decide), c2 21 (by decide), c1 21 (by decide), u2_same]) (by omega) fun s5 a5 b5 c5 d5 => ?_
  refine t_passesR (cur := 75 * w + 60) (by decide) (by decide) (a5) (by rw [c5 21 (by decide), c4 21 (by decide), c3 21 (by decide), c2 21 (by decide), c1 21 (by decide), u2_same]) (by omega) fun s6 a6 b6 c6 d6 => ?_
  refine t_passesR (cur := 75 * w + 66) (by decide) (by decide) (a6) (by rw [c6 21 (by decide), c5 21 (by decide), c4 21 (by decide), c3 21 (by decide), c2 21 (by decide), c1 21 (by decide), u2_same]) (by omega) fun s7 a7 b7 c7 d7 => ?_
  have f7 : s7 0 21 = 0 := by rw [c7 21 (by decide), c6 21 (by decide), c5 21 (by decide), c4 21 (by decide), c3 21 (by decide), c2 21 (by decide), c1 21 (by decide), u2_same]
  have base0 : ∀ a, a ≠ 21 → a ≠ 22 → s7 0 a = mt 0 a := fun a h1 h2 => by rw [c7 a h2, c6 a h2, c5 a h2, c4 a h2, c3 a h2, c2 a h2, c1 a h2, u2_ne (Or.inr h1), u2_ne (Or.inr h2)]
  have baseJ : ∀ j, j ≠ 0 → (j < 2 ∨ 8 < j) → s7 j = mt j := fun j h1 h2 => by rw [b7 j h1 (by omega), b6 j h1 (by omega), b5 j h1 (by omega), b4 j h1 (by omega), b3 j h1 (by omega), b2 j h1 (by omega), b1 j h1 (by omega), u2_off h1, u2_off h1]
  have e13 : s7 13 = mt 13 := baseJ 13 (by decide) (by decide)
  have r1 : ∀ i, i < 6 → s7 2 i = mt 13 (75 * w + i) := fun i hi => by rw [b7 2 (by decide) (by decide), b6 2 (by decide) (by decide), b5 2 (by decide) (by decide), b4 2 (by decide) (by decide), b3 2 (by decide) (by decide), b2 2 (by decide) (by decide), d1, if_pos hi, u2_off (by decide), u2_off (by decide)]
  have r2 : ∀ i, i < 6 → s7 3 i = mt 13 (75 * w + 6 + i) := fun i hi => by rw [b7 3 (by decide) (by decide), b6 3 (by decide) (by decide), b5 3 (by decide) (by decide), b4 3 (by decide) (by decide), b3 3 (by decide) (by decide), d2, if_pos hi, b1 13 (by decide) (by decide), u2_off (by decide), u2_off (by decide)]
  have r3 : ∀ i, i < 6 → s7 4 i = mt 13 (75 * w + 12 + i) := fun i hi => by rw [b7 4 (by decide) (by decide), b6 4 (by decide) (by decide), b5 4 (by decide) (by decide), b4 4 (by decide) (by decide), d3, if_pos hi, b2 13 (by decide) (by decide), b1 13 (by decide) (by decide), u2_off (by decide), u2_off (by decide)]
  have r4 : ∀ i, i < 36 → s7 5 i = mt 13 (75 * w + 18 + i) := fun i hi => by rw [b7 5 (by decide) (by decide), b6 5 (by decide) (by decide), b5 5 (by decide) (by decide), d4, if_pos hi, b3 13 (by decide) (by decide), b2 13 (by decide) (by decide), b1 13 (by decide) (by decide), u2_off (by decide), u2_off (by decide)]
  have r5 : ∀ i, i < 6 → s7 6 i = mt 13 (75 * w + 54 + i) := fun i hi => by rw [b7 6 (by decide) (by decide), b6 6 (by decide) (by decide), d5, if_pos hi, b4 13 (by decide) (by decide), b3 13 (by decide) (by decide), b2 13 (by decide) (by decide), b1 13 (by decide) (by decide), u2_off (by decide), u2_off (by decide)]
  have r6 : ∀ i, i < 6 → s7 7 i = mt 13 (75 * w + 60 + i) := fun i hi => by rw [b7 7 (by decide) (by decide), d6, if_pos hi, b5 13 (by decide) (by decide), b4 13 (by decide) (by decide), b3 13 (by decide) (by decide), b2 13 (by decide) (by decide), b1 13 (by decide) (by decide), u2_off (by decide), u2_off (by decide)]
  have r7 : ∀ i, i < 6 → s7 8 i = mt 13 (75 * w + 66 + i) := fun i hi => by rw [d7, if_pos hi, b6 13 (by decide) (by decide), b5 13 (by decide) (by decide), b4 13 (by decide) (by decide), b3 13 (by decide) (by decide), b2 13 (by decide) (by decide), b1 13 (by decide) (by decide), u2_off (by decide), u2_off (by decide)]
  refine t_oneR (cur := 75 * w + 72) a7 f7 (by omega) ?_
  refine t_oneR (cur := 75 * w + 73) (by rw [u2_ne (Or.inr (by decide)), u2_same]) (by rw [u2_ne (Or.inr (by decide)), u2_ne (Or.inr (by decide))]; exact f7) (by omega) ?_
  refine t_oneR (cur := 75 * w + 74) (by rw [u2_ne (Or.inr (by decide)), u2_same]) (by rw [u2_ne (Or.inr (by decide)), u2_ne (Or.inr (by decide)), u2_ne (Or.inr (by decide)), u2_ne (Or.inr (by decide))]; exact f7) (by omega) ?_
  refine hk _ (fun i hi => ?_) (fun j h1 h2 => ?_) (fun a q8 q9 q10 h1 h2 => ?_)
  · unfold lvM
    simp only [u2_off (show (2 : Nat) ≠ 0 by decide), u2_off (show (3 : Nat) ≠ 0 by decide), u2_off (show (4 : Nat) ≠ 0 by decide), u2_off (show (5 : Nat) ≠ 0 by decide), u2_off (show (6 : Nat) ≠ 0 by decide), u2_off (show (7 : Nat) ≠ 0 by decide), u2_off (show (8 : Nat) ≠ 0 by decide), u2_off (show (13 : Nat) ≠ 0 by decide), e13]
    by_cases k1 : i < 6
    · rw [if_pos k1, r1 _ (by omega)]
    rw [if_neg k1]
    by_cases k2 : i < 12
    · rw [if_pos k2, r2 _ (by omega)]; congr 1; omega
    rw [if_neg k2]
    by_cases k3 : i < 18
    · rw [if_pos k3, r3 _ (by omega)]; congr 1; omega
    rw [if_neg k3]
    by_cases k4 : i < 54
    · rw [if_pos k4, r4 _ (by omega)]; congr 1; omega
    rw [if_neg k4]
    by_cases k5 : i < 60
    · rw [if_pos k5, r5 _ (by omega)]; congr 1; omega
    rw [if_neg k5]
    by_cases k6 : i < 66
    · rw [if_pos k6, r6 _ (by omega)]; congr 1; omega
    rw [if_neg k6]
    by_cases k7 : i < 72
    · rw [if_pos k7, r7 _ (by omega)]; congr 1; omega
    rw [if_neg k7]
    by_cases k8 : i = 72
    · subst k8; rw [if_pos rfl]; simp [u2, u1, upd]
    rw [if_neg k8]
    by_cases k9 : i = 73
    · subst k9; rw [if_pos rfl]; simp [u2, u1, upd]
    rw [if_neg k9]
    have : i = 74 := by omega
    subst this
    simp [u2, u1, upd]
  · simp only [u2_off h1]; exact baseJ j h1 h2
  · rw [← base0 a h1 h2]; simp [u2, u1, upd, q8, q9, q10, h2]
