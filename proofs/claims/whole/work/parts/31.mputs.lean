/-! pure part: the check puts a kept country back -/
theorem RM_lv {n nL : Nat} {mt mt' : St} {c : Ct} (h : RM n nL mt c) (hl : ∀ i, i < 75 → lvM mt' i = lvM mt i) (h11 : mt' 0 11 = mt 0 11) : RM n nL mt' c := by
  obtain ⟨g1, g2, g3, g4, g5, g6, g7, g8⟩ := h
  have hn := g1.1
  have hL := g1.2.1
  have k2 : ∀ i, i < 6 → mt' 2 i = mt 2 i := fun i hi => by have e := hl i (by omega); simpa [lvM, hi] using e
  have k3 : ∀ i, i < 6 → mt' 3 i = mt 3 i := fun i hi => by have e := hl (6 + i) (by omega); simpa [lvM, show ¬ 6 + i < 6 by omega, show 6 + i < 12 by omega, show 6 + i - 6 = i by omega] using e
  have k4 : ∀ i, i < 6 → mt' 4 i = mt 4 i := fun i hi => by have e := hl (12 + i) (by omega); simpa [lvM, show ¬ 12 + i < 6 by omega, show ¬ 12 + i < 12 by omega, show 12 + i < 18 by omega, show 12 + i - 12 = i by omega] using e
  have k5 : ∀ i, i < 36 → mt' 5 i = mt 5 i := fun i hi => by have e := hl (18 + i) (by omega); simpa [lvM, show ¬ 18 + i < 6 by omega, show ¬ 18 + i < 12 by omega, show ¬ 18 + i < 18 by omega, show 18 + i < 54 by omega, show 18 + i - 18 = i by omega] using e
  have k6 : ∀ i, i < 6 → mt' 6 i = mt 6 i := fun i hi => by have e := hl (54 + i) (by omega); simpa [lvM, show ¬ 54 + i < 6 by omega, show ¬ 54 + i < 12 by omega, show ¬ 54 + i < 18 by omega, show ¬ 54 + i < 54 by omega, show 54 + i < 60 by omega, show 54 + i - 54 = i by omega] using e
  have k7 : ∀ i, i < 6 → mt' 7 i = mt 7 i := fun i hi => by have e := hl (60 + i) (by omega); simpa [lvM, show ¬ 60 + i < 6 by omega, show ¬ 60 + i < 12 by omega, show ¬ 60 + i < 18 by omega, show ¬ 60 + i < 54 by omega, show ¬ 60 + i < 60 by omega, show 60 + i < 66 by omega, show 60 + i - 60 = i by omega] using e
  have k8 : ∀ i, i < 6 → mt' 8 i = mt 8 i := fun i hi => by have e := hl (66 + i) (by omega); simpa [lvM, show ¬ 66 + i < 6 by omega, show ¬ 66 + i < 12 by omega, show ¬ 66 + i < 18 by omega, show ¬ 66 + i < 54 by omega, show ¬ 66 + i < 60 by omega, show ¬ 66 + i < 66 by omega, show 66 + i < 72 by omega, show 66 + i - 66 = i by omega] using e
  have z8 : mt' 0 8 = mt 0 8 := hl 72 (by decide)
  have z9 : mt' 0 9 = mt 0 9 := hl 73 (by decide)
  have z10 : mt' 0 10 = mt 0 10 := hl 74 (by decide)
  refine ⟨g1, g2, z8.trans g3, z9.trans g4, z10.trans g5, fun p hp => ?_, fun p q a b => ?_, fun l hl => ?_⟩
  · rw [k2 p (by omega), k3 p (by omega), k4 p (by omega), h11]
    exact g6 p hp
  · rw [k5 _ (by omega), k5 _ (by omega)]
    exact g7 p q a b
  · rw [k6 l (by omega), k7 l (by omega), k8 l (by omega)]
    exact g8 l hl
