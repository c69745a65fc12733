/-! pure part: the check thinks, and forgets -/
theorem t_thinks {mt : St} {K : St → Prop} (hk : ∀ s : St, (∀ j, j ≠ 0 → j ≠ 13 → s j = mt j) → (∀ a, a ≠ 21 → a ≠ 22 → s 0 a = mt 0 a) → (∀ i, i < 75 → s 13 (150 + i) = lvM mt i) → (∀ a, (a < 150 ∨ 225 ≤ a) → s 13 a = mt 13 a) → K s) : w_X9_thinks mt K := by
  unfold w_X9_thinks
  refine t_saves (w := 2) (by decide) fun s h1 h2 h3 => hk s h1 h2 (fun i hi => ?_) (fun a ha => ?_)
  · rw [h3, if_pos ⟨by omega, by omega⟩, show 150 + i - 75 * 2 = i by omega]
  · rw [h3, if_neg (by omega)]
theorem t_forgets {mt : St} {K : St → Prop} (hk : ∀ s : St, (∀ i, i < 75 → lvM s i = mt 13 (150 + i)) → (∀ j, j ≠ 0 → (j < 2 ∨ 8 < j) → s j = mt j) → (∀ a, a ≠ 8 → a ≠ 9 → a ≠ 10 → a ≠ 21 → a ≠ 22 → s 0 a = mt 0 a) → K s) : w_X9_forgets mt K := by
  unfold w_X9_forgets
  exact t_puts (w := 2) (by decide) fun s h1 h2 h3 => hk s h1 h2 h3
