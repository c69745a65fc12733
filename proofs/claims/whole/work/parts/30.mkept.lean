/-! pure part: the check keeps its country in a row, and puts it back -/
theorem t_passesS {k n cur : Nat} {mt : St} {K : St → Prop} (hk0 : k ≠ 0) (hk13 : k ≠ 13) (hc : mt 0 22 = nI cur) (hf : mt 0 21 = 1) (hb : cur + n ≤ 825)
    (hk : ∀ s : St, s 0 22 = nI (cur + n) → (∀ j, j ≠ 0 → j ≠ 13 → s j = mt j) → (∀ a, a ≠ 22 → s 0 a = mt 0 a) → (∀ a, s 13 a = if cur ≤ a ∧ a < cur + n then mt k (a - cur) else mt 13 a) → K s) : w_X9_passes k n mt K := by
  unfold w_X9_passes
  refine lo_rel (fun m i (s : St) => w_X9_passes_L2 k n K m (nI i) s) (fun i s => s 0 22 = nI (cur + i) ∧ (∀ j, j ≠ 0 → j ≠ 13 → s j = mt j) ∧ (∀ a, a ≠ 22 → s 0 a = mt 0 a) ∧ ∀ a, s 13 a = if cur ≤ a ∧ a < cur + i then mt k (a - cur) else mt 13 a) mt (Nat.zero_le n)
    ⟨hc, fun _ _ _ => rfl, fun _ _ => rfl, fun a => (if_neg (show ¬ (cur ≤ a ∧ a < cur + 0) by omega)).symm⟩ (fun s hI m => ?_) (fun m i s h1 h2 hI hw => ?_)
  · rw [w_X9_passes_L2, w_X9_passes_L2q]
    exact ⟨fun _ => hk s hI.1 hI.2.1 hI.2.2.1 hI.2.2.2, fun h9 => absurd (nI_le (Nat.le_refl n) (by omega)) h9⟩
  · obtain ⟨e1, e2, e3, e4⟩ := hI
    rw [w_X9_passes_L2, w_X9_passes_L2q]
    refine ⟨fun h9 => absurd h9 (nI_ge h2 (by omega)), fun _ => ⟨fun h9 => ?_, fun _ => ⟨vp_in_nI h2 (by omega), ?_⟩⟩⟩
    · rw [e3 21 (by decide), hf] at h9
      exact absurd h9 (by decide)
    · rw [e1, clI (show i < 825 by omega) (by decide), clI (show cur + i < 825 by omega) (by decide)]
      refine ⟨vp_in_nI (by omega) (by decide), ?_⟩
      rw [w_X9_passes_b42, nI_inc]
      refine hw _ ⟨?_, fun j a b => ?_, fun a ha => ?_, fun a => ?_⟩
      · rw [u2_same, u2_off (by decide), e1, nI_inc]; rfl
      · rw [u2_off a, u2_off b]; exact e2 j a b
      · rw [u2_ne (Or.inr ha), u2_off (by decide)]; exact e3 a ha
      · rw [u2_off (by decide)]
        by_cases h : a = cur + i
        · subst h
          rw [u2_same, e2 k hk0 hk13, if_pos ⟨by omega, by omega⟩, Nat.add_sub_cancel_left]
        · rw [u2_ne (Or.inr h), e4 a]
          by_cases h3 : cur ≤ a ∧ a < cur + i
          · rw [if_pos h3, if_pos ⟨h3.1, by omega⟩]
          · rw [if_neg h3, if_neg (by omega)]
theorem t_passesR {k n cur : Nat} {mt : St} {K : St → Prop} (hk0 : k ≠ 0) (hk13 : k ≠ 13) (hc : mt 0 22 = nI cur) (hf : mt 0 21 = 0) (hb : cur + n ≤ 825)
    (hk : ∀ s : St, s 0 22 = nI (cur + n) → (∀ j, j ≠ 0 → j ≠ k → s j = mt j) → (∀ a, a ≠ 22 → s 0 a = mt 0 a) → (∀ a, s k a = if a < n then mt 13 (cur + a) else mt k a) → K s) : w_X9_passes k n mt K := by
  unfold w_X9_passes
  refine lo_rel (fun m i (s : St) => w_X9_passes_L2 k n K m (nI i) s) (fun i s => s 0 22 = nI (cur + i) ∧ (∀ j, j ≠ 0 → j ≠ k → s j = mt j) ∧ (∀ a, a ≠ 22 → s 0 a = mt 0 a) ∧ ∀ a, s k a = if a < i then mt 13 (cur + a) else mt k a) mt (Nat.zero_le n)
    ⟨hc, fun _ _ _ => rfl, fun _ _ => rfl, fun a => (if_neg (Nat.not_lt_zero a)).symm⟩ (fun s hI m => ?_) (fun m i s h1 h2 hI hw => ?_)
  · rw [w_X9_passes_L2, w_X9_passes_L2q]
    exact ⟨fun _ => hk s hI.1 hI.2.1 hI.2.2.1 hI.2.2.2, fun h9 => absurd (nI_le (Nat.le_refl n) (by omega)) h9⟩
  · obtain ⟨e1, e2, e3, e4⟩ := hI
    rw [w_X9_passes_L2, w_X9_passes_L2q]
    refine ⟨fun h9 => absurd h9 (nI_ge h2 (by omega)), fun _ => ⟨fun _ => ?_, fun h9 => ?_⟩⟩
    · rw [e1, clI (show i < 825 by omega) (by decide), clI (show cur + i < 825 by omega) (by decide)]
      refine ⟨vp_in_nI (by omega) (by decide), vp_in_nI h2 (by omega), ?_⟩
      rw [w_X9_passes_b42, nI_inc]
      refine hw _ ⟨?_, fun j a b => ?_, fun a ha => ?_, fun a => ?_⟩
      · rw [u2_same, u2_off (Ne.symm hk0), e1, nI_inc]; rfl
      · rw [u2_off a, u2_off b]; exact e2 j a b
      · rw [u2_ne (Or.inr ha), u2_off (Ne.symm hk0)]; exact e3 a ha
      · rw [u2_off hk0]
        by_cases h : a = i
        · subst h
          rw [u2_same, if_pos (by omega), e2 13 (by decide) (Ne.symm hk13)]
        · rw [u2_ne (Or.inr h), e4 a]
          by_cases h3 : a < i
          · rw [if_pos h3, if_pos (by omega)]
          · rw [if_neg h3, if_neg (by omega)]
    · rw [e3 21 (by decide), hf] at h9
      exact absurd rfl h9
theorem t_oneS {cur : Nat} {v : Int32} {mt : St} {K : Int32 → St → Prop} (hc : mt 0 22 = nI cur) (hf : mt 0 21 = 1) (hb : cur < 825) (hk : K v (u2 (u2 mt 13 cur v) 0 22 (nI (cur + 1)))) : w_X9_passOne v mt K := by
  unfold w_X9_passOne
  refine ⟨fun h9 => absurd (hf.symm.trans h9) (by decide), fun _ => ?_⟩
  rw [w_X9_passOne_b20]
  refine ⟨fun h9 => absurd (hf.symm.trans h9) (by decide), fun _ => ?_⟩
  rw [hc, clI hb (by decide), w_X9_passOne_b38, u2_off (by decide), hc, nI_inc]
  exact ⟨vp_in_nI hb (by decide), hk⟩
theorem t_oneR {cur : Nat} {v : Int32} {mt : St} {K : Int32 → St → Prop} (hc : mt 0 22 = nI cur) (hf : mt 0 21 = 0) (hb : cur < 825) (hk : K (mt 13 cur) (u2 mt 0 22 (nI (cur + 1)))) : w_X9_passOne v mt K := by
  unfold w_X9_passOne
  refine ⟨fun _ => ?_, fun h9 => absurd hf h9⟩
  rw [hc, clI hb (by decide), w_X9_passOne_b20]
  refine ⟨vp_in_nI hb (by decide), fun _ => ?_, fun h9 => absurd hf h9⟩
  rw [w_X9_passOne_b38, hc, nI_inc]
  exact hk
def lvM (mt : St) (i : Nat) : Int32 := if i < 6 then mt 2 i else if i < 12 then mt 3 (i - 6) else if i < 18 then mt 4 (i - 12) else if i < 54 then mt 5 (i - 18) else if i < 60 then mt 6 (i - 54) else if i < 66 then mt 7 (i - 60) else if i < 72 then mt 8 (i - 66) else if i = 72 then mt 0 8 else if i = 73 then mt 0 9 else mt 0 10
theorem c75 : ∀ w, w < 11 → 75 * nI w = nI (75 * w) := by decide +kernel
theorem t_saves {w : Nat} {mt : St} {K : St → Prop} (hw : w < 11) (hk : ∀ s : St, (∀ j, j ≠ 0 → j ≠ 13 → s j = mt j) → (∀ a, a ≠ 21 → a ≠ 22 → s 0 a = mt 0 a) → (∀ a, s 13 a = if 75 * w ≤ a ∧ a < 75 * w + 75 then lvM mt (a - 75 * w) else mt 13 a) → K s) : w_X9_passesAll (nI w) 1 mt K := by
  unfold w_X9_passesAll
  refine ⟨Or.inr rfl, ?_⟩
  rw [c75 w hw]
  refine t_passesS (cur := 75 * w) (by decide) (by decide) (by rw [u2_ne (Or.inr (by decide)), u2_same]) (by rw [u2_same]) (by omega) fun s1 a1 b1 c1 d1 => ?_
  refine t_passesS (cur := 75 * w + 6) (by decide) (by decide) (a1) (by rw [c1 21 (by decide), u2_same]) (by omega) fun s2 a2 b2 c2 d2 => ?_
  refine t_passesS (cur := 75 * w + 12) (by decide) (by decide) (a2) (by rw [c2 21 (by decide), c1 21 (by decide), u2_same]) (by omega) fun s3 a3 b3 c3 d3 => ?_
  refine t_passesS (cur := 75 * w + 18) (by decide) (by decide) (a3) (by rw [c3 21 (by decide), c2 21 (by decide), c1 21 (by decide), u2_same]) (by omega) fun s4 a4 b4 c4 d4 => ?_
  refine t_passesS (cur := 75 * w + 54) (by decide) (by decide) (a4) (by rw [c4 21 (by decide), c3 21 (by decide), c2 21 (by decide), c1 21 (by decide), u2_same]) (by omega) fun s5 a5 b5 c5 d5 => ?_
  refine t_passesS (cur := 75 * w + 60) (by decide) (by decide) (a5) (by rw [c5 21 (by decide), c4 21 (by decide), c3 21 (by decide), c2 21 (by decide), c1 21 (by decide), u2_same]) (by omega) fun s6 a6 b6 c6 d6 => ?_
  refine t_passesS (cur := 75 * w + 66) (by decide) (by decide) (a6) (by rw [c6 21 (by decide), c5 21 (by decide), c4 21 (by decide), c3 21 (by decide), c2 21 (by decide), c1 21 (by decide), u2_same]) (by omega) fun s7 a7 b7 c7 d7 => ?_
  have f7 : s7 0 21 = 1 := by rw [c7 21 (by decide), c6 21 (by decide), c5 21 (by decide), c4 21 (by decide), c3 21 (by decide), c2 21 (by decide), c1 21 (by decide), u2_same]
  have base0 : ∀ a, a ≠ 21 → a ≠ 22 → s7 0 a = mt 0 a := fun a h1 h2 => by rw [c7 a h2, c6 a h2, c5 a h2, c4 a h2, c3 a h2, c2 a h2, c1 a h2, u2_ne (Or.inr h1), u2_ne (Or.inr h2)]
  have baseJ : ∀ j, j ≠ 0 → j ≠ 13 → s7 j = mt j := fun j h1 h2 => by rw [b7 j h1 h2, b6 j h1 h2, b5 j h1 h2, b4 j h1 h2, b3 j h1 h2, b2 j h1 h2, b1 j h1 h2, u2_off h1, u2_off h1]
  have j2 : s1 3 = mt 3 := by rw [b1 3 (by decide) (by decide), u2_off (by decide), u2_off (by decide)]
  have j3 : s2 4 = mt 4 := by rw [b2 4 (by decide) (by decide), b1 4 (by decide) (by decide), u2_off (by decide), u2_off (by decide)]
  have j4 : s3 5 = mt 5 := by rw [b3 5 (by decide) (by decide), b2 5 (by decide) (by decide), b1 5 (by decide) (by decide), u2_off (by decide), u2_off (by decide)]
  have j5 : s4 6 = mt 6 := by rw [b4 6 (by decide) (by decide), b3 6 (by decide) (by decide), b2 6 (by decide) (by decide), b1 6 (by decide) (by decide), u2_off (by decide), u2_off (by decide)]
  have j6 : s5 7 = mt 7 := by rw [b5 7 (by decide) (by decide), b4 7 (by decide) (by decide), b3 7 (by decide) (by decide), b2 7 (by decide) (by decide), b1 7 (by decide) (by decide), u2_off (by decide), u2_off (by decide)]
  have j7 : s6 8 = mt 8 := by rw [b6 8 (by decide) (by decide), b5 8 (by decide) (by decide), b4 8 (by decide) (by decide), b3 8 (by decide) (by decide), b2 8 (by decide) (by decide), b1 8 (by decide) (by decide), u2_off (by decide), u2_off (by decide)]
  have j1 : u2 (u2 mt 0 22 (nI (75 * w))) 0 21 1 2 = mt 2 := by rw [u2_off (by decide), u2_off (by decide)]
  have j0 : u2 (u2 mt 0 22 (nI (75 * w))) 0 21 1 13 = mt 13 := by rw [u2_off (by decide), u2_off (by decide)]
  rw [j1, j0] at d1
  rw [j2] at d2
  rw [j3] at d3
  rw [j4] at d4
  rw [j5] at d5
  rw [j6] at d6
  rw [j7] at d7
  refine t_oneS (cur := 75 * w + 72) a7 f7 (by omega) ?_
  refine t_oneS (cur := 75 * w + 73) (by rw [u2_ne (Or.inr (by decide)), u2_same]) (by rw [u2_ne (Or.inr (by decide)), u2_ne (Or.inr (by decide)), u2_off (by decide)]; exact f7) (by omega) ?_
  refine t_oneS (cur := 75 * w + 74) (by rw [u2_ne (Or.inr (by decide)), u2_same]) (by rw [u2_ne (Or.inr (by decide)), u2_ne (Or.inr (by decide)), u2_off (by decide), u2_ne (Or.inr (by decide)), u2_ne (Or.inr (by decide)), u2_off (by decide)]; exact f7) (by omega) ?_
  have g8 : s7 0 8 = mt 0 8 := base0 8 (by decide) (by decide)
  have g9 : s7 0 9 = mt 0 9 := base0 9 (by decide) (by decide)
  have g10 : s7 0 10 = mt 0 10 := base0 10 (by decide) (by decide)
  refine hk _ (fun j h1 h2 => ?_) (fun a h1 h2 => ?_) (fun a => ?_)
  · simp only [u2_off h1, u2_off h2]; exact baseJ j h1 h2
  · by_cases e8 : a = 8
    · subst e8; simp [u2, u1, upd, g8]
    · by_cases e9 : a = 9
      · subst e9; simp [u2, u1, upd, g9]
      · by_cases e10 : a = 10
        · subst e10; simp [u2, u1, upd, g10]
        · rw [← base0 a h1 h2]; simp [u2, u1, upd, e8, e9, e10, h1, h2]
  · have z : a < 75 * w ∨ 75 * w + 75 ≤ a ∨ ∃ r, r < 75 ∧ a = 75 * w + r := by
      by_cases h1 : a < 75 * w
      · exact Or.inl h1
      · by_cases h2 : a < 75 * w + 75
        · exact Or.inr (Or.inr ⟨a - 75 * w, by omega, by omega⟩)
        · exact Or.inr (Or.inl (by omega))
    have out : (a < 75 * w ∨ 75 * w + 72 ≤ a) → s7 13 a = mt 13 a := fun h => by rw [d7, if_neg (by omega), d6, if_neg (by omega), d5, if_neg (by omega), d4, if_neg (by omega), d3, if_neg (by omega), d2, if_neg (by omega), d1, if_neg (by omega)]
    rcases z with z | z | ⟨r, hr, rfl⟩
    · rw [if_neg (by omega), ← out (Or.inl z)]
      simp [u2, u1, upd, show a ≠ 75 * w + 72 by omega, show a ≠ 75 * w + 73 by omega, show a ≠ 75 * w + 74 by omega]
    · rw [if_neg (by omega), ← out (Or.inr (by omega))]
      simp [u2, u1, upd, show a ≠ 75 * w + 72 by omega, show a ≠ 75 * w + 73 by omega, show a ≠ 75 * w + 74 by omega]
    · rw [if_pos ⟨by omega, by omega⟩, Nat.add_sub_cancel_left]
      by_cases r2 : r = 72
      · subst r2; simp [u2, u1, upd, lvM, g8]
      · by_cases r3 : r = 73
        · subst r3; simp [u2, u1, upd, lvM, g8, g9]
        · by_cases r4 : r = 74
          · subst r4; simp [u2, u1, upd, lvM, g8, g9, g10]
          · have q : s7 13 (75 * w + r) = lvM mt r := by
              unfold lvM
              by_cases k1 : r < 6
              · rw [d7, if_neg (by omega), d6, if_neg (by omega), d5, if_neg (by omega), d4, if_neg (by omega), d3, if_neg (by omega), d2, if_neg (by omega), d1, if_pos ⟨by omega, by omega⟩, if_pos k1]; congr 1; omega
              by_cases k2 : r < 12
              · rw [d7, if_neg (by omega), d6, if_neg (by omega), d5, if_neg (by omega), d4, if_neg (by omega), d3, if_neg (by omega), d2, if_pos ⟨by omega, by omega⟩, if_neg (show ¬ r < 6 by omega), if_pos k2]; congr 1; omega
              by_cases k3 : r < 18
              · rw [d7, if_neg (by omega), d6, if_neg (by omega), d5, if_neg (by omega), d4, if_neg (by omega), d3, if_pos ⟨by omega, by omega⟩, if_neg (show ¬ r < 6 by omega), if_neg (show ¬ r < 12 by omega), if_pos k3]; congr 1; omega
              by_cases k4 : r < 54
              · rw [d7, if_neg (by omega), d6, if_neg (by omega), d5, if_neg (by omega), d4, if_pos ⟨by omega, by omega⟩, if_neg (show ¬ r < 6 by omega), if_neg (show ¬ r < 12 by omega), if_neg (show ¬ r < 18 by omega), if_pos k4]; congr 1; omega
              by_cases k5 : r < 60
              · rw [d7, if_neg (by omega), d6, if_neg (by omega), d5, if_pos ⟨by omega, by omega⟩, if_neg (show ¬ r < 6 by omega), if_neg (show ¬ r < 12 by omega), if_neg (show ¬ r < 18 by omega), if_neg (show ¬ r < 54 by omega), if_pos k5]; congr 1; omega
              by_cases k6 : r < 66
              · rw [d7, if_neg (by omega), d6, if_pos ⟨by omega, by omega⟩, if_neg (show ¬ r < 6 by omega), if_neg (show ¬ r < 12 by omega), if_neg (show ¬ r < 18 by omega), if_neg (show ¬ r < 54 by omega), if_neg (show ¬ r < 60 by omega), if_pos k6]; congr 1; omega
              by_cases k7 : r < 72
              · rw [d7, if_pos ⟨by omega, by omega⟩, if_neg (show ¬ r < 6 by omega), if_neg (show ¬ r < 12 by omega), if_neg (show ¬ r < 18 by omega), if_neg (show ¬ r < 54 by omega), if_neg (show ¬ r < 60 by omega), if_neg (show ¬ r < 66 by omega), if_pos k7]; congr 1; omega
              omega
            rw [← q]
            simp [u2, u1, upd, show r ≠ 72 from r2, show r ≠ 73 from r3, show r ≠ 74 from r4]
