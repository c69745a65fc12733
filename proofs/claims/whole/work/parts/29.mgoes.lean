/-! pure part: the check's week is the class's -/
theorem t_row29 {n nL p : Nat} {mt : St} {c : Ct} {c17 : Int32 → St → Prop} {K : St → Prop} (h : RM n nL mt c) (hp : p < n) (hk : ∀ mt', RM n nL mt' (fr (p + 1) n (fun q c => stepH p q c) c) → ef mt mt' → c17 (nI (p + 1)) mt') : ∃ m, w_X9_goesWeek_L29 c17 K m (nI p) (nI (p + 1)) mt := by
  have hn := h.1.1
  refine lo_rel (fun m q (s : St) => w_X9_goesWeek_L29 c17 K m (nI p) (nI q) s) (fun q s => RM n nL s (fr (p + 1) q (fun q c => stepH p q c) c) ∧ ef mt s) mt (show p + 1 ≤ n by omega) ⟨by rw [fr_self]; exact h, fun _ _ => rfl⟩ (fun s hI m => ?_) (fun m q s h1 h2 hI hw => ?_)
  · rw [w_X9_goesWeek_L29, w_X9_goesWeek_L29q, hI.1.2.2.1]
    refine ⟨fun _ => ?_, fun h9 => absurd (nI_le (Nat.le_refl n) (by omega)) h9⟩
    rw [w_X9_goesWeek_b49, nI_inc]
    exact hk s hI.1 hI.2
  · rw [w_X9_goesWeek_L29, w_X9_goesWeek_L29q, hI.1.2.2.1]
    refine ⟨fun h9 => absurd h9 (nI_ge h2 (by omega)), fun _ => t_fadesTwo hI.1 (by omega) h2 (fun s' e1 e2 => ?_)⟩
    rw [nI_inc]
    exact hw s' ⟨by rw [fr_succ h1]; exact e1, hI.2.tr e2⟩
theorem t_rows17 {n nL : Nat} {mt : St} {c : Ct} {K : St → Prop} (h : RM n nL mt c) (hk : ∀ mt', RM n nL mt' (hatesF n c) → ef mt mt' → w_X9_goesWeek_b55 K mt') : ∃ m, w_X9_goesWeek_L17 K m 0 mt := by
  have hn := h.1.1
  refine lo_rel (fun m p (s : St) => w_X9_goesWeek_L17 K m (nI p) s) (fun p s => RM n nL s (fr 0 p (fun p c => fr (p + 1) n (fun q c => stepH p q c) c) c) ∧ ef mt s) mt (Nat.zero_le n) ⟨by rw [fr_self]; exact h, fun _ _ => rfl⟩ (fun s hI m => ?_) (fun m p s h1 h2 hI hw => ?_)
  · rw [w_X9_goesWeek_L17, w_X9_goesWeek_L17q, hI.1.2.2.1]
    exact ⟨fun _ => hk s hI.1 hI.2, fun h9 => absurd (nI_le (Nat.le_refl n) (by omega)) h9⟩
  · rw [w_X9_goesWeek_L17, w_X9_goesWeek_L17q, hI.1.2.2.1]
    refine ⟨fun h9 => absurd h9 (nI_ge h2 (by omega)), fun _ => ?_⟩
    rw [nI_inc]
    exact t_row29 hI.1 h2 fun s' e1 e2 => hw s' ⟨by rw [fr_succ h1]; exact e1, hI.2.tr e2⟩
/-- what a week of the check says beside its country: how many it opened, by whom -/
def WS (n nL : Nat) (c : Ct) (mt' : St) : Prop := ∃ b cnt, (weekF n nL c).1 = nI b ∧ b < 2 ^ nL ∧ mt' 0 25 = nI cnt ∧ cnt ≤ nL ∧ (cnt = 0 ↔ b = 0) ∧ ∀ j, j < nL → mt' 14 j = if b.testBit j then (weekF n nL c).2 7 j else -9
theorem vC_wk {n nL : Nat} {c : Ct} {v : Int32} (h : vC n nL c) : vC n nL (u2 c 0 10 v) := by
  obtain ⟨h1, h2, h3, h4, h5, h6, h7⟩ := h
  exact vC_of h1 h2 (by rw [u2_ne (Or.inr (by decide))]; exact h3) (by rw [u2_ne (Or.inr (by decide))]; exact h4) (fun l hl => by rw [u2_off (by decide)]; exact h5 l hl) ⟨ob c, h7, by rw [u2_ne (Or.inr (by decide))]; exact h6⟩
theorem ob_wk {c : Ct} {v : Int32} : ob (u2 c 0 10 v) = ob c := by
  unfold ob
  rw [u2_ne (Or.inr (by decide))]
theorem t_goesWeek {n nL : Nat} {mt : St} {c : Ct} {K : St → Prop} (h : RM n nL mt c) (hk : ∀ mt', RM n nL mt' (weekF n nL c).2 → wf mt mt' → WS n nL c mt' → K mt') : w_X9_goesWeek mt K := by
  have h1 : RM n nL (u2 (u2 mt 0 10 (mt 0 10 + 1)) 0 25 0) (u2 c 0 10 (c 0 10 + 1)) := by
    obtain ⟨g1, g2, g3, g4, g5, g6, g7, g8⟩ := h
    refine ⟨vC_wk g1, fun p q a b => by rw [u2_off (by decide)]; exact g2 p q a b, by rw [u2_ne (Or.inr (by decide)), u2_ne (Or.inr (by decide))]; exact g3, by rw [u2_ne (Or.inr (by decide)), u2_ne (Or.inr (by decide))]; exact g4, by rw [u2_ne (Or.inr (by decide)), u2_same, u2_same, g5], fun p hp => ?_, fun p q a b => ?_, fun l hl => ?_⟩
    · rw [u2_off (by decide), u2_off (by decide), u2_off (by decide), u2_off (by decide), u2_off (by decide), u2_off (by decide), u2_ne (Or.inr (by decide)), u2_ne (Or.inr (by decide)), u2_off (by decide), u2_off (by decide), u2_off (by decide)]
      exact g6 p hp
    · rw [u2_off (by decide), u2_off (by decide), u2_off (by decide)]
      exact g7 p q a b
    · rw [u2_off (by decide), u2_off (by decide), u2_off (by decide), u2_off (by decide), u2_off (by decide), u2_off (by decide), u2_off (by decide), u2_off (by decide), ob_wk]
      exact g8 l hl
  unfold w_X9_goesWeek
  refine t_rows17 h1 fun s e1 e2 => ?_
  rw [w_X9_goesWeek_b55]
  refine t_letters e1 (by rw [e2 0 (by decide), u2_same]) fun s' hI => ?_
  obtain ⟨b, cnt, f1, f2, f3, f4, f5, f6, f7, f8⟩ := hI
  exact hk s' f3 ((((wf_u20 (Or.inl rfl)).tr (wf_u20 (Or.inr rfl))).tr e2.wf).tr f4) ⟨b, cnt, f1, f2, f5, f6, f7, f8⟩
theorem t_goesOn {n nL w : Nat} {mt : St} {c : Ct} {K : St → Prop} (hw : w < 2147483648) (h : RM n nL mt c) (hk : ∀ mt', RM n nL mt' (weeksF n nL w c) → wf mt mt' → K mt') : w_X9_goesOn (nI w) mt K := by
  unfold w_X9_goesOn
  refine lo_rel (fun m i (s : St) => w_X9_goesOn_L2 (nI w) K m (nI i) s) (fun i s => RM n nL s (weeksF n nL i c) ∧ wf mt s) mt (Nat.zero_le w) ⟨h, wf_rf⟩ (fun s hI m => ?_) (fun m i s h1 h2 hI hk2 => ?_)
  · rw [w_X9_goesOn_L2, w_X9_goesOn_L2q]
    exact ⟨fun _ => hk s hI.1 hI.2, fun h9 => absurd (nI_le (Nat.le_refl w) hw) h9⟩
  · rw [w_X9_goesOn_L2, w_X9_goesOn_L2q]
    refine ⟨fun h9 => absurd h9 (nI_ge h2 hw), fun _ => t_goesWeek hI.1 fun s' e1 e2 _ => ?_⟩
    rw [nI_inc]
    exact hk2 s' ⟨by unfold weeksF; rw [fr_succ (Nat.zero_le i)]; exact e1, hI.2.tr e2⟩
