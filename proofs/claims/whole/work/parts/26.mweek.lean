/-! pure part: the check's week against the class's -/
theorem lo_rel {σ : Type} (W : Nat → Nat → σ → Prop) (I : Nat → σ → Prop) {e i0 : Nat} (s0 : σ) (hi : i0 ≤ e) (h0 : I i0 s0) (hx : ∀ s, I e s → ∀ n, W (n + 1) e s)
    (hs : ∀ n i s, i0 ≤ i → i < e → I i s → (∀ s', I (i + 1) s' → W n (i + 1) s') → W (n + 1) i s) : ∃ n, W n i0 s0 := by
  have key : ∀ d i s, i0 ≤ i → i + d = e → I i s → W (d + 1) i s := by
    intro d
    induction d with
    | zero =>
      intro i s h1 h2 h3
      have : i = e := by omega
      subst this
      exact hx s h3 0
    | succ d ih => intro i s h1 h2 h3; exact hs (d + 1) i s h1 (by omega) h3 fun s' h4 => ih (i + 1) s' (by omega) (by omega) h4
  exact ⟨_, key (e - i0) i0 s0 (Nat.le_refl _) (by omega) h0⟩
/-- what a week of the check leaves -/
def wf (mt mt' : St) : Prop := (∀ j, j ≠ 0 → j ≠ 5 → j ≠ 8 → j ≠ 14 → mt' j = mt j) ∧ ∀ i, i ≠ 10 → i ≠ 25 → mt' 0 i = mt 0 i
theorem wf_rf {mt : St} : wf mt mt := ⟨fun _ _ _ _ _ => rfl, fun _ _ _ => rfl⟩
theorem wf.tr {a b c : St} (h1 : wf a b) (h2 : wf b c) : wf a c := ⟨fun j p q r s => (h2.1 j p q r s).trans (h1.1 j p q r s), fun i p q => (h2.2 i p q).trans (h1.2 i p q)⟩
theorem wf_u2 {mt : St} {j i : Nat} {v : Int32} (h : j = 5 ∨ j = 8 ∨ j = 14) : wf mt (u2 mt j i v) :=
  ⟨fun k a b c d => u2_off (by omega), fun k _ _ => by rw [u2_off (by omega)]⟩
theorem wf_u20 {mt : St} {i : Nat} {v : Int32} (h : i = 10 ∨ i = 25) : wf mt (u2 mt 0 i v) :=
  ⟨fun k a b c d => u2_off a, fun k _ _ => u2_ne (Or.inr (by omega))⟩
theorem wf_sets {mt : St} {p q : Nat} {v : Int32} : wf mt (setsF mt p q v) := (wf_u2 (Or.inl rfl)).tr (wf_u2 (Or.inl rfl))
theorem ob_off {c : Ct} {j i : Nat} {v : Int32} (h : j ≠ 0) : ob (u2 c j i v) = ob c := by
  unfold ob
  rw [u2_off (fun e => h e.symm)]
theorem vC_u4 {n nL : Nat} {c : Ct} {j i : Nat} {v : Int32} (h : vC n nL c) (hj : j ≠ 0) (hj5 : j ≠ 5) : vC n nL (u2 c j i v) := by
  obtain ⟨h1, h2, h3, h4, h5, h6, h7⟩ := h
  refine ⟨h1, h2, by rw [u2_off (Ne.symm hj)]; exact h3, by rw [u2_off (Ne.symm hj)]; exact h4, fun l hl => by rw [u2_off (Ne.symm hj5)]; exact h5 l hl, by rw [ob_off hj, u2_off (Ne.symm hj)]; exact h6, by rw [ob_off hj]; exact h7⟩
/-- hate set on both sides -/
theorem RM_hate {n nL p q : Nat} {mt : St} {c : Ct} {v : Int32} (h : RM n nL mt c) (hp : p < q) (hq : q < n) (h0 : 0 ≤ v) (h9 : v ≤ 99) : RM n nL (setsF mt p q v) (u2 c 4 (hI p q) v) ∧ RM n nL (setsF mt q p v) (u2 c 4 (hI p q) v) := by
  obtain ⟨g1, g2, g3, g4, g5, g6, g7, g8⟩ := h
  have hn := g1.1
  have cell : ∀ a b, a < b → b < n → u2 c 4 (hI p q) v 4 (hI a b) = if a = p ∧ b = q then v else c 4 (hI a b) := by
    intro a b h1 h2
    by_cases e : a = p ∧ b = q
    · obtain ⟨rfl, rfl⟩ := e
      rw [u2_same, if_pos ⟨rfl, rfl⟩]
    · rw [if_neg e, u2_ne (Or.inr (fun z => e (hI_inj h1 (by omega) hp (by omega) z)))]
  have r1 : ∀ (a b : Nat), a < 6 → b < 6 → setsF mt p q v 5 (6 * a + b) = if (a = p ∧ b = q) ∨ (a = q ∧ b = p) then v else mt 5 (6 * a + b) := by
    intro a b ha hb
    unfold setsF
    by_cases e2 : a = q ∧ b = p
    · obtain ⟨rfl, rfl⟩ := e2
      rw [u2_same, if_pos (Or.inr ⟨rfl, rfl⟩)]
    · rw [u2_ne (Or.inr (by omega))]
      by_cases e1 : a = p ∧ b = q
      · obtain ⟨rfl, rfl⟩ := e1
        rw [u2_same, if_pos (Or.inl ⟨rfl, rfl⟩)]
      · rw [u2_ne (Or.inr (by omega)), if_neg (by omega)]
  have r2 : ∀ (a b : Nat), a < 6 → b < 6 → setsF mt q p v 5 (6 * a + b) = if (a = p ∧ b = q) ∨ (a = q ∧ b = p) then v else mt 5 (6 * a + b) := by
    intro a b ha hb
    unfold setsF
    by_cases e2 : a = p ∧ b = q
    · obtain ⟨rfl, rfl⟩ := e2
      rw [u2_same, if_pos (Or.inl ⟨rfl, rfl⟩)]
    · rw [u2_ne (Or.inr (by omega))]
      by_cases e1 : a = q ∧ b = p
      · obtain ⟨rfl, rfl⟩ := e1
        rw [u2_same, if_pos (Or.inr ⟨rfl, rfl⟩)]
      · rw [u2_ne (Or.inr (by omega)), if_neg (by omega)]
  have key : ∀ mt' : St, (∀ j, j ≠ 5 → mt' j = mt j) → (∀ a b, a < 6 → b < 6 → mt' 5 (6 * a + b) = if (a = p ∧ b = q) ∨ (a = q ∧ b = p) then v else mt 5 (6 * a + b)) → RM n nL mt' (u2 c 4 (hI p q) v) := by
    intro mt' ho hr
    refine ⟨vC_u4 g1 (by decide) (by decide), fun a b h1 h2 => ?_, by rw [ho 0 (by decide)]; exact g3, by rw [ho 0 (by decide)]; exact g4, by rw [ho 0 (by decide), u2_off (by decide)]; exact g5, fun a ha => ?_, fun a b h1 h2 => ?_, fun l hl => ?_⟩
    · rw [cell a b h1 h2]
      split
      · exact ⟨h0, h9⟩
      · exact g2 a b h1 h2
    · rw [ho 2 (by decide), ho 3 (by decide), ho 4 (by decide), ho 0 (by decide), u2_off (by decide), u2_off (by decide), u2_off (by decide)]
      exact g6 a ha
    · have e := g7 a b h1 h2
      rw [hr a b (by omega) (by omega), hr b a (by omega) (by omega), cell a b h1 h2]
      by_cases z : a = p ∧ b = q
      · rw [if_pos (Or.inl z), if_pos (Or.inr ⟨z.2, z.1⟩), if_pos z]; exact ⟨rfl, rfl⟩
      · rw [if_neg (show ¬ ((a = p ∧ b = q) ∨ (a = q ∧ b = p)) by omega), if_neg (show ¬ ((b = p ∧ a = q) ∨ (b = q ∧ a = p)) by omega), if_neg z]; exact e
    · rw [ho 6 (by decide), ho 7 (by decide), ho 8 (by decide), u2_off (by decide), u2_off (by decide), ob_off (by decide)]
      exact g8 l hl
  exact ⟨key _ (fun j hj => by unfold setsF; rw [u2_off hj, u2_off hj]) r1, key _ (fun j hj => by unfold setsF; rw [u2_off hj, u2_off hj]) r2⟩
theorem u2_id {st : St} {k i : Nat} {v : Int32} (h : st k i = v) : u2 st k i v = st := by
  subst h
  funext a b
  unfold u2 u1 upd
  split
  next e =>
    subst e
    show (if b = i then st a i else st a b) = st a b
    split
    next e => subst e; rfl
    next => rfl
  next => rfl
def ef (mt mt' : St) : Prop := ∀ j, j ≠ 5 → mt' j = mt j
theorem ef_sets {mt : St} {p q : Nat} {v : Int32} : ef mt (setsF mt p q v) := fun j hj => by
  unfold setsF
  rw [u2_off hj, u2_off hj]
theorem ef.wf {mt mt' : St} (h : ef mt mt') : wf mt mt' := ⟨fun j _ h5 _ _ => h j h5, fun i _ _ => by rw [h 0 (by decide)]⟩
theorem ef.tr {a b c : St} (h1 : ef a b) (h2 : ef b c) : ef a c := fun j hj => (h2 j hj).trans (h1 j hj)
theorem t_fadesTwo {n nL p q : Nat} {mt : St} {c : Ct} {K : St → Prop} (h : RM n nL mt c) (hp : p < q) (hq : q < n) (hk : ∀ mt', RM n nL mt' (stepH p q c) → ef mt mt' → K mt') : w_X9_fadesTwo (nI p) (nI q) mt K := by
  have h' := h
  obtain ⟨g1, g2, g3, g4, g5, g6, g7, g8⟩ := h'
  have hn := g1.1
  have hb := g2 p q hp hq
  obtain ⟨a1, a2, a3, a4⟩ := g6 p (by omega)
  obtain ⟨b1, b2, b3, b4⟩ := g6 q hq
  have stay : c 3 p = -1 ∨ c 3 q = -1 → K mt := fun z => by
    have e : chgF c p q = 0 := by
      unfold chgF
      rcases z with z | z
      · rw [if_pos z]
      · by_cases h1 : c 3 p = -1
        · rw [if_pos h1]
        · rw [if_neg h1, if_pos z]
    have e2 : stepH p q c = c := by
      unfold stepH
      rw [e, held_id hb.1 hb.2]
      exact u2_id rfl
    exact hk mt (by rw [e2]; exact h) (fun _ _ => rfl)
  unfold w_X9_fadesTwo
  refine t_has (fun z => ⟨fun _ => stay (Or.inl (a3.mp z)), fun e => absurd e (by decide)⟩) (fun z => ⟨fun e => absurd rfl e, fun _ => t_has (fun z2 => ⟨fun e => absurd e (by decide), fun _ => stay (Or.inr (b3.mp z2))⟩) (fun z2 => ⟨fun _ => ?_, fun e => absurd rfl e⟩)⟩)
  have y1 : c 3 p ≠ -1 := fun e => z (a3.mpr e)
  have y2 : c 3 q ≠ -1 := fun e => z2 (b3.mpr e)
  refine t_hateOf (by omega) (by omega) ?_
  rw [clI (show p < 6 by omega) (by decide), clI (show q < 6 by omega) (by decide), (g7 p q hp hq).1, a4 y1, b4 y2]
  refine ⟨vp_in_nI (by omega) (by decide), vp_in_nI (by omega) (by decide), fun e => ?_, fun e => ?_⟩
  · refine t_stirsOf (by omega) (t_stirsOf (by omega) (t_held ?_))
    rw [w_X9_fadesTwo_b89]
    refine t_sets (by omega) (by omega) (hk _ ?_ ef_sets)
    rw [hlF_held, a1, a2, b1, b2]
    have e2 : stepH p q c = u2 c 4 (hI p q) (heldF (c 4 (hI p q) + stirF c p + stirF c q)) := by
      unfold stepH chgF
      rw [if_neg y1, if_neg y2, if_neg e, Int32.add_assoc]
    rw [e2]
    exact (RM_hate h hp hq (heldF_in _).1 (heldF_in _).2).1
  · refine t_fadesOf (by omega) (t_fadesOf (by omega) (t_held ?_))
    rw [w_X9_fadesTwo_b89]
    refine t_sets (by omega) (by omega) (hk _ ?_ ef_sets)
    rw [hlF_held, a1, a2, b1, b2]
    have e2 : stepH p q c = u2 c 4 (hI p q) (heldF (c 4 (hI p q) - fadeF c p - fadeF c q)) := by
      unfold stepH chgF
      rw [if_neg y1, if_neg y2, if_pos e, addsub]
    rw [e2]
    exact (RM_hate h hp hq (heldF_in _).1 (heldF_in _).2).1
