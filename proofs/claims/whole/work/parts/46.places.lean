/-! pure part: places, fewest -/
def twI (i : Nat) : Nat := 100 * (i / 16) + 10 * (i / 4 % 4) + i % 4
theorem tw_x : ∀ i, i < 64 → (((nI i / 16) * 100) + (((nI i / 4) - (nI i / 4) / 4 * 4) * 10)) + (nI i - nI i / 4 * 4) = nI (twI i) := by decide +kernel
theorem tw_m : ∀ i, i < 64 → ((100 * (nI i / 16)) + (10 * ((nI i / 4) - (nI i / 4) / 4 * 4))) + (nI i - nI i / 4 * 4) = nI (twI i) := by decide +kernel
theorem tw_d : ∀ i, i < 64 → nI (twI i) / 100 = nI (i / 16) ∧ (nI (twI i) / 10) - (nI (twI i) / 10) / 10 * 10 = nI (i / 4 % 4) ∧ nI (twI i) - nI (twI i) / 10 * 10 = nI (i % 4) := by decide +kernel
theorem tw_v : ∀ i, i < 64 → nI i / 16 = nI (i / 16) ∧ (nI i / 4) - (nI i / 4) / 4 * 4 = nI (i / 4 % 4) ∧ nI i - nI i / 4 * 4 = nI (i % 4) := by decide +kernel
def plC (c : Ct) (p q r i : Nat) : Ct := u2 (u2 (u2 c 3 p (nI (i / 16))) 3 q (nI (i / 4 % 4))) 3 r (nI (i % 4))
def plN (n nL w p q r : Nat) (c : Ct) (i : Nat) : Nat := cnF n nL w (plC c p q r i)
def plS (N : Nat → Nat) (i : Nat) (s : Option (Nat × Nat)) : Option (Nat × Nat) := match s with
  | none => some (i, N i)
  | some (b, m) => if N i ≤ m then s else some (i, N i)
def plF (N : Nat → Nat) : Option (Nat × Nat) := fr 0 64 (plS N) none
theorem vC_pl {n nL p q r i : Nat} {c : Ct} (h : vC n nL c) : vC n nL (plC c p q r i) := vC_u4 (vC_u4 (vC_u4 h (by decide) (by decide)) (by decide) (by decide)) (by decide) (by decide)
/-- after the first, something is found; how much is known -/
def plI (N : Nat → Nat) (e : Nat) (s : Option (Nat × Nat)) : Prop := (e = 0 ∧ s = none) ∨ ∃ b, b < 64 ∧ s = some (b, N b)
theorem plI_s {N : Nat → Nat} {i : Nat} {s : Option (Nat × Nat)} (hi : i < 64) (h : plI N i s) : plI N (i + 1) (plS N i s) := by
  rcases h with ⟨-, rfl⟩ | ⟨b, hb, rfl⟩
  · exact Or.inr ⟨i, hi, rfl⟩
  · refine Or.inr ?_
    unfold plS
    simp only
    split
    · exact ⟨b, hb, rfl⟩
    · exact ⟨i, hi, rfl⟩
theorem pl_some (N : Nat → Nat) : ∃ b, b < 64 ∧ plF N = some (b, N b) := by
  rcases fr_inv (plI N) (plS N) (Nat.zero_le 64) (Or.inl ⟨rfl, rfl⟩) (fun i s _ hi hs => plI_s hi hs) with ⟨h, -⟩ | h
  · cases h
  · exact h
theorem x_openPlaced {st : St} {c0 : Ct} {n nL w p q r i : Nat} {K : Int32 → St → Prop} (hz : zC (cv st 11)) (h0 : zn c0) (hv : vC n nL (cv st 11)) (hw : w < 2147483648) (hp : p < 6) (hq : q < 6) (hr : r < 6) (hi : i < 64) (h : ∀ c', zn c' → K (nI (plN n nL w p q r (cv st 11) i)) (sv st 99 c')) : w_X4_openPlaced (nI p) (nI q) (nI r) (nI w) (nI (twI i)) (sv st 99 c0) K := by
  obtain ⟨d1, d2, d3⟩ := tw_d i hi
  unfold w_X4_openPlaced
  rw [d1, d2, d3]
  refine m_become hz h0 (m_move hp (m_move hq (m_move hr ?_)))
  have eb : u2 (u2 (u2 (bec (cv st 11)) 3 p (nI (i / 16))) 3 q (nI (i / 4 % 4))) 3 r (nI (i % 4)) = bec (plC (cv st 11) p q r i) := by
    unfold plC
    rw [bec_u2 (by decide), bec_u2 (by decide), bec_u2 (by decide)]
  rw [eb]
  exact m_passWeeks hw (vC_pl hv) (h _ (zn_wkF hv.1 hv.2.1 (zn_town (zn_town (zn_town ⟨hz, nC_cv⟩ hp) hq) hr)))
def plX : Option (Nat × Nat) → Int32 × Int32
  | none => (0, -1)
  | some (b, m) => (nI (twI b), nI m)
def plM : Option (Nat × Nat) → Int32 × Int32
  | none => (-9, -9)
  | some (b, m) => (nI (twI b), nI m)
theorem pl_lt {n nL w p q r i : Nat} {c : Ct} (h : vC n nL c) : plN n nL w p q r c i < 7 := cn_lt (vC_pl h)
theorem x_bestPlaces {st : St} {c0 : Ct} {n nL w p q r : Nat} {K : Int32 → St → Prop} (hz : zC (cv st 11)) (h0 : zn c0) (hv : vC n nL (cv st 11)) (hw : w < 2147483648) (hp : p < 6) (hq : q < 6) (hr : r < 6) (h : ∀ b c', b < 64 → plF (plN n nL w p q r (cv st 11)) = some (b, plN n nL w p q r (cv st 11) b) → zn c' → K (nI (twI b)) (sv st 99 c')) : w_X4_bestPlaces (nI p) (nI q) (nI r) (nI w) (sv st 99 c0) K := by
  unfold w_X4_bestPlaces
  refine lo_frD (fun m i (s : Option (Nat × Nat)) c' => w_X4_bestPlaces_L9 (nI p) (nI q) (nI r) (nI w) K m (plX s).1 (plX s).2 (nI i) (sv st 99 c')) (plS (plN n nL w p q r (cv st 11))) (plI (plN n nL w p q r (cv st 11))) (fun _ c' => zn c') none c0 (Nat.zero_le 64) (Or.inl ⟨rfl, rfl⟩) (fun i s _ hi hs => plI_s hi hs) h0 (fun _ m d hd => ?_) (fun m i s d _ hi hs hd hk => ?_)
  · obtain ⟨b, hb, e⟩ := pl_some (plN n nL w p q r (cv st 11))
    rw [w_X4_bestPlaces_L9, w_X4_bestPlaces_L9q]
    refine y1 (nI_le (Nat.le_refl 64) (by decide)) ?_
    have e' : fr 0 64 (plS (plN n nL w p q r (cv st 11))) none = some (b, plN n nL w p q r (cv st 11) b) := e
    rw [e']
    exact h b d hb e hd
  · rw [w_X4_bestPlaces_L9, w_X4_bestPlaces_L9q, tw_x i hi]
    refine n1 (nI_ge hi (by decide)) (x_openPlaced hz hd hv hw hp hq hr hi fun c' zc => ?_)
    have l1 := pl_lt (w := w) (p := p) (q := q) (r := r) (i := i) hv
    rcases hs with ⟨-, rfl⟩ | ⟨b, hb, rfl⟩
    · have ng : ¬ nI (plN n nL w p q r (cv st 11) i) ≤ (plX none).2 := fun z => by
        have := Int32.lt_of_le_of_lt z (show (plX none).2 < 0 by decide)
        exact n_lt0 (by omega) this
      refine n1 ng ?_
      rw [w_X4_bestPlaces_b69, nI_inc]
      exact hk c' zc
    · have l2 := pl_lt (w := w) (p := p) (q := q) (r := r) (i := b) hv
      unfold plS at hk
      simp only at hk
      show (nI (plN n nL w p q r (cv st 11) i) ≤ nI (plN n nL w p q r (cv st 11) b) → _) ∧ _
      by_cases e2 : plN n nL w p q r (cv st 11) i ≤ plN n nL w p q r (cv st 11) b
      · rw [if_pos e2] at hk
        refine y1 (nI_le e2 (by omega)) ?_
        rw [w_X4_bestPlaces_b69, nI_inc]
        exact hk c' zc
      · rw [if_neg e2] at hk
        refine n1 (fun y => e2 ((nJ_le (by omega) (by omega)).mp y)) ?_
        rw [w_X4_bestPlaces_b69, nI_inc]
        exact hk c' zc
/-- the check's change of three towns, kept aside and put back -/
theorem t_places {n nL w p q r : Nat} {x : Int32} {mt : St} {c : Ct} {K : Int32 → St → Prop} (hw : w < 2147483648) (hm : RM n nL mt c) (h11 : mt 0 11 = 0) (hp : p < n) (hq : q < n) (hr : r < n) (hk : ∀ b s, b < 64 → plF (plN n nL w p q r c) = some (b, plN n nL w p q r c b) → tf mt s → K (if x = 0 then nI (twI b) else nI (plN n nL w p q r c b)) s) : w_X9_places_b57 (nI p) (nI q) (nI r) (nI w) x K 0 mt := by
  have hn := hm.1.1
  have hv := hm.1
  have clp : (nI p).toNatClampNeg = p := clI (show p < 6 by omega) (by decide)
  have clq : (nI q).toNatClampNeg = q := clI (show q < 6 by omega) (by decide)
  have clr : (nI r).toNatClampNeg = r := clI (show r < 6 by omega) (by decide)
  have vp : vp_in (nI p) 6 := vp_in_nI (by omega) (by decide)
  have vq : vp_in (nI q) 6 := vp_in_nI (by omega) (by decide)
  have vr : vp_in (nI r) 6 := vp_in_nI (by omega) (by decide)
  rw [w_X9_places_b57]
  refine y1 rfl ?_
  unfold w_X9_changes
  refine t_saves (w := 1) (by decide) fun m1 a1 a2 a3 => ?_
  have hm1 : RM n nL m1 c := RM_off hm (fun j h1 h2 => a1 j (by omega) (by omega)) (fun i h1 h2 => a2 i (by omega) (by omega))
  have h11' : m1 0 11 = 0 := (a2 11 (by decide) (by decide)).trans h11
  -- back to the start
  have fin : ∀ (x1 x2 x3 : Int32) (s : St) (b : Nat), hf (u2 (u2 (u2 m1 4 p x1) 4 q x2) 4 r x3) s → b < 64 → plF (plN n nL w p q r c) = some (b, plN n nL w p q r c b) → w_X9_places_b180 (nI p) (nI q) (nI r) (nI w) x K (nI (twI b)) (nI (plN n nL w p q r c b)) s := fun x1 x2 x3 s b hs hb e => by
    rw [w_X9_places_b180]
    unfold w_X9_changesBack
    refine t_puts (w := 1) (by decide) fun s' b1 b2 b3 => ?_
    have off : ∀ j, j ≠ 4 → u2 (u2 (u2 m1 4 p x1) 4 q x2) 4 r x3 j = m1 j := fun j hj => by rw [u2_off hj, u2_off hj, u2_off hj]
    have s0 : ∀ a, a ≠ 8 → a ≠ 9 → a ≠ 10 → a ≠ 21 → a ≠ 22 → a ≠ 25 → a ≠ 26 → s' 0 a = mt 0 a := fun a q1 q2 q3 q4 q5 q6 q7 => by
      rw [b3 a q1 q2 q3 q4 q5, hs.2.2.1 a q1 q2 q3 q4 q5 q6 q7, off 0 (by decide)]
      exact a2 a q4 q5
    have s1 : ∀ j, j ≠ 0 → (j < 2 ∨ 8 < j) → j ≠ 13 → j ≠ 14 → s' j = mt j := fun j q1 q2 q3 q4 => by
      rw [b2 j q1 q2, hs.2.1 j q1 q2 q3 q4, off j (by omega)]
      exact a1 j q1 q3
    have s13 : ∀ a, (a < 150 ∨ 225 ≤ a) → s' 13 a = m1 13 a := fun a ha => by
      rw [b2 13 (by decide) (by decide), hs.2.2.2 a ha, off 13 (by decide)]
    have ht : tf mt s' := by
      refine ⟨fun i hi => ?_, s0 11 (by decide) (by decide) (by decide) (by decide) (by decide) (by decide) (by decide), s1 1 (by decide) (by decide) (by decide) (by decide), s1 9 (by decide) (by decide) (by decide) (by decide), s1 16 (by decide) (by decide) (by decide) (by decide), s0 16 (by decide) (by decide) (by decide) (by decide) (by decide) (by decide) (by decide), s0 20 (by decide) (by decide) (by decide) (by decide) (by decide) (by decide) (by decide), s0 23 (by decide) (by decide) (by decide) (by decide) (by decide) (by decide) (by decide), s0 29 (by decide) (by decide) (by decide) (by decide) (by decide) (by decide) (by decide), fun a ha => ?_⟩
      · rw [b1 i hi, hs.2.2.2 _ (by omega), off 13 (by decide), a3, if_pos ⟨by omega, by omega⟩]
        congr 1; omega
      · rw [s13 a (by omega), a3, if_neg (by omega)]
    have := hk b s' hb e ht
    by_cases ex : x = 0
    · rw [if_pos ex] at this; exact y2 ex this
    · rw [if_neg ex] at this; exact n2 ex this
  refine lo_frD (fun m i (s : Option (Nat × Nat)) d => w_X9_places_L84 (nI p) (nI q) (nI r) (nI w) x K m (plM s).1 (plM s).2 (nI i) d) (plS (plN n nL w p q r c)) (plI (plN n nL w p q r c)) (fun _ d => ∃ x1 x2 x3, hf (u2 (u2 (u2 m1 4 p x1) 4 q x2) 4 r x3) d) none m1 (Nat.zero_le 64) (Or.inl ⟨rfl, rfl⟩) (fun i s _ hi hs => plI_s hi hs) ⟨m1 4 p, m1 4 q, m1 4 r, by rw [u2_id (show u2 (u2 m1 4 p (m1 4 p)) 4 q (m1 4 q) 4 r = m1 4 r by rw [u2_id rfl, u2_id rfl]), u2_id rfl, u2_id rfl]; exact hf_rf⟩ (fun _ m d hd => ?_) (fun m i s d _ hi hs hd hk2 => ?_)
  · obtain ⟨x1, x2, x3, hd⟩ := hd
    obtain ⟨b, hb, e⟩ := pl_some (plN n nL w p q r c)
    rw [w_X9_places_L84, w_X9_places_L84q]
    refine y1 (nI_le (Nat.le_refl 64) (by decide)) ?_
    have e' : fr 0 64 (plS (plN n nL w p q r c)) none = some (b, plN n nL w p q r c b) := e
    rw [e']
    exact fin x1 x2 x3 d b hd hb e
  · obtain ⟨x1, x2, x3, hd⟩ := hd
    obtain ⟨v1, v2, v3⟩ := tw_v i hi
    rw [w_X9_places_L84, w_X9_places_L84q, tw_m i hi, v1, v2, v3, clp, clq, clr]
    refine n1 (nI_ge hi (by decide)) ⟨vp, vq, vr, ?_⟩
    have h1 : hf (u2 (u2 (u2 m1 4 p (nI (i / 16))) 4 q (nI (i / 4 % 4))) 4 r (nI (i % 4))) (u2 (u2 (u2 d 4 p (nI (i / 16))) 4 q (nI (i / 4 % 4))) 4 r (nI (i % 4))) := by
      have q1 := hf_over (v := 0) (i := p) (nI (i / 16)) hd (show 2 ≤ 4 ∧ 4 ≤ 8 by decide)
      have q2 := hf_over (v := 0) (i := q) (nI (i / 4 % 4)) q1 (show 2 ≤ 4 ∧ 4 ≤ 8 by decide)
      have q3 := hf_over (v := 0) (i := r) (nI (i % 4)) q2 (show 2 ≤ 4 ∧ 4 ≤ 8 by decide)
      have e : u2 (u2 (u2 (u2 (u2 (u2 m1 4 p x1) 4 q x2) 4 r x3) 4 p (nI (i / 16))) 4 q (nI (i / 4 % 4))) 4 r (nI (i % 4)) = u2 (u2 (u2 m1 4 p (nI (i / 16))) 4 q (nI (i / 4 % 4))) 4 r (nI (i % 4)) := by
        funext a b
        simp only [u2_if]
        by_cases y1 : a = 4 ∧ b = r
        · simp only [if_pos y1]
        · by_cases y2 : a = 4 ∧ b = q
          · simp only [if_neg y1, if_pos y2]
          · by_cases y3 : a = 4 ∧ b = p
            · simp only [if_neg y1, if_neg y2, if_pos y3]
            · simp only [if_neg y1, if_neg y2, if_neg y3]
      rw [e] at q3
      exact q3
    have rm : RM n nL (u2 (u2 (u2 d 4 p (nI (i / 16))) 4 q (nI (i / 4 % 4))) 4 r (nI (i % 4))) (plC c p q r i) :=
      RM_hf (RM_town (RM_town (RM_town hm1 h11' (tn1 _ (by omega))) (by rw [u2_off (by decide)]; exact h11') (tn1 _ (by omega))) (by rw [u2_off (by decide), u2_off (by decide)]; exact h11') (tn1 _ (by omega))) h1
    refine t_many hw rm fun s1 hs1 => ?_
    show ((plM s).2 < nI (plN n nL w p q r c i) → _) ∧ _
    have D1 : ∃ x1 x2 x3, hf (u2 (u2 (u2 m1 4 p x1) 4 q x2) 4 r x3) s1 := ⟨_, _, _, h1.tr hs1⟩
    have l1 := pl_lt (w := w) (p := p) (q := q) (r := r) (i := i) hv
    rcases hs with ⟨-, rfl⟩ | ⟨b, hb, rfl⟩
    · have ng : (plM none).2 < nI (plN n nL w p q r c i) := Int32.lt_of_lt_of_le (show (plM none).2 < 0 by decide) (n_le0 (by omega))
      refine y1 ng ?_
      rw [w_X9_places_b174, nI_inc]
      exact hk2 s1 D1
    · have l2 := pl_lt (w := w) (p := p) (q := q) (r := r) (i := b) hv
      unfold plS at hk2
      simp only at hk2
      show (nI (plN n nL w p q r c b) < nI (plN n nL w p q r c i) → _) ∧ _
      by_cases e2 : plN n nL w p q r c i ≤ plN n nL w p q r c b
      · rw [if_pos e2] at hk2
        refine n1 (fun y => absurd ((nJ_lt (by omega) (by omega)).mp y) (by omega)) ?_
        rw [w_X9_places_b174, nI_inc]
        exact hk2 s1 D1
      · rw [if_neg e2] at hk2
        refine y1 ((nJ_lt (by omega) (by omega)).mpr (by omega)) ?_
        rw [w_X9_places_b174, nI_inc]
        exact hk2 s1 D1
theorem sim_places {st mt : St} (h : R st mt) (x1 x2 x3 x4 x5 : Int32) : w_X8_places x1 x2 x3 x4 x5 st (fun r st' => w_X9_places x1 x2 x3 x4 x5 mt (fun r' mt' => r = r' ∧ R st' mt')) := by
  obtain ⟨n, nL, hm, g, hn, hL, h7, h8, k8, k9⟩ := h.ctx
  -- the check refuses a nobody
  have nob : ∀ K : Int32 → St → Prop, (twF n x1 x2 = 0 ∨ twF n x1 x3 = 0 ∨ twF n x2 x3 = 0) → K (-1) (refS mt (-1)) → w_X9_places x1 x2 x3 x4 x5 mt K := fun K z hK => by
    have b27 : w_X9_places_b27 x1 x2 x3 x4 x5 K mt := by
      rw [w_X9_places_b27, w_X9_places_b36]
      refine n2 (by decide) ?_
      rw [w_X9_places_b57]
      exact n1 (by decide) (t_no rO1 hK)
    unfold w_X9_places
    refine t_areTwo k8 ⟨fun _ => b27, fun y1' => t_areTwo k8 ⟨fun _ => b27, fun y2' => t_areTwo k8 ⟨fun y3' => ?_, fun _ => b27⟩⟩⟩
    rcases z with z | z | z
    · exact absurd z y1'
    · exact absurd z y2'
    · exact absurd z y3'
  unfold w_X8_places
  refine s_twoRef h7 (s_twoRef h7 (s_twoRef h7 (s_firstOf (s_range (s_choice (s_firstOf ?_))))))
  by_cases e : twF n x1 x2 = 0 ∨ twF n x1 x3 = 0 ∨ twF n x2 x3 = 0
  · have ef : firstF (nbF (twF n x1 x2)) (nbF (twF n x1 x3)) (nbF (twF n x2 x3)) = -1 := by
      unfold firstF
      by_cases z1 : twF n x1 x2 = 0
      · rw [nb0 z1, if_neg (by decide)]
      · rw [nb1 z1, if_pos rfl]
        by_cases z2 : twF n x1 x3 = 0
        · rw [nb0 z2, if_neg (by decide)]
        · rw [nb1 z2, if_pos rfl]
          exact nb0 ((e.resolve_left z1).resolve_left z2)
    rw [ef, f1 (by decide)]
    exact n1 (by decide) (s_refused rO1 (nob _ e ⟨rfl, R_ref h rO1⟩))
  · have z1 : ¬ twF n x1 x2 = 0 := fun z => e (Or.inl z)
    have z2 : ¬ twF n x1 x3 = 0 := fun z => e (Or.inr (Or.inl z))
    have z3 : ¬ twF n x2 x3 = 0 := fun z => e (Or.inr (Or.inr z))
    rw [nb1 z1, nb1 z2, nb1 z3, f00]
    have chk : ∀ K : Int32 → St → Prop, w_X9_places_b36 x1 x2 x3 x4 x5 K (rangeF x4 0 60) mt → w_X9_places x1 x2 x3 x4 x5 mt K := fun K hK => by
      unfold w_X9_places
      exact t_areTwo k8 (n1 z1 (t_areTwo k8 (n1 z2 (t_areTwo k8 (n2 z3 (t_notWeeks hK))))))
    by_cases e2 : rangeF x4 0 60 = 0
    · rw [e2] at chk ⊢
      obtain ⟨w, -, hw, rfl⟩ := rg_nI (a := 0) (b := 60) (by decide) (by decide) e2
      by_cases e3 : inF x5 0 1 = 0
      · rw [ch_out e3, f00]
        refine n1 (by decide) (s_refused rO2 (chk _ ?_))
        rw [w_X9_places_b36]
        refine y2 rfl (t_isIn' (y2 e3 ?_))
        rw [w_X9_places_b57]
        exact n1 (by decide) (t_no rO2 ⟨rfl, R_ref h rO2⟩)
      · rw [ch_in e3, f00]
        obtain ⟨p, q, hp, hq, hpq, rfl, rfl⟩ := twF_1 (by omega) z1
        obtain ⟨p', r, hp', hr, -, e4, rfl⟩ := twF_1 (by omega) z2
        have chk2 : ∀ K : Int32 → St → Prop, (∀ b s, b < 64 → plF (plN n nL w p q r (cv st 11)) = some (b, plN n nL w p q r (cv st 11) b) → tf mt s → K (if x5 = 0 then nI (twI b) else nI (plN n nL w p q r (cv st 11) b)) s) → w_X9_places (nI p) (nI q) (nI r) (nI w) x5 mt K := fun K hK => by
          refine chk K ?_
          rw [w_X9_places_b36]
          exact y2 rfl (t_isIn' (n2 e3 (t_places (by omega) hm (out0 h) hp hq hr hK)))
        refine y1 rfl (mind0 (fun s => w_X4_bestPlaces (nI p) (nI q) (nI r) (nI w) s _) (fun c0 z0 => x_bestPlaces h.z11 z0 hm.1 (by omega) (by omega) (by omega) (by omega) fun b c' hb eb zc => ⟨fun y => x_openPlaced h.z11 zc hm.1 (by omega) (by omega) (by omega) (by omega) hb fun c2 zc2 => chk2 _ fun b' s' hb' eb' ht => ?_, fun y => chk2 _ fun b' s' hb' eb' ht => ?_⟩) h.z99)
        · rw [eb] at eb'
          cases eb'
          rw [if_neg y]
          exact ⟨rfl, R_mind h zc2 ht⟩
        · rw [eb] at eb'
          cases eb'
          rw [if_pos y]
          exact ⟨rfl, R_mind h zc ht⟩
    · have ef : ∀ v, firstF 0 (rangeF x4 0 60) v = rangeF x4 0 60 := fun v => f01 e2 v
      rw [ef]
      refine n1 e2 (s_refused (rg_ok e2) (chk _ ?_))
      rw [w_X9_places_b36]
      refine n2 e2 ?_
      rw [w_X9_places_b57]
      exact n1 e2 (t_no (rg_ok e2) ⟨rfl, R_ref h (rg_ok e2)⟩)
