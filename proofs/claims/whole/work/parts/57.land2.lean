/-! pure part: a land told in letters: statements read by the check -/
def toldK (sg : Nat → Int32) (k a p : Nat) (f : Nat → Int32) : Prop :=
  (k = 107 → f p = nI (dN (sg a)) ∧ f (p + 1) = nI (dN (sg (a + 1))) ∧ f (p + 2) = nI (dN (sg (a + 2)))) ∧
  (k = 104 → f p = nI (dN (sg a)) ∧ f (p + 1) = nI (dN (sg (a + 1))) ∧ f (p + 2) = nI (10 * dN (sg (a + 2)) + dN (sg (a + 3)))) ∧
  (k = 108 → f p = nI (10 * dN (sg a) + dN (sg (a + 1))) ∧ f (p + 1) = nI (dN (sg (a + 2)))) ∧
  (k = 103 → f p = nI (dN (sg a)) ∧ f (p + 1) = nI (dN (sg (a + 1)))) ∧
  (k = 115 → f p = nI (dN (sg a))) ∧
  (k = 119 → f p = nI (10 * dN (sg a) + dN (sg (a + 1))))
theorem nd_f {sg : Nat → Int32} {j : Nat} (h : isDg (sg j) = false) : ndP sg j = true := by unfold ndP; rw [h]; rfl
theorem nd_t {sg : Nat → Int32} {j : Nat} (h : isDg (sg j) = true) : ndP sg j = false := by unfold ndP; rw [h]; rfl
/-- the digits behind a kind, read: all, or up to the first that is none -/
theorem t_readsAll {t : St} {s a p k : Nat} {K : Int32 → St → Prop} (hs : s ≤ 96) (ha : a < 900) (hp : p + 3 ≤ 144) (hk : k = 103 ∨ k = 104 ∨ k = 107 ∨ k = 108 ∨ k = 115 ∨ k = 119) (e1 : t 0 16 = nI s) (e2 : t 0 17 = nI a)
    (h1 : fstG (ndP (sgF (t 9) s)) (dgN (nI k)) a = -9 → ∀ t', RF t t' p (a + dgN (nI k)) → toldK (sgF (t 9) s) k a p (t' 12) → K 1 t') (h0 : ∀ j, j < 1000 → fstG (ndP (sgF (t 9) s)) (dgN (nI k)) a = nI j → ∀ t', RF t t' p j → K 0 t') : w_X9_readsAll (nI k) (nI p) t K := by
  have g : ∀ (t' : St) (b : Nat), RF t t' p b → t' 0 16 = nI s ∧ t' 0 17 = nI b ∧ t' 9 = t 9 := fun t' b h => ⟨(h.2.1 16 (by decide)).trans e1, h.2.2.1, h.1 9 (by decide) (by decide)⟩
  have rf0 : RF t t p a := ⟨fun _ _ _ => rfl, fun _ _ => rfl, e2, fun _ _ => rfl⟩
  have s1 : ∀ d b, fstG (ndP (sgF (t 9) s)) (d + 1) b = if ndP (sgF (t 9) s) b then nI b else fstG (ndP (sgF (t 9) s)) d (b + 1) := fun d b => rfl
  unfold w_X9_readsAll
  rcases hk with rfl | rfl | rfl | rfl | rfl | rfl
  · -- g
    have ed : dgN (nI 103) = 2 := by decide
    rw [ed] at h1 h0
    refine y1 (by decide) (t_rd1 (p := p) hs (by omega) (by omega) (by omega) e1 e2 (fun d1 t1 r1 q1 o1 => n1 (by decide) ?_) (fun d1 => y1 rfl (h0 a (by omega) (by rw [s1, nd_f d1]; rfl) t rf0)))
    obtain ⟨f1, f2, f3⟩ := g t1 _ r1
    rw [nI_inc]
    refine t_rd1 (p := p) hs (by omega) (by omega) (by omega) f1 f2 (fun d2 t2 r2 q2 o2 => n1 (by decide) ?_) (fun d2 => ?_)
    · rw [f3] at d2 q2
      refine h1 (by rw [s1, nd_t d1, s1, nd_t d2]; rfl) t2 (r1.tr r2) ⟨fun z => absurd z (by decide), fun z => absurd z (by decide), fun z => absurd z (by decide), fun _ => ⟨by rw [o2 p (by omega)]; exact q1, q2⟩, fun z => absurd z (by decide), fun z => absurd z (by decide)⟩
    · rw [f3] at d2
      exact y1 rfl (h0 (a + 1) (by omega) (by rw [s1, nd_t d1, s1, nd_f d2]; rfl) t1 r1)
  · -- h
    have ed : dgN (nI 104) = 4 := by decide
    rw [ed] at h1 h0
    refine n1 (by decide) (y1 (by decide) (t_rd1 (p := p) hs (by omega) (by omega) (by omega) e1 e2 (fun d1 t1 r1 q1 o1 => n1 (by decide) ?_) (fun d1 => y1 rfl (h0 a (by omega) (by rw [s1, nd_f d1]; rfl) t rf0))))
    obtain ⟨f1, f2, f3⟩ := g t1 _ r1
    rw [nI_inc]
    refine t_rd1 (p := p) hs (by omega) (by omega) (by omega) f1 f2 (fun d2 t2 r2 q2 o2 => n1 (by decide) ?_) (fun d2 => ?_)
    · rw [f3] at d2 q2
      obtain ⟨f4, f5, f6⟩ := g t2 _ (r1.tr r2)
      have e3 : nI p + 2 = nI (p + 2) := nI_add p 2
      rw [e3]
      refine t_rd2 (p := p) hs (by omega) (by omega) (by omega) f4 f5 (fun d3 d4 t3 r3 q3 o3 => n1 (by decide) ?_) (fun d3 => ?_) (fun d3 d4 t3 r3 => ?_)
      · rw [f6] at d3 d4 q3
        refine h1 (by rw [s1, nd_t d1, s1, nd_t d2, s1, nd_t d3, s1, nd_t d4]; rfl) t3 ((r1.tr r2).tr r3) ⟨fun z => absurd z (by decide), fun _ => ⟨by rw [o3 p (by omega), o2 p (by omega)]; exact q1, by rw [o3 (p + 1) (by omega)]; exact q2, q3⟩, fun z => absurd z (by decide), fun z => absurd z (by decide), fun z => absurd z (by decide), fun z => absurd z (by decide)⟩
      · rw [f6] at d3
        exact y1 rfl (h0 (a + 1 + 1) (by omega) (by rw [s1, nd_t d1, s1, nd_t d2, s1, nd_f d3]; rfl) t2 (r1.tr r2))
      · rw [f6] at d3 d4
        exact y1 rfl (h0 (a + 1 + 1 + 1) (by omega) (by rw [s1, nd_t d1, s1, nd_t d2, s1, nd_t d3, s1, nd_f d4]; rfl) t3 ((r1.tr r2).tr r3))
    · rw [f3] at d2
      exact y1 rfl (h0 (a + 1) (by omega) (by rw [s1, nd_t d1, s1, nd_f d2]; rfl) t1 r1)
  · -- k
    have ed : dgN (nI 107) = 3 := by decide
    rw [ed] at h1 h0
    refine n1 (by decide) (n1 (by decide) (y1 (by decide) (t_rd1 (p := p) hs (by omega) (by omega) (by omega) e1 e2 (fun d1 t1 r1 q1 o1 => n1 (by decide) ?_) (fun d1 => y1 rfl (h0 a (by omega) (by rw [s1, nd_f d1]; rfl) t rf0)))))
    obtain ⟨f1, f2, f3⟩ := g t1 _ r1
    rw [nI_inc]
    refine t_rd1 (p := p) hs (by omega) (by omega) (by omega) f1 f2 (fun d2 t2 r2 q2 o2 => n1 (by decide) ?_) (fun d2 => ?_)
    · rw [f3] at d2 q2
      obtain ⟨f4, f5, f6⟩ := g t2 _ (r1.tr r2)
      have e3 : nI p + 2 = nI (p + 2) := nI_add p 2
      rw [e3]
      refine t_rd1 (p := p) hs (by omega) (by omega) (by omega) f4 f5 (fun d3 t3 r3 q3 o3 => n1 (by decide) ?_) (fun d3 => ?_)
      · rw [f6] at d3 q3
        refine h1 (by rw [s1, nd_t d1, s1, nd_t d2, s1, nd_t d3]; rfl) t3 ((r1.tr r2).tr r3) ⟨fun _ => ⟨by rw [o3 p (by omega), o2 p (by omega)]; exact q1, by rw [o3 (p + 1) (by omega)]; exact q2, q3⟩, fun z => absurd z (by decide), fun z => absurd z (by decide), fun z => absurd z (by decide), fun z => absurd z (by decide), fun z => absurd z (by decide)⟩
      · rw [f6] at d3
        exact y1 rfl (h0 (a + 1 + 1) (by omega) (by rw [s1, nd_t d1, s1, nd_t d2, s1, nd_f d3]; rfl) t2 (r1.tr r2))
    · rw [f3] at d2
      exact y1 rfl (h0 (a + 1) (by omega) (by rw [s1, nd_t d1, s1, nd_f d2]; rfl) t1 r1)
  · -- l
    have ed : dgN (nI 108) = 3 := by decide
    rw [ed] at h1 h0
    refine n1 (by decide) (n1 (by decide) (n1 (by decide) (y1 (by decide) (t_rd2 (p := p) hs (by omega) (by omega) (by omega) e1 e2 (fun d1 d2 t1 r1 q1 o1 => n1 (by decide) ?_) (fun d1 => y1 rfl (h0 a (by omega) (by rw [s1, nd_f d1]; rfl) t rf0)) (fun d1 d2 t1 r1 => y1 rfl (h0 (a + 1) (by omega) (by rw [s1, nd_t d1, s1, nd_f d2]; rfl) t1 r1))))))
    obtain ⟨f1, f2, f3⟩ := g t1 _ r1
    rw [nI_inc]
    refine t_rd1 (p := p) hs (by omega) (by omega) (by omega) f1 f2 (fun d3 t2 r2 q2 o2 => n1 (by decide) ?_) (fun d3 => ?_)
    · rw [f3] at d3 q2
      refine h1 (by rw [s1, nd_t d1, s1, nd_t d2, s1, nd_t d3]; rfl) t2 (r1.tr r2) ⟨fun z => absurd z (by decide), fun z => absurd z (by decide), fun _ => ⟨by rw [o2 p (by omega)]; exact q1, q2⟩, fun z => absurd z (by decide), fun z => absurd z (by decide), fun z => absurd z (by decide)⟩
    · rw [f3] at d3
      exact y1 rfl (h0 (a + 2) (by omega) (by rw [s1, nd_t d1, s1, nd_t d2, s1, nd_f d3]; rfl) t1 r1)
  · -- s
    have ed : dgN (nI 115) = 1 := by decide
    rw [ed] at h1 h0
    refine n1 (by decide) (n1 (by decide) (n1 (by decide) (n1 (by decide) (y1 (by decide) (t_rd1 (p := p) hs (by omega) (by omega) (by omega) e1 e2 (fun d1 t1 r1 q1 o1 => ⟨Or.inr rfl, ?_⟩) (fun d1 => ⟨Or.inl rfl, h0 a (by omega) (by rw [s1, nd_f d1]; rfl) t rf0⟩))))))
    exact h1 (by rw [s1, nd_t d1]; rfl) t1 r1 ⟨fun z => absurd z (by decide), fun z => absurd z (by decide), fun z => absurd z (by decide), fun z => absurd z (by decide), fun _ => q1, fun z => absurd z (by decide)⟩
  · -- w
    have ed : dgN (nI 119) = 2 := by decide
    rw [ed] at h1 h0
    refine n1 (by decide) (n1 (by decide) (n1 (by decide) (n1 (by decide) (n1 (by decide) (t_rd2 (p := p) hs (by omega) (by omega) (by omega) e1 e2 (fun d1 d2 t1 r1 q1 o1 => ⟨Or.inr rfl, ?_⟩) (fun d1 => ⟨Or.inl rfl, h0 a (by omega) (by rw [s1, nd_f d1]; rfl) t rf0⟩) (fun d1 d2 t1 r1 => ⟨Or.inl rfl, h0 (a + 1) (by omega) (by rw [s1, nd_t d1, s1, nd_f d2]; rfl) t1 r1⟩))))))
    exact h1 (by rw [s1, nd_t d1, s1, nd_t d2]; rfl) t1 r1 ⟨fun z => absurd z (by decide), fun z => absurd z (by decide), fun z => absurd z (by decide), fun z => absurd z (by decide), fun z => absurd z (by decide), fun _ => q1⟩
theorem kd_of {x : Int32} (h : ¬ dgN x = 0) : ∃ k, (k = 103 ∨ k = 104 ∨ k = 107 ∨ k = 108 ∨ k = 115 ∨ k = 119) ∧ x = nI k := by
  unfold dgN at h
  by_cases z0 : x = 103
  · exact ⟨103, by decide, z0⟩
  rw [if_neg z0] at h
  by_cases z1 : x = 104
  · exact ⟨104, by decide, z1⟩
  rw [if_neg z1] at h
  by_cases z2 : x = 107
  · exact ⟨107, by decide, z2⟩
  rw [if_neg z2] at h
  by_cases z3 : x = 108
  · exact ⟨108, by decide, z3⟩
  rw [if_neg z3] at h
  by_cases z4 : x = 115
  · exact ⟨115, by decide, z4⟩
  rw [if_neg z4] at h
  by_cases z5 : x = 119
  · exact ⟨119, by decide, z5⟩
  rw [if_neg z5] at h
  exact absurd rfl h
/-- what stands read of statement j -/
def DT (sg : Nat → Int32) (t : St) (j : Nat) : Prop := t 10 j = sg (PL sg j) ∧ t 11 j = nI (PL sg j) ∧ ∀ k, sg (PL sg j) = nI k → k < 200 → toldK sg k (PL sg j + 1) (3 * j) (t 12)
/-- i statements are read -/
def TS (mt t : St) (s i : Nat) (sg : Nat → Int32) : Prop := (∀ j, j ≠ 0 → j ≠ 10 → j ≠ 11 → j ≠ 12 → t j = mt j) ∧ (∀ x, x ≠ 17 → x ≠ 18 → t 0 x = mt 0 x) ∧ t 0 18 = nI i ∧ ∀ j, j < i → DT sg t j
theorem told_cg {sg : Nat → Int32} {k a p : Nat} {f g : Nat → Int32} (h : toldK sg k a p f) (e : ∀ x, p ≤ x → x < p + 3 → g x = f x) : toldK sg k a p g := by
  obtain ⟨h1, h2, h3, h4, h5, h6⟩ := h
  have e0 := e p (by omega) (by omega)
  have e1 := e (p + 1) (by omega) (by omega)
  have e2 := e (p + 2) (by omega) (by omega)
  exact ⟨fun z => by rw [e0, e1, e2]; exact h1 z, fun z => by rw [e0, e1, e2]; exact h2 z, fun z => by rw [e0, e1]; exact h3 z, fun z => by rw [e0, e1]; exact h4 z, fun z => by rw [e0]; exact h5 z, fun z => by rw [e0]; exact h6 z⟩
theorem DT_cg {sg : Nat → Int32} {t t' : St} {j : Nat} (h : DT sg t j) (e10 : t' 10 j = t 10 j) (e11 : t' 11 j = t 11 j) (e12 : ∀ x, 3 * j ≤ x → x < 3 * j + 3 → t' 12 x = t 12 x) : DT sg t' j :=
  ⟨e10.trans h.1, e11.trans h.2.1, fun k hk hk2 => told_cg (h.2.2 k hk hk2) e12⟩
theorem t_statement {mt t : St} {s i : Nat} {K : Int32 → St → Prop} (hs : s ≤ 96) (hi : i < 48) (e16 : mt 0 16 = nI s) (hT : TS mt t s i (sgF (mt 9) s)) (e17 : t 0 17 = nI (PL (sgF (mt 9) s) i))
    (h1 : bpV (sgF (mt 9) s) (PL (sgF (mt 9) s) i) = -9 → ∀ t', t' 0 17 = nI (PL (sgF (mt 9) s) (i + 1)) → t' 0 18 = nI i → (∀ t'', (∀ j, j ≠ 0 → t'' j = t' j) → (∀ x, x ≠ 18 → t'' 0 x = t' 0 x) → t'' 0 18 = nI (i + 1) → TS mt t'' s (i + 1) (sgF (mt 9) s)) → K 1 t')
    (h0 : ¬ bpV (sgF (mt 9) s) (PL (sgF (mt 9) s) i) = -9 → ∀ t', t' 0 17 = bpV (sgF (mt 9) s) (PL (sgF (mt 9) s) i) → (∀ j, j ≠ 0 → j ≠ 10 → j ≠ 11 → j ≠ 12 → t' j = mt j) → (∀ x, x ≠ 17 → x ≠ 18 → t' 0 x = mt 0 x) → K 0 t') : w_X9_statement t K := by
  obtain ⟨T1, T2, T3, T4⟩ := hT
  have pl := PL_le (sgF (mt 9) s) i
  have g16 : t 0 16 = nI s := (T2 16 (by decide) (by decide)).trans e16
  have g9 : t 9 = mt 9 := T1 9 (by decide) (by decide) (by decide) (by decide)
  unfold w_X9_statement
  refine t_next hs (by omega) g16 e17 ?_
  rw [g9]
  by_cases ed : dgN (sgF (mt 9) s (PL (sgF (mt 9) s) i)) = 0
  · -- no kind
    have eb : bpV (sgF (mt 9) s) (PL (sgF (mt 9) s) i) = nI (PL (sgF (mt 9) s) i) := if_pos ed
    have nk : ∀ k, (k = 103 ∨ k = 104 ∨ k = 107 ∨ k = 108 ∨ k = 115 ∨ k = 119) → ¬ sgF (mt 9) s (PL (sgF (mt 9) s) i) = nI k := fun k hk z => by
      rw [z] at ed
      rcases hk with rfl | rfl | rfl | rfl | rfl | rfl <;> exact absurd ed (by decide)
    exact n1 (nk 107 (by decide)) (n1 (nk 104 (by decide)) (n1 (nk 108 (by decide)) (n1 (nk 103 (by decide)) (n1 (nk 115 (by decide)) (n1 (nk 119 (by decide)) (h0 (by rw [eb]; exact ne9 (by omega)) t (by rw [eb]; exact e17) T1 T2))))))
  · obtain ⟨k, hk, ek⟩ := kd_of ed
    have b43 : w_X9_statement_b43 K (nI k) t := by
      rw [w_X9_statement_b43, T3, clI (show i < 48 by omega) (by decide)]
      have a1 : u2 t 10 i (nI k) 0 18 = nI i := by rw [u2_off (by decide)]; exact T3
      have a2 : u2 t 10 i (nI k) 0 17 = nI (PL (sgF (mt 9) s) i) := by rw [u2_off (by decide)]; exact e17
      rw [a1, a2, clI (show i < 48 by omega) (by decide)]
      have a3 : u2 (u2 t 10 i (nI k)) 11 i (nI (PL (sgF (mt 9) s) i)) 0 17 = nI (PL (sgF (mt 9) s) i) := by rw [u2_off (by decide)]; exact a2
      rw [a3, nI_inc]
      have a4 : u2 (u2 (u2 t 10 i (nI k)) 11 i (nI (PL (sgF (mt 9) s) i))) 0 17 (nI (PL (sgF (mt 9) s) i + 1)) 0 18 = nI i := by rw [u2_0 (by decide), u2_off (by decide)]; exact a1
      have e3 : (3 : Int32) * nI i = nI (3 * i) := nI_mul 3 i
      rw [a4, e3]
      refine ⟨vp_in_nI (by omega) (by decide), vp_in_nI (by omega) (by decide), ?_⟩
      -- the state in which the digits are read
      obtain ⟨u, hu⟩ : ∃ u, u = u2 (u2 (u2 t 10 i (nI k)) 11 i (nI (PL (sgF (mt 9) s) i))) 0 17 (nI (PL (sgF (mt 9) s) i + 1)) := ⟨_, rfl⟩
      rw [← hu]
      have uj : ∀ j, j ≠ 0 → j ≠ 10 → j ≠ 11 → u j = t j := fun j x y z => by rw [hu, u2_off x, u2_off z, u2_off y]
      have u0 : ∀ x, x ≠ 17 → u 0 x = t 0 x := fun x y => by rw [hu, u2_0 y, u2_off (by decide), u2_off (by decide)]
      have u17 : u 0 17 = nI (PL (sgF (mt 9) s) i + 1) := by rw [hu, u2_same]
      have u10 : ∀ x, u 10 x = if x = i then nI k else t 10 x := fun x => by
        rw [hu, u2_off (by decide), u2_off (by decide), u2_if]
        simp only [true_and]
      have u11 : ∀ x, u 11 x = if x = i then nI (PL (sgF (mt 9) s) i) else t 11 x := fun x => by
        rw [hu, u2_off (by decide), u2_if, u2_off (by decide)]
        simp only [true_and]
      have u9 : u 9 = mt 9 := (uj 9 (by decide) (by decide) (by decide)).trans g9
      have u16 : u 0 16 = nI s := (u0 16 (by decide)).trans g16
      have hd := dgN_le (sgF (mt 9) s (PL (sgF (mt 9) s) i))
      have rfj : ∀ (t' : St) (b : Nat), RF u t' (3 * i) b → (∀ j, j ≠ 0 → j ≠ 10 → j ≠ 11 → j ≠ 12 → t' j = mt j) ∧ (∀ x, x ≠ 17 → x ≠ 18 → t' 0 x = mt 0 x) := fun t' b hr => ⟨fun j x y z w => (hr.1 j x w).trans ((uj j x y z).trans (T1 j x y z w)), fun x y z => (hr.2.1 x y).trans ((u0 x y).trans (T2 x y z))⟩
      refine t_readsAll (a := PL (sgF (mt 9) s) i + 1) hs (by omega) (by omega) hk u16 u17 (fun hf t' hr ht => ?_) (fun j jb hj t' hr => ?_)
      · rw [u9] at hf ht
        obtain ⟨v1, v2⟩ := rfj t' _ hr
        have w16 : t' 0 16 = nI s := (v2 16 (by decide) (by decide)).trans e16
        have w9 : t' 9 = mt 9 := v1 9 (by decide) (by decide) (by decide) (by decide)
        have w17 : t' 0 17 = nI (PL (sgF (mt 9) s) i + 1 + dgN (nI k)) := hr.2.2.1
        rw [ek] at hd
        refine n1 (by decide) (t_next hs (by omega) w16 w17 ?_)
        rw [w9]
        have ea : PL (sgF (mt 9) s) i + 1 + dgN (nI k) = PL (sgF (mt 9) s) i + dgN (nI k) + 1 := by omega
        rw [ea]
        have bp : bpV (sgF (mt 9) s) (PL (sgF (mt 9) s) i) = if sgF (mt 9) s (PL (sgF (mt 9) s) i + dgN (nI k) + 1) = 59 then -9 else nI (PL (sgF (mt 9) s) i + dgN (nI k) + 1) := by
          unfold bpV
          rw [if_neg ed, ek, if_pos hf]
        by_cases z : sgF (mt 9) s (PL (sgF (mt 9) s) i + dgN (nI k) + 1) = 59
        · rw [if_pos z] at bp
          refine y1 z (h1 bp _ ?_ ?_ (fun t'' c1 c2 c3 => ⟨fun j x y z w => ?_, fun x y z => ?_, c3, fun j hj => ?_⟩))
          · rw [u2_same, w17, nI_inc, PL, ek]
            congr 1; omega
          · rw [u2_0 (by decide), hr.2.1 18 (by decide), u0 18 (by decide)]; exact T3
          · rw [c1 j x, u2_off x]; exact v1 j x y z w
          · rw [c2 x z, u2_0 y]; exact v2 x y z
          · have q : ∀ j, j ≠ 0 → t'' j = t' j := fun j x => by rw [c1 j x, u2_off x]
            have q10 : t'' 10 = u 10 := (q 10 (by decide)).trans (hr.1 10 (by decide) (by decide))
            have q11 : t'' 11 = u 11 := (q 11 (by decide)).trans (hr.1 11 (by decide) (by decide))
            have q12 : t'' 12 = t' 12 := q 12 (by decide)
            by_cases ej : j = i
            · subst ej
              refine ⟨by rw [q10, u10, if_pos rfl]; exact ek.symm, by rw [q11, u11, if_pos rfl], fun k' hk' hk2 => ?_⟩
              have : k = k' := nI_eqI (by rcases hk with h | h | h | h | h | h <;> omega) (by omega) (ek.symm.trans hk')
              subst this
              rw [q12]
              exact ht
            · refine DT_cg (T4 j (by omega)) (by rw [q10, u10, if_neg ej]) (by rw [q11, u11, if_neg ej]) fun x x1 x2 => ?_
              rw [q12, hr.2.2.2 x (by omega), uj 12 (by decide) (by decide) (by decide)]
        · rw [if_neg z] at bp
          exact n1 z (h0 (by rw [bp]; exact ne9 (by omega)) t' (by rw [bp, w17, ea]) v1 v2)
      · rw [u9] at hj
        obtain ⟨v1, v2⟩ := rfj t' _ hr
        have bp : bpV (sgF (mt 9) s) (PL (sgF (mt 9) s) i) = nI j := by
          unfold bpV
          rw [if_neg ed, ek, if_neg (by rw [hj]; exact ne9 (by omega)), hj]
        exact y1 rfl (h0 (by rw [bp]; exact ne9 (by omega)) t' (by rw [bp]; exact hr.2.2.1) v1 v2)
    rw [ek]
    rcases hk with rfl | rfl | rfl | rfl | rfl | rfl
    · exact n1 (by decide) (n1 (by decide) (n1 (by decide) (y1 (by decide) b43)))
    · exact n1 (by decide) (y1 (by decide) b43)
    · exact y1 (by decide) b43
    · exact n1 (by decide) (n1 (by decide) (y1 (by decide) b43))
    · exact n1 (by decide) (n1 (by decide) (n1 (by decide) (n1 (by decide) (y1 (by decide) b43))))
    · exact n1 (by decide) (n1 (by decide) (n1 (by decide) (n1 (by decide) (n1 (by decide) (y1 (by decide) b43)))))
