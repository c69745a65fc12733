/-! pure part: a land told in letters, alike -/
theorem CF.tr {a b c : St} (h : CF a b) (h' : CF b c) : CF a c := ⟨fun j x y z => (h'.1 j x y z).trans (h.1 j x y z), fun i x y z w => (h'.2 i x y z w).trans (h.2 i x y z w)⟩
/-- what the check's land leaves -/
def LF (mt t : St) : Prop := t 0 11 = mt 0 11 ∧ t 1 = mt 1 ∧ t 9 = mt 9 ∧ t 16 = mt 16 ∧ t 0 16 = 0 ∧ t 0 20 = mt 0 20 ∧ t 0 23 = mt 0 23 ∧ t 0 29 = mt 0 29 ∧ ∀ a, (a < 75 ∨ 225 ≤ a) → t 13 a = mt 13 a
theorem t_landB {mt : St} {s N : Nat} {K : Int32 → St → Prop} (hs : s ≤ 96) (e16 : mt 0 16 = nI s) (hN : N ≤ 48) (h1 : 0 < N) (p2 : ∀ i, i < N → stP (sgF (mt 9) s) s i = false) (hB : s ≤ PL (sgF (mt 9) s) N)
    (hk : ∀ t, TS mt t s N (sgF (mt 9) s) → w_X9_passesAll 1 1 (u2 t 0 16 0) (fun st81 => ∃ n, w_X9_land_L86 K n 0 st81)) : w_X9_land mt K := by
  unfold w_X9_land
  refine lo_rel (fun m i (t : St) => w_X9_land_L12 K m 1 t) (fun i t => TS mt t s i (sgF (mt 9) s) ∧ t 0 17 = nI (PL (sgF (mt 9) s) i)) (u2 (u2 mt 0 17 0) 0 18 0) (Nat.zero_le N) ⟨TS_0, by rw [u2_0 (by decide), u2_same]; rfl⟩ (fun t hI m => ?_) (fun m i t _ hi hI hw => ?_)
  · obtain ⟨i1, i2⟩ := hI
    have pl := PL_le (sgF (mt 9) s) N
    have t16 : t 0 16 = nI s := (i1.2.1 16 (by decide) (by decide)).trans e16
    rw [w_X9_land_L12, w_X9_land_L12q, t16, i2, i1.2.2.1]
    have nl : ¬ PL (sgF (mt 9) s) N < s := by omega
    have nz : ¬ nI N = 0 := fun z => absurd ((nI_inj0 (b := N) (by omega)).mp z) (by omega)
    refine n1 (by decide) (n1 (fun y => nl ((nJ_lt (by omega) (by omega)).mp y)) (n2 nz ?_))
    rw [w_X9_land_b60]
    exact n2 (by decide) (hk t i1)
  · obtain ⟨i1, i2⟩ := hI
    obtain ⟨g1, g2⟩ := st_go (p2 i hi)
    have t16 : t 0 16 = nI s := (i1.2.1 16 (by decide) (by decide)).trans e16
    rw [w_X9_land_L12, w_X9_land_L12q, t16, i2, i1.2.2.1]
    refine n1 (by decide) (y1 ((nJ_lt (by omega) (by omega)).mpr g1) ?_)
    rw [w_X9_land_b34]
    refine t_statement hs (by omega) e16 i1 i2 (fun _ t' q1 q2 q3 => n1 (by decide) ?_) (fun z _ _ _ _ => absurd g2 z)
    rw [w_X9_land_b53, q2, nI_inc]
    exact hw _ ⟨q3 _ (fun j x => u2_off x) (fun x y => u2_0 y) u2_same, by rw [u2_0 (by decide)]; exact q1⟩
theorem t_landC {mt t : St} {s N : Nat} {sg : Nat → Int32} {x0 : SC} {K : Int32 → St → Prop} (hs : s ≤ 96) (hN : N ≤ 48) (hT : TS mt t s N sg) (p2 : ∀ i, i < N → stP sg s i = false) (hx : gX x0) (hm : RM x0.1 x0.2.1 mt x0.2.2) (h0 : mt 0 11 = 0)
    (hOk : (∀ j, j < N → P2 sg x0 j = false) → ∀ t', RM (Xq sg x0 N).1 (Xq sg x0 N).2.1 t' (Xq sg x0 N).2.2 → LF mt t' → K (nI N) (u2 t' 0 23 0))
    (hF : ∀ i, i < N → (∀ j, j < i → P2 sg x0 j = false) → P2 sg x0 i = true → ∀ t', (∀ i, i < 75 → lvM t' i = lvM mt i) → LF mt t' → K (-2000 - nI (PL sg i)) t') :
    w_X9_passesAll 1 1 (u2 t 0 16 0) (fun st81 => ∃ n, w_X9_land_L86 K n 0 st81) := by
  obtain ⟨T1, T2, T3, T4⟩ := hT
  refine t_saves (w := 1) (by decide) fun u v1 v2 v3 => ?_
  have uj : ∀ j, j ≠ 0 → j ≠ 13 → u j = t j := fun j x y => by rw [v1 j x y, u2_off x]
  have um : ∀ j, j ≠ 0 → j ≠ 13 → j ≠ 10 → j ≠ 11 → j ≠ 12 → u j = mt j := fun j x y z w q => (uj j x y).trans (T1 j x z w q)
  have u0 : ∀ a, a ≠ 16 → a ≠ 17 → a ≠ 18 → a ≠ 21 → a ≠ 22 → u 0 a = mt 0 a := fun a x y z w q => by rw [v2 a w q, u2_0 x, T2 a y z]
  have u16 : u 0 16 = 0 := by rw [v2 16 (by decide) (by decide), u2_same]
  have u18 : u 0 18 = nI N := by rw [v2 18 (by decide) (by decide), u2_0 (by decide)]; exact T3
  have lt : ∀ i, i < 75 → lvM (u2 t 0 16 0) i = lvM mt i := fun i _ => by
    have q : ∀ j, j ≠ 0 → j ≠ 10 → j ≠ 11 → j ≠ 12 → u2 t 0 16 0 j = mt j := fun j x y z w => by rw [u2_off x]; exact T1 j x y z w
    have q0 : ∀ a, a ≠ 16 → a ≠ 17 → a ≠ 18 → u2 t 0 16 0 0 a = mt 0 a := fun a x y z => by rw [u2_0 x]; exact T2 a y z
    unfold lvM
    rw [q 2 (by decide) (by decide) (by decide) (by decide), q 3 (by decide) (by decide) (by decide) (by decide), q 4 (by decide) (by decide) (by decide) (by decide), q 5 (by decide) (by decide) (by decide) (by decide), q 6 (by decide) (by decide) (by decide) (by decide), q 7 (by decide) (by decide) (by decide) (by decide), q 8 (by decide) (by decide) (by decide) (by decide), q0 8 (by decide) (by decide) (by decide), q0 9 (by decide) (by decide) (by decide), q0 10 (by decide) (by decide) (by decide)]
  have lu : ∀ i, i < 75 → lvM u i = lvM mt i := fun i _ => by
    unfold lvM
    rw [um 2 (by decide) (by decide) (by decide) (by decide) (by decide), um 3 (by decide) (by decide) (by decide) (by decide) (by decide), um 4 (by decide) (by decide) (by decide) (by decide) (by decide), um 5 (by decide) (by decide) (by decide) (by decide) (by decide), um 6 (by decide) (by decide) (by decide) (by decide) (by decide), um 7 (by decide) (by decide) (by decide) (by decide) (by decide), um 8 (by decide) (by decide) (by decide) (by decide) (by decide), u0 8 (by decide) (by decide) (by decide) (by decide) (by decide), u0 9 (by decide) (by decide) (by decide) (by decide) (by decide), u0 10 (by decide) (by decide) (by decide) (by decide) (by decide)]
  have u11 : u 0 11 = mt 0 11 := u0 11 (by decide) (by decide) (by decide) (by decide) (by decide)
  have lf : ∀ t', CF u t' → LF mt t' := fun t' hc => by
    refine ⟨by rw [hc.2 11 (by decide) (by decide) (by decide) (by decide)]; exact u11, by rw [hc.1 1 (by decide) (by decide) (by decide)]; exact um 1 (by decide) (by decide) (by decide) (by decide) (by decide), by rw [hc.1 9 (by decide) (by decide) (by decide)]; exact um 9 (by decide) (by decide) (by decide) (by decide) (by decide), by rw [hc.1 16 (by decide) (by decide) (by decide)]; exact um 16 (by decide) (by decide) (by decide) (by decide) (by decide),
      by rw [hc.2 16 (by decide) (by decide) (by decide) (by decide)]; exact u16, by rw [hc.2 20 (by decide) (by decide) (by decide) (by decide)]; exact u0 20 (by decide) (by decide) (by decide) (by decide) (by decide), by rw [hc.2 23 (by decide) (by decide) (by decide) (by decide)]; exact u0 23 (by decide) (by decide) (by decide) (by decide) (by decide), by rw [hc.2 29 (by decide) (by decide) (by decide) (by decide)]; exact u0 29 (by decide) (by decide) (by decide) (by decide) (by decide), fun a ha => ?_⟩
    rw [hc.1 13 (by decide) (by decide) (by decide), v3, if_neg (by omega), u2_off (by decide), T1 13 (by decide) (by decide) (by decide) (by decide)]
  refine lo_rel (fun m i (t' : St) => w_X9_land_L86 K m (nI i) t') (fun i t' => CF u t' ∧ RM (Xq sg x0 i).1 (Xq sg x0 i).2.1 t' (Xq sg x0 i).2.2 ∧ ∀ j, j < i → P2 sg x0 j = false) u (Nat.zero_le N) ⟨⟨fun _ _ _ _ => rfl, fun _ _ _ _ _ => rfl⟩, RM_lv hm lu u11, fun j hj => absurd hj (Nat.not_lt_zero j)⟩ (fun t' hI m => ?_) (fun m i t' _ hi hI hw => ?_)
  · obtain ⟨i1, i2, i3⟩ := hI
    have t18 : t' 0 18 = nI N := (i1.2 18 (by decide) (by decide) (by decide) (by decide)).trans u18
    rw [w_X9_land_L86, w_X9_land_L86q, t18]
    refine y1 (nI_le (Nat.le_refl N) (by omega)) ?_
    rw [w_X9_land_b128, u2_0 (by decide), t18]
    exact hOk i3 t' i2 (lf t' i1)
  · obtain ⟨i1, i2, i3⟩ := hI
    have t18 : t' 0 18 = nI N := (i1.2 18 (by decide) (by decide) (by decide) (by decide)).trans u18
    have t11 : t' 0 11 = 0 := ((i1.2 11 (by decide) (by decide) (by decide) (by decide)).trans u11).trans h0
    obtain ⟨k1, k2, k3, k4⟩ := st_good hs (p2 i hi)
    have gi := gX_all hs hx i fun j hj => ⟨p2 j (by omega), i3 j hj⟩
    have dt := T4 i hi
    have tj : ∀ j, j = 10 ∨ j = 11 ∨ j = 12 → t' j = t j := fun j hj => by
      rw [i1.1 j (by omega) (by omega) (by omega), uj j (by omega) (by omega)]
    rw [w_X9_land_L86, w_X9_land_L86q, t18]
    refine n1 (nI_ge hi (by omega)) (t_comes (sg := sg) (k := kdN sg (PL sg i)) (a := PL sg i) (x := Xq sg x0 i) (by omega) i2 gi.2.2.1 t11 k1 ?_ ?_ k3 (fun ok t'' rm cf => n1 (by decide) ?_) (fun ok => y1 rfl ?_))
    · rw [tj 10 (by decide), dt.1]; exact k2
    · rw [tj 12 (by decide)]
      exact dt.2.2 _ k2 (by rcases k1 with h | h | h | h | h | h <;> omega)
    · rw [nI_inc]
      refine hw _ ⟨i1.tr cf, rm, fun j hj => ?_⟩
      by_cases ej : j = i
      · subst ej
        unfold P2
        rw [ok]; rfl
      · exact i3 j (by omega)
    · rw [w_X9_land_b105]
      refine t_puts (w := 1) (by decide) fun s' w1 w2 w3 => ⟨vp_in_nI (by omega) (by decide), ?_⟩
      have e11 : s' 11 (nI i).toNatClampNeg = nI (PL sg i) := by
        rw [clI (show i < 48 by omega) (by decide), w2 11 (by decide) (by decide), tj 11 (by decide)]
        exact dt.2.1
      rw [e11]
      have l1 := lf t' i1
      refine hF i hi i3 (by unfold P2; rw [ok]; rfl) s' (fun a ha => ?_) ?_
      · rw [w1 a ha, i1.1 13 (by decide) (by decide) (by decide), v3, if_pos (by omega), lt _ (by omega)]
        congr 1; omega
      · obtain ⟨a1, a2, a3, a4, a5, a6, a7, a8, a9⟩ := l1
        exact ⟨by rw [w3 11 (by decide) (by decide) (by decide) (by decide) (by decide)]; exact a1, by rw [w2 1 (by decide) (by decide)]; exact a2, by rw [w2 9 (by decide) (by decide)]; exact a3, by rw [w2 16 (by decide) (by decide)]; exact a4, by rw [w3 16 (by decide) (by decide) (by decide) (by decide) (by decide)]; exact a5,
          by rw [w3 20 (by decide) (by decide) (by decide) (by decide) (by decide)]; exact a6, by rw [w3 23 (by decide) (by decide) (by decide) (by decide) (by decide)]; exact a7, by rw [w3 29 (by decide) (by decide) (by decide) (by decide) (by decide)]; exact a8, fun a ha => by rw [w2 13 (by decide) (by decide)]; exact a9 a ha⟩
theorem R_land {st mt st' mt' : St} (h : R st mt) (hn : Rnow st' mt') (z11 : zC (cv st' 11)) (z19 : zC (cv st' 19)) (hst : ∀ j, (j < 11 ∨ 27 ≤ j) → j ≠ 4 → st' j = st j) (e1 : st' 4 1 = 0) (lf : LF mt mt') : R st' mt' := by
  obtain ⟨h1, h2, h3, h4, h5, h6, h7, h8⟩ := h
  obtain ⟨a1, a2, a3, a4, a5, a6, a7, a8, a9⟩ := lf
  have oc : ∀ k, 27 ≤ k → cv st' k = cv st k := fun k hk => cv_eq fun j _ _ => hst j (by omega) (by omega)
  refine ⟨hn, fun k hk => ?_, by rw [hst 9 (by decide) (by decide)]; exact h3, h4.tr (hst 1 (by decide) (by decide)) a2, ⟨0, by decide, e1, a5, fun i hi => absurd hi (Nat.not_lt_zero i)⟩, h6.tr (hst 6 (by decide) (by decide)) (hst 7 (by decide) (by decide)) a8 a4,
    h7.tr (by rw [hst 0 (by decide) (by decide)]) (oc 27 (by decide)) a6 (fun a ha => a9 a (Or.inl ha)), h8.tr (hst 2 (by decide) (by decide)) (fun a b i => oc _ (by have := @pI_lt a b i; omega)) a7 (fun a ha => a9 a (Or.inr ha))⟩
  obtain ⟨i, hi, rfl⟩ := hk
  by_cases e : i = 0
  · subst e; exact z11
  · by_cases e' : i = 1
    · subst e'; exact z19
    · rw [oc _ (by omega)]; exact h2 _ ⟨i, hi, rfl⟩
theorem bp_nI {sg : Nat → Int32} {a : Nat} (h : ¬ bpV sg a = -9) : ∃ j, j ≤ a + 6 ∧ bpV sg a = nI j := by
  have hd := dgN_le (sg a)
  unfold bpV at h ⊢
  by_cases z : dgN (sg a) = 0
  · exact ⟨a, by omega, if_pos z⟩
  · rw [if_neg z] at h ⊢
    by_cases z2 : fstG (ndP sg) (dgN (sg a)) (a + 1) = -9
    · rw [if_pos z2] at h ⊢
      by_cases z3 : sg (a + dgN (sg a) + 1) = 59
      · rw [if_pos z3] at h; exact absurd rfl h
      · exact ⟨_, by omega, if_neg z3⟩
    · rw [if_neg z2] at h ⊢
      rcases fstG_some (P := ndP sg) (dgN (sg a)) (a + 1) with ⟨q, -⟩ | ⟨j, q1, q2, q3, q4, q5⟩
      · exact absurd q z2
      · exact ⟨j, by omega, by assumption⟩
theorem le_m1 : ∀ j, j < 200 → (-1000 : Int32) - nI j ≤ 0 := by decide +kernel
theorem le_m2 : ∀ j, j < 400 → (-2000 : Int32) - nI j ≤ 0 := by decide +kernel
theorem nm1 : ∀ j, j < 400 → nI j ≠ -1 := by decide +kernel
theorem le_N : ∀ j, j < 49 → 0 < j → ¬ nI j ≤ 0 := by decide +kernel
theorem sg0 {f : Nat → Int32} : bpV (sgF f 0) 0 = nI 0 := rfl
theorem x_tellA {st : St} {s N : Nat} {c : Ct} {K : Int32 → St → Prop} (hs : s ≤ 96) (h0 : 0 < s) (e : st 4 1 = nI s) (hN : N ≤ 48) (p1 : stP (sgF (st 5) s) s N = true) (p2 : ∀ i, i < N → stP (sgF (st 5) s) s i = false) (hA : PL (sgF (st 5) s) N < s)
    (hK : K (-1000 - bpV (sgF (st 5) s) (PL (sgF (st 5) s) N)) (sv st 19 c)) : w_X7_tellTo 19 (sv st 19 c) K := by
  have e5 : sv st 19 c 5 = st 5 := sv_off (by decide)
  have e4 : sv st 19 c 4 1 = nI s := by rw [sv_off (by decide)]; exact e
  have nb : ¬ bpV (sgF (st 5) s) (PL (sgF (st 5) s) N) = -9 := fun z => by
    unfold stP at p1
    rw [decide_eq_false (by omega), z] at p1
    simp at p1
  unfold w_X7_tellTo
  refine x_brokenPlace (s := s) (N := N) hs h0 e4 hN (by rw [e5]; exact p1) (by rw [e5]; exact p2) (fun _ => ?_) (fun z => ?_)
  · rw [e5]
    refine n1 (fun z => ?_) hK
    obtain ⟨j, j1, j2⟩ := bp_nI nb
    have pl := PL_le (sgF (st 5) s) N
    rw [j2] at z
    exact absurd z (nm1 j (by omega))
  · rw [e5] at z; omega
theorem x_tell0 {st : St} {K : Int32 → St → Prop} (e : st 4 1 = nI 0) (hK : K (-1000 - nI 0) st) : w_X7_tellTo 19 st K := by
  unfold w_X7_tellTo w_X7_brokenPlace
  exact y2 e (n1 (by decide) hK)
theorem sim_land {st mt : St} (h : R st mt) : w_X8_land st (fun r st' => w_X9_land mt (fun r' mt' => r = r' ∧ R st' mt')) := by
  obtain ⟨n, nL, hm, g⟩ := h.get
  obtain ⟨s, hs, k2, k3, k4⟩ := h.2.2.2.2.1
  have hz := h.2.1
  obtain ⟨N, hN, p1, p2⟩ := st_ex (sg := sgF (mt 9) s) hs
  have eg : sgF (st 5) s = sgF (mt 9) s := by
    funext a
    unfold sgF
    by_cases z : a < s
    · rw [if_pos z, if_pos z, k4 a z]
    · rw [if_neg z, if_neg z]
  have hb := RM_bec hm
  have hx : gX (n, nL, bec (cv st 11)) := ⟨hb.1, hb.2.1, gC_bec g, nC_bec nC_cv⟩
  have m11 : mt 0 11 = 0 := h.1.2
  have pl := PL_le (sgF (mt 9) s) N
  -- the class's ends
  have kF : ∀ (c : Ct) (mt' : St), gX (n, nL, c) ∨ (∃ a b, gX (a, b, c)) → (∀ i, i < 75 → lvM mt' i = lvM mt i) → LF mt mt' → R (u2 (sv st 19 c) 4 1 0) mt' := fun c mt' hc lv lf => by
    have hc' : zC c ∧ nC c := by
      rcases hc with z | ⟨a, b, z⟩
      · exact ⟨z.2.2.1.1, z.2.2.2⟩
      · exact ⟨z.2.2.1.1, z.2.2.2⟩
    have o11 : cv (u2 (sv st 19 c) 4 1 0) 11 = cv st 11 := by rw [cv_u2 (by decide), cv_off (by decide)]
    refine R_land h ⟨?_, lf.1.trans m11⟩ (by rw [o11]; exact hz 11 isC_11) (by rw [cv_u2 (by decide), cv_sv hc'.2]; exact hc'.1) (fun j a b => by rw [u2_off b, sv_off (by omega)]) u2_same lf
    rw [o11]
    exact h.1.1.cg lv
  have q3l : ∀ {t : St}, (∀ j, j ≠ 0 → j ≠ 10 → j ≠ 11 → j ≠ 12 → t j = mt j) → (∀ x, x ≠ 16 → x ≠ 17 → x ≠ 18 → t 0 x = mt 0 x) → ∀ i, i < 75 → lvM t i = lvM mt i := fun {t} q q0 i _ => by
    unfold lvM
    rw [q 2 (by decide) (by decide) (by decide) (by decide), q 3 (by decide) (by decide) (by decide) (by decide), q 4 (by decide) (by decide) (by decide) (by decide), q 5 (by decide) (by decide) (by decide) (by decide), q 6 (by decide) (by decide) (by decide) (by decide), q 7 (by decide) (by decide) (by decide) (by decide), q 8 (by decide) (by decide) (by decide) (by decide), q0 8 (by decide) (by decide) (by decide), q0 9 (by decide) (by decide) (by decide), q0 10 (by decide) (by decide) (by decide)]
  have lfA : ∀ {t : St}, (∀ j, j ≠ 0 → j ≠ 10 → j ≠ 11 → j ≠ 12 → t j = mt j) → (∀ x, x ≠ 16 → x ≠ 17 → x ≠ 18 → t 0 x = mt 0 x) → t 0 16 = 0 → LF mt t := fun {t} q q0 z => ⟨q0 11 (by decide) (by decide) (by decide), q 1 (by decide) (by decide) (by decide) (by decide), q 9 (by decide) (by decide) (by decide) (by decide), q 16 (by decide) (by decide) (by decide) (by decide), z, q0 20 (by decide) (by decide) (by decide), q0 23 (by decide) (by decide) (by decide), q0 29 (by decide) (by decide) (by decide), fun a _ => by rw [q 13 (by decide) (by decide) (by decide) (by decide)]⟩
  unfold w_X8_land
  refine s_become (by decide) (hz 19 isC_19) (hz 11 isC_11) ?_
  by_cases s0 : s = 0
  · -- nothing is told
    subst s0
    have hN0 : N = 0 := by
      by_cases z : N = 0
      · exact z
      · have := (st_good hs (p2 0 (by omega))).2.2.2
        omega
    subst hN0
    refine x_tell0 (by rw [sv_off (by decide)]; exact k2) ?_
    unfold w_X7_empty
    refine y1 (le_m1 0 (by decide)) (t_landA (N := 0) hs k3 (by decide) p2 (by rw [show PL (sgF (mt 9) 0) 0 = 0 from rfl, sg0]; decide) (Or.inr rfl) fun t q1 q2 q3 => ⟨by rw [show PL (sgF (mt 9) 0) 0 = 0 from rfl, sg0], ?_⟩)
    exact kF _ t (Or.inl hx) (q3l q1 q2) (lfA q1 q2 q3)
  · by_cases z : PL (sgF (mt 9) s) N < s
    · -- broken
      have nb : ¬ bpV (sgF (mt 9) s) (PL (sgF (mt 9) s) N) = -9 := fun z' => by
        unfold stP at p1
        rw [decide_eq_false (by omega), z'] at p1
        simp at p1
      obtain ⟨j, j1, j2⟩ := bp_nI nb
      refine x_tellA hs (by omega) k2 hN (by rw [eg]; exact p1) (by rw [eg]; exact p2) (by rw [eg]; exact z) ?_
      rw [eg]
      unfold w_X7_empty
      refine y1 (by rw [j2]; exact le_m1 j (by omega)) (t_landA hs k3 ?_ p2 nb (Or.inl z) fun t q1 q2 q3 => ⟨rfl, kF _ t (Or.inl hx) (q3l q1 q2) (lfA q1 q2 q3)⟩)
      omega
    · have N0 : 0 < N := by
        by_cases y : N = 0
        · subst y; exact absurd (show PL (sgF (mt 9) s) 0 < s from Nat.pos_of_ne_zero s0) z
        · omega
      refine x_tellB (x0 := (n, nL, bec (cv st 11))) hs (by omega) k2 hN (by rw [eg]; exact p1) (by rw [eg]; exact p2) (by rw [eg]; omega) hx (fun hg => ?_) (fun i hi hg hb' => ?_)
      · rw [eg] at hg ⊢
        have gN := gX_all hs hx N fun j hj => ⟨p2 j hj, hg j hj⟩
        unfold w_X7_empty
        have o11 : ∀ c, cv (u2 (sv st 19 c) 4 1 0) 11 = cv st 11 := fun c => by rw [cv_u2 (by decide), cv_off (by decide)]
        have o19 : ∀ c, nC c → cv (u2 (sv st 19 c) 4 1 0) 19 = c := fun c hc => by rw [cv_u2 (by decide), cv_sv hc]
        refine n1 (le_N N (by omega) N0) (s_become (by decide) (by rw [o11]; exact hz 11 isC_11) (by rw [o19 _ gN.2.2.2]; exact gN.2.2.1.1) ?_)
        rw [o19 _ gN.2.2.2]
        unfold w_X5_forget
        refine t_landB hs k3 hN N0 p2 (by omega) fun t hT => t_landC hs hN hT p2 hx hb m11 (fun _ t' rm lf => ⟨rfl, R_forget ?_⟩) (fun i' hi' hg' hb'' t' lv lf => ?_)
        · have c11 : cv (sv (u2 (sv st 19 (Xq (sgF (mt 9) s) (n, nL, bec (cv st 11)) N).2.2) 4 1 0) 11 (bec (Xq (sgF (mt 9) s) (n, nL, bec (cv st 11)) N).2.2)) 11 = bec (Xq (sgF (mt 9) s) (n, nL, bec (cv st 11)) N).2.2 := cv_sv (nC_bec gN.2.2.2)
          refine R_land h (Rnow_of (by rw [c11]; exact RM_bec rm) (lf.1.trans m11) (by rw [c11]; exact gC_bec gN.2.2.1)) (by rw [c11]; exact zC_bec gN.2.2.1.1) ?_ (fun j a b => ?_) ?_ lf
          · rw [cv_off (by decide), o19 _ gN.2.2.2]; exact gN.2.2.1.1
          · rw [sv_off (by omega), u2_off b, sv_off (by omega)]
          · rw [sv_off (by decide), u2_same]
        · rw [hg i' hi'] at hb''; cases hb''
      · rw [eg] at hg hb' ⊢
        have gi := gX_all hs hx i fun j hj => ⟨p2 j (by omega), hg j hj⟩
        have pli := PL_le (sgF (mt 9) s) i
        unfold w_X7_empty
        refine y1 (le_m2 _ (by omega)) (t_landB hs k3 hN N0 p2 (by omega) fun t hT => t_landC hs hN hT p2 hx hb m11 (fun hg' => ?_) (fun i' hi' hg' hb'' t' lv lf => ?_))
        · rw [hg' i hi] at hb'; cases hb'
        · have ei : i' = i := by
            by_cases a : i' < i
            · rw [hg i' a] at hb''; cases hb''
            · by_cases b : i < i'
              · rw [hg' i b] at hb'; cases hb'
              · omega
          subst ei
          exact ⟨rfl, kF _ t' (Or.inr ⟨_, _, gi⟩) lv lf⟩
