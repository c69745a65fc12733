/-! the list of the new cells, put in the order of the worlds of the calls -/
def hW (y : Sy) : va_W := [(ad y 0, .inr (6, [.ref (ad y 11), .ref (ad y 19), .ref (ad y 27), .int 0, .ref (ad y 2), .ref (ad y 4), .ref (ad y 6), .ref (ad y 8), .ref (ad y 10), .ref (ad y 1)])), (ad y 1, eA y 7 zr), (ad y 2, .inr (3, [.ref (ad y 3), .int 0, .int 0])), (ad y 3, .inl (y.2.2.1, 8, .inr (.inr (.inr (.inr (fun j => some (ad y (35 + 8 * j)))))))), (ad y 4, .inr (5, [.ref (ad y 5), .int 0])), (ad y 5, eA y 96 zr), (ad y 6, .inr (4, [.ref (ad y 7), .int 0])), (ad y 7, eA y 12 zr), (ad y 8, .inr (1, [.ref (ad y 11), .ref (ad y 9)])), (ad y 9, eA y 64 zr), (ad y 10, .inr (2, [.ref (ad y 11), .ref (ad y 99)]))]
def bW (y : Sy) : Nat → va_W
  | 0 => []
  | i + 1 => bW y i ++ cW y (fun t => ad y (8 * i + 11 + t))
theorem gW_len {N : Nat} {en : En} {y : Sy} {st : St} : (gW N en y st).length = N := by simp [gW]
theorem gW_get {N : Nat} {en : En} {y : Sy} {st : St} {k : Nat} {q : Nat × va_E} (h : (gW N en y st)[k]? = some q) : k < N ∧ q = (ad y k, en y k (st k)) := by
  have hk : k < N := by
    have := (List.getElem?_eq_some_iff.mp h).1
    rwa [gW_len] at this
  rw [gW_at hk] at h
  exact ⟨hk, (Option.some.inj h).symm⟩
theorem bW_len {y : Sy} : ∀ i : Nat, (bW y i).length = 8 * i
  | 0 => rfl
  | i + 1 => by
    show (bW y i ++ cW y _).length = _
    rw [List.length_append, bW_len i]
    show 8 * i + 8 = 8 * (i + 1)
    omega
theorem cW_at {y : Sy} {i t : Nat} (hi : i < 12) (ht : t < 8) : (cW y (fun t => ad y (8 * i + 11 + t)))[t]? = some (ad y (8 * i + 11 + t), enX y (8 * i + 11 + t) (fun _ => 0)) := by
  have hc : isC (8 * i + 11) := isC_at hi
  rcases (show t = 0 ∨ t = 1 ∨ t = 2 ∨ t = 3 ∨ t = 4 ∨ t = 5 ∨ t = 6 ∨ t = 7 by omega) with rfl | rfl | rfl | rfl | rfl | rfl | rfl | rfl
  · rw [Nat.add_zero, hc.e]; rfl
  · rw [hc.a1.2]; rfl
  · rw [hc.a2.2]; rfl
  · rw [hc.a3.2]; rfl
  · rw [hc.a4.2]; rfl
  · rw [hc.a5.2]; rfl
  · rw [hc.a6.2]; rfl
  · rw [hc.a7.2]; rfl
theorem bW_at {y : Sy} : ∀ i : Nat, i ≤ 12 → ∀ k, k < 8 * i → (bW y i)[k]? = some (ad y (11 + k), enX y (11 + k) (fun _ => 0))
  | 0, _, k, h => by omega
  | i + 1, hi, k, h => by
    show (bW y i ++ cW y (fun t => ad y (8 * i + 11 + t)))[k]? = _
    by_cases hk : k < 8 * i
    · rw [List.getElem?_append_left (by rw [bW_len]; exact hk)]
      exact bW_at i (by omega) k hk
    · rw [List.getElem?_append_right (by rw [bW_len]; omega), bW_len, cW_at (by omega) (by omega), show 8 * i + 11 + (k - 8 * i) = 11 + k by omega]
theorem gX_eq (y : Sy) : gW 107 enX y (fun _ _ => 0) = hW y ++ bW y 12 := by
  apply List.ext_getElem?
  intro k
  by_cases h : k < 11
  · rw [gW_at (by omega), List.getElem?_append_left (by exact h)]
    rcases (show k = 0 ∨ k = 1 ∨ k = 2 ∨ k = 3 ∨ k = 4 ∨ k = 5 ∨ k = 6 ∨ k = 7 ∨ k = 8 ∨ k = 9 ∨ k = 10 by omega) with rfl | rfl | rfl | rfl | rfl | rfl | rfl | rfl | rfl | rfl | rfl <;> rfl
  · have hl : (hW y).length = 11 := rfl
    rw [List.getElem?_append_right (by rw [hl]; omega), hl]
    by_cases h2 : k < 107
    · rw [gW_at h2, bW_at 12 (by decide) _ (by omega), show 11 + (k - 11) = k by omega]
    · rw [List.getElem?_eq_none (by rw [gW_len]; omega), List.getElem?_eq_none (by rw [bW_len]; omega)]
theorem gM_eq (y : Sy) : gW 17 enM y (fun _ _ => 0) = mW y (ad y) := rfl
theorem nw_D {A : Nat → Prop} {w1 w2 : va_W} (hp : (w1.map Prod.fst).Perm (w2.map Prod.fst)) (h : va_D A w1) : va_D A w2 := by
  have nd : (w1.map Prod.fst).Nodup := by
    refine List.pairwise_iff_getElem.mpr fun i j hi hj hij e => ?_
    rw [List.getElem_map, List.getElem_map] at e
    have := h.1 i j _ _ (List.getElem?_eq_getElem (by simpa using hi)) (List.getElem?_eq_getElem (by simpa using hj)) e
    omega
  have nd2 := List.pairwise_iff_getElem.mp (hp.nodup_iff.mp nd)
  have ne : ∀ (i j : Nat) (p q : Nat × va_E), w2[i]? = some p → w2[j]? = some q → i < j → p.1 ≠ q.1 := fun i j p q hi hj hij e => by
    obtain ⟨a1, a2⟩ := List.getElem?_eq_some_iff.mp hi
    obtain ⟨b1, b2⟩ := List.getElem?_eq_some_iff.mp hj
    refine nd2 i j (by simpa using a1) (by simpa using b1) hij ?_
    rw [List.getElem_map, List.getElem_map, a2, b2]
    exact e
  refine ⟨fun i j p q hi hj e => ?_, fun k q hk => ?_⟩
  · rcases Nat.lt_trichotomy i j with g | g | g
    · exact absurd e (ne i j p q hi hj g)
    · exact g
    · exact absurd e.symm (ne j i q p hj hi g)
  · have m2 : q.1 ∈ w2.map Prod.fst := List.mem_map.mpr ⟨q, List.mem_of_getElem? hk, rfl⟩
    obtain ⟨x, hx, e⟩ := List.mem_map.mp (hp.mem_iff.mpr m2)
    obtain ⟨i, hi⟩ := List.getElem?_of_mem hx
    rw [← e]
    exact h.2 i x hi
def cA (a : Nat → Nat) : List Nat := [a 0, a 1, a 2, a 3, a 4, a 5, a 6, a 7]
theorem cW_A (y : Sy) (a : Nat → Nat) : (cW y a).map Prod.fst = cA a := rfl
theorem pW_A (y : Sy) (b : Nat → Nat → Nat) : (pW y b 8).map Prod.fst = ((((((([] ++ cA (b 0)) ++ cA (b 1)) ++ cA (b 2)) ++ cA (b 3)) ++ cA (b 4)) ++ cA (b 5)) ++ cA (b 6)) ++ cA (b 7) := rfl
/-- the addresses by the cells' numbers -/
def axF (h0 : Nat) (a1 a2 a7 a9 : Nat → Nat) (q3 eq q4 q41 q5 q51 q6 q8 q81 q9 : Nat) (b : Nat → Nat → Nat) (k : Nat) : Nat :=
  if k < 11 then ([h0, q6, q3, eq, q4, q41, q5, q51, q8, q81, q9] : List Nat).getD k 0
  else (if (k - 11) / 8 = 0 then a7 else if (k - 11) / 8 = 1 then a1 else if (k - 11) / 8 = 2 then a2 else if (k - 11) / 8 < 11 then b ((k - 11) / 8 - 3) else a9) ((k - 11) % 8)
theorem ax_c0 (h0 : Nat) (a1 a2 a7 a9 : Nat → Nat) (q3 eq q4 q41 q5 q51 q6 q8 q81 q9 : Nat) (b : Nat → Nat → Nat) (y : Sy) (h : y.2.2.2 = axF h0 a1 a2 a7 a9 q3 eq q4 q41 q5 q51 q6 q8 q81 q9 b) : cW y (fun t => ad y (8 * 0 + 11 + t)) = cW y (a7) := by
  unfold cW ad
  rw [h]
  rfl
theorem ax_c1 (h0 : Nat) (a1 a2 a7 a9 : Nat → Nat) (q3 eq q4 q41 q5 q51 q6 q8 q81 q9 : Nat) (b : Nat → Nat → Nat) (y : Sy) (h : y.2.2.2 = axF h0 a1 a2 a7 a9 q3 eq q4 q41 q5 q51 q6 q8 q81 q9 b) : cW y (fun t => ad y (8 * 1 + 11 + t)) = cW y (a1) := by
  unfold cW ad
  rw [h]
  rfl
theorem ax_c2 (h0 : Nat) (a1 a2 a7 a9 : Nat → Nat) (q3 eq q4 q41 q5 q51 q6 q8 q81 q9 : Nat) (b : Nat → Nat → Nat) (y : Sy) (h : y.2.2.2 = axF h0 a1 a2 a7 a9 q3 eq q4 q41 q5 q51 q6 q8 q81 q9 b) : cW y (fun t => ad y (8 * 2 + 11 + t)) = cW y (a2) := by
  unfold cW ad
  rw [h]
  rfl
theorem ax_c3 (h0 : Nat) (a1 a2 a7 a9 : Nat → Nat) (q3 eq q4 q41 q5 q51 q6 q8 q81 q9 : Nat) (b : Nat → Nat → Nat) (y : Sy) (h : y.2.2.2 = axF h0 a1 a2 a7 a9 q3 eq q4 q41 q5 q51 q6 q8 q81 q9 b) : cW y (fun t => ad y (8 * 3 + 11 + t)) = cW y (b 0) := by
  unfold cW ad
  rw [h]
  rfl
theorem ax_c4 (h0 : Nat) (a1 a2 a7 a9 : Nat → Nat) (q3 eq q4 q41 q5 q51 q6 q8 q81 q9 : Nat) (b : Nat → Nat → Nat) (y : Sy) (h : y.2.2.2 = axF h0 a1 a2 a7 a9 q3 eq q4 q41 q5 q51 q6 q8 q81 q9 b) : cW y (fun t => ad y (8 * 4 + 11 + t)) = cW y (b 1) := by
  unfold cW ad
  rw [h]
  rfl
theorem ax_c5 (h0 : Nat) (a1 a2 a7 a9 : Nat → Nat) (q3 eq q4 q41 q5 q51 q6 q8 q81 q9 : Nat) (b : Nat → Nat → Nat) (y : Sy) (h : y.2.2.2 = axF h0 a1 a2 a7 a9 q3 eq q4 q41 q5 q51 q6 q8 q81 q9 b) : cW y (fun t => ad y (8 * 5 + 11 + t)) = cW y (b 2) := by
  unfold cW ad
  rw [h]
  rfl
theorem ax_c6 (h0 : Nat) (a1 a2 a7 a9 : Nat → Nat) (q3 eq q4 q41 q5 q51 q6 q8 q81 q9 : Nat) (b : Nat → Nat → Nat) (y : Sy) (h : y.2.2.2 = axF h0 a1 a2 a7 a9 q3 eq q4 q41 q5 q51 q6 q8 q81 q9 b) : cW y (fun t => ad y (8 * 6 + 11 + t)) = cW y (b 3) := by
  unfold cW ad
  rw [h]
  rfl
theorem ax_c7 (h0 : Nat) (a1 a2 a7 a9 : Nat → Nat) (q3 eq q4 q41 q5 q51 q6 q8 q81 q9 : Nat) (b : Nat → Nat → Nat) (y : Sy) (h : y.2.2.2 = axF h0 a1 a2 a7 a9 q3 eq q4 q41 q5 q51 q6 q8 q81 q9 b) : cW y (fun t => ad y (8 * 7 + 11 + t)) = cW y (b 4) := by
  unfold cW ad
  rw [h]
  rfl
theorem ax_c8 (h0 : Nat) (a1 a2 a7 a9 : Nat → Nat) (q3 eq q4 q41 q5 q51 q6 q8 q81 q9 : Nat) (b : Nat → Nat → Nat) (y : Sy) (h : y.2.2.2 = axF h0 a1 a2 a7 a9 q3 eq q4 q41 q5 q51 q6 q8 q81 q9 b) : cW y (fun t => ad y (8 * 8 + 11 + t)) = cW y (b 5) := by
  unfold cW ad
  rw [h]
  rfl
theorem ax_c9 (h0 : Nat) (a1 a2 a7 a9 : Nat → Nat) (q3 eq q4 q41 q5 q51 q6 q8 q81 q9 : Nat) (b : Nat → Nat → Nat) (y : Sy) (h : y.2.2.2 = axF h0 a1 a2 a7 a9 q3 eq q4 q41 q5 q51 q6 q8 q81 q9 b) : cW y (fun t => ad y (8 * 9 + 11 + t)) = cW y (b 6) := by
  unfold cW ad
  rw [h]
  rfl
theorem ax_c10 (h0 : Nat) (a1 a2 a7 a9 : Nat → Nat) (q3 eq q4 q41 q5 q51 q6 q8 q81 q9 : Nat) (b : Nat → Nat → Nat) (y : Sy) (h : y.2.2.2 = axF h0 a1 a2 a7 a9 q3 eq q4 q41 q5 q51 q6 q8 q81 q9 b) : cW y (fun t => ad y (8 * 10 + 11 + t)) = cW y (b 7) := by
  unfold cW ad
  rw [h]
  rfl
theorem ax_c11 (h0 : Nat) (a1 a2 a7 a9 : Nat → Nat) (q3 eq q4 q41 q5 q51 q6 q8 q81 q9 : Nat) (b : Nat → Nat → Nat) (y : Sy) (h : y.2.2.2 = axF h0 a1 a2 a7 a9 q3 eq q4 q41 q5 q51 q6 q8 q81 q9 b) : cW y (fun t => ad y (8 * 11 + 11 + t)) = cW y (a9) := by
  unfold cW ad
  rw [h]
  rfl
theorem ax_past (h0 : Nat) (a1 a2 a7 a9 : Nat → Nat) (q3 eq q4 q41 q5 q51 q6 q8 q81 q9 : Nat) (b : Nat → Nat → Nat) : ∀ j, j < 8 → b j 0 = axF h0 a1 a2 a7 a9 q3 eq q4 q41 q5 q51 q6 q8 q81 q9 b (35 + 8 * j) := by
  intro j hj
  rcases (show j = 0 ∨ j = 1 ∨ j = 2 ∨ j = 3 ∨ j = 4 ∨ j = 5 ∨ j = 6 ∨ j = 7 by omega) with rfl | rfl | rfl | rfl | rfl | rfl | rfl | rfl <;> rfl
theorem bW_ax (h0 : Nat) (a1 a2 a7 a9 : Nat → Nat) (q3 eq q4 q41 q5 q51 q6 q8 q81 q9 : Nat) (b : Nat → Nat → Nat) (y : Sy) (h : y.2.2.2 = axF h0 a1 a2 a7 a9 q3 eq q4 q41 q5 q51 q6 q8 q81 q9 b) : bW y 12 = (((((((((((([] ++ cW y a7) ++ cW y a1) ++ cW y a2) ++ cW y (b 0)) ++ cW y (b 1)) ++ cW y (b 2)) ++ cW y (b 3)) ++ cW y (b 4)) ++ cW y (b 5)) ++ cW y (b 6)) ++ cW y (b 7)) ++ cW y a9) := by
  simp only [bW, ax_c0 h0 a1 a2 a7 a9 q3 eq q4 q41 q5 q51 q6 q8 q81 q9 b y h, ax_c1 h0 a1 a2 a7 a9 q3 eq q4 q41 q5 q51 q6 q8 q81 q9 b y h, ax_c2 h0 a1 a2 a7 a9 q3 eq q4 q41 q5 q51 q6 q8 q81 q9 b y h, ax_c3 h0 a1 a2 a7 a9 q3 eq q4 q41 q5 q51 q6 q8 q81 q9 b y h, ax_c4 h0 a1 a2 a7 a9 q3 eq q4 q41 q5 q51 q6 q8 q81 q9 b y h, ax_c5 h0 a1 a2 a7 a9 q3 eq q4 q41 q5 q51 q6 q8 q81 q9 b y h, ax_c6 h0 a1 a2 a7 a9 q3 eq q4 q41 q5 q51 q6 q8 q81 q9 b y h, ax_c7 h0 a1 a2 a7 a9 q3 eq q4 q41 q5 q51 q6 q8 q81 q9 b y h, ax_c8 h0 a1 a2 a7 a9 q3 eq q4 q41 q5 q51 q6 q8 q81 q9 b y h, ax_c9 h0 a1 a2 a7 a9 q3 eq q4 q41 q5 q51 q6 q8 q81 q9 b y h, ax_c10 h0 a1 a2 a7 a9 q3 eq q4 q41 q5 q51 q6 q8 q81 q9 b y h, ax_c11 h0 a1 a2 a7 a9 q3 eq q4 q41 q5 q51 q6 q8 q81 q9 b y h]
theorem hW_ax (h0 : Nat) (a1 a2 a7 a9 : Nat → Nat) (q3 eq q4 q41 q5 q51 q6 q8 q81 q9 : Nat) (b : Nat → Nat → Nat) (y : Sy) (h : y.2.2.2 = axF h0 a1 a2 a7 a9 q3 eq q4 q41 q5 q51 q6 q8 q81 q9 b) : hW y = [(h0, .inr (6, [.ref (a7 0), .ref (a1 0), .ref (a2 0), .int 0, .ref q3, .ref q4, .ref q5, .ref q8, .ref q9, .ref q6])), (q6, eA y 7 zr), (q3, .inr (3, [.ref eq, .int 0, .int 0])), (eq, .inl (y.2.2.1, 8, .inr (.inr (.inr (.inr (fun j => some (axF h0 a1 a2 a7 a9 q3 eq q4 q41 q5 q51 q6 q8 q81 q9 b (35 + 8 * j)))))))), (q4, .inr (5, [.ref q41, .int 0])), (q41, eA y 96 zr), (q5, .inr (4, [.ref q51, .int 0])), (q51, eA y 12 zr), (q8, .inr (1, [.ref (a7 0), .ref q81])), (q81, eA y 64 zr), (q9, .inr (2, [.ref (a7 0), .ref (a9 0)]))] := by
  unfold hW ad
  rw [h]
  rfl
set_option maxRecDepth 100000 in
set_option maxHeartbeats 4000000 in
theorem gW_new {y0 : Sy} {A : Nat → Prop} {H : Heap} {am : Nat → Nat} (h0 : Nat) (a1 a2 a7 a9 : Nat → Nat) (q3 eq q4 q41 q5 q51 q6 q8 q81 q9 : Nat) (b : Nat → Nat → Nat) (hP : va_P y0.1 vwCl (xW y0 h0 a1 a2 a7 a9 q3 eq q4 q41 q5 q51 q6 q8 q81 q9 b ++ mW y0 am) H) (hD : va_D A (xW y0 h0 a1 a2 a7 a9 q3 eq q4 q41 q5 q51 q6 q8 q81 q9 b ++ mW y0 am)) :
    ∃ ax : Nat → Nat, ax 0 = h0 ∧ va_P y0.1 vwCl (gW 107 enX (y0.1, y0.2.1, y0.2.2.1, ax) (fun _ _ => 0) ++ gW 17 enM (y0.1, y0.2.1, y0.2.2.1, am) (fun _ _ => 0)) H ∧ va_D A (gW 107 enX (y0.1, y0.2.1, y0.2.2.1, ax) (fun _ _ => 0) ++ gW 17 enM (y0.1, y0.2.1, y0.2.2.1, am) (fun _ _ => 0)) := by
  refine ⟨axF h0 a1 a2 a7 a9 q3 eq q4 q41 q5 q51 q6 q8 q81 q9 b, rfl, ?_⟩
  rw [gX_eq, gM_eq, bW_ax h0 a1 a2 a7 a9 q3 eq q4 q41 q5 q51 q6 q8 q81 q9 b _ rfl, hW_ax h0 a1 a2 a7 a9 q3 eq q4 q41 q5 q51 q6 q8 q81 q9 b _ rfl]
  have hX := hP.left
  have hM := hP.right
  have h0P : va_P y0.1 vwCl [(h0, .inr (6, [.ref (a7 0), .ref (a1 0), .ref (a2 0), .int 0, .ref q3, .ref q4, .ref q5, .ref q8, .ref q9, .ref q6]))] H := va_P.left (b := xT y0 a1 a2 a7 a9 q3 eq q4 q41 q5 q51 q6 q8 q81 q9 b) hX
  have hT : va_P y0.1 vwCl (xT y0 a1 a2 a7 a9 q3 eq q4 q41 q5 q51 q6 q8 q81 q9 b) H := va_P.right (a := [(h0, .inr (6, [.ref (a7 0), .ref (a1 0), .ref (a2 0), .int 0, .ref q3, .ref q4, .ref q5, .ref q8, .ref q9, .ref q6]))]) hX
  unfold xT at hT
  have t9 := hT.right
  have t8 := hT.left.right
  have t7 := hT.left.left.right
  have t6 := hT.left.left.left.right
  have t5 := hT.left.left.left.left.right
  have t4 := hT.left.left.left.left.left.right
  have t3 := hT.left.left.left.left.left.left.right
  have t2 := hT.left.left.left.left.left.left.left.right
  have t1 := hT.left.left.left.left.left.left.left.left
  have hv : va_at y0.1 vwCl (eq, .inl (y0.2.2.1, 8, .inr (.inr (.inr (.inr (fun j => some (axF h0 a1 a2 a7 a9 q3 eq q4 q41 q5 q51 q6 q8 q81 q9 b (35 + 8 * j)))))))) H := by
    have h1 : H[eq]? = some (vp_cell y0.2.2.1 (8, .inr (.inr (.inr (.inr (fun j => some (b j 0))))))) := t3 1 _ rfl
    show H[eq]? = some (vp_cell y0.2.2.1 (8, .inr (.inr (.inr (.inr (fun j => some (axF h0 a1 a2 a7 a9 q3 eq q4 q41 q5 q51 q6 q8 q81 q9 b (35 + 8 * j))))))))
    rw [h1, vp_cell_q, vp_cell_q]
    exact congrArg some (arrV_cg fun j hj => by rw [ax_past h0 a1 a2 a7 a9 q3 eq q4 q41 q5 q51 q6 q8 q81 q9 b j hj])
  have hpw : va_P y0.1 vwCl (pW y0 b 8) H := va_P.right (a := [(q3, .inr (3, [.ref eq, .int 0, .int 0])), (eq, .inl (y0.2.2.1, 8, .inr (.inr (.inr (.inr (fun j => some (b j 0)))))))]) t3
  have h9 : va_P y0.1 vwCl (cW y0 a9) H := va_P.right (a := [(q9, .inr (2, [.ref (a7 0), .ref (a9 0)]))]) t9
  constructor
  · refine va_P.app (va_P.app ?_ ?_) hM
    · intro k q hk
      rcases (show k = 0 ∨ k = 1 ∨ k = 2 ∨ k = 3 ∨ k = 4 ∨ k = 5 ∨ k = 6 ∨ k = 7 ∨ k = 8 ∨ k = 9 ∨ k = 10 ∨ 11 ≤ k by omega) with rfl | rfl | rfl | rfl | rfl | rfl | rfl | rfl | rfl | rfl | rfl | hk2
      · cases hk; exact h0P 0 _ rfl
      · cases hk; exact t6 0 _ rfl
      · cases hk; exact t3 0 _ rfl
      · cases hk; exact hv
      · cases hk; exact t4 0 _ rfl
      · cases hk; exact t4 1 _ rfl
      · cases hk; exact t5 0 _ rfl
      · cases hk; exact t5 1 _ rfl
      · cases hk; exact t8 0 _ rfl
      · cases hk; exact t8 1 _ rfl
      · cases hk; exact t9 0 _ rfl
      · exact absurd (List.getElem?_eq_some_iff.mp hk).1 (Nat.not_lt.mpr hk2)
    · have e := hpw.left
      exact (((((((((((va_P.app (fun k q h => by cases h) t7).app t1).app t2).app hpw.left.left.left.left.left.left.left.right).app hpw.left.left.left.left.left.left.right).app hpw.left.left.left.left.left.right).app hpw.left.left.left.left.right).app hpw.left.left.left.right).app hpw.left.left.right).app hpw.left.right).app hpw.right).app h9
  · refine nw_D (List.perm_iff_count.mpr fun x => ?_) hD
    have em : (mW (y0.1, y0.2.1, y0.2.2.1, am) (ad (y0.1, y0.2.1, y0.2.2.1, am))).map Prod.fst = (mW y0 am).map Prod.fst := rfl
    unfold xW xT
    simp only [em, List.map_append, List.map_cons, List.map_nil, cW_A, pW_A, List.count_append, List.count_cons, List.count_nil, List.cons_append, List.nil_append]
    omega
