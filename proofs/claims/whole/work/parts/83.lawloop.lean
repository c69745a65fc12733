/-! the law's loop, and its start -/
theorem l_len {L i : Nat} (hL : L ≤ 3584) (hi : i ≤ L) (h : ¬ (Int32.ofNat L - 7 < nI i)) : i + 7 ≤ L := by
  by_cases h7 : 7 ≤ L
  · have e : Int32.ofNat L - 7 = nI (L - 7) := nI_sub' (a := L) (b := 7) h7
    rw [e] at h
    rcases Nat.lt_or_ge (L - 7) i with g | g
    · exact absurd (nI_lt g (by omega)) h
    · omega
  · refine absurd ?_ h
    rcases (show L = 0 ∨ L = 1 ∨ L = 2 ∨ L = 3 ∨ L = 4 ∨ L = 5 ∨ L = 6 by omega) with rfl | rfl | rfl | rfl | rfl | rfl | rfl <;>
      exact Int32.lt_of_lt_of_le (b := 0) (by decide) (nI_pos' (by omega))
theorem l_in {L i : Nat} (hL : L ≤ 3584) (hi : i + 7 ≤ L) {j : Nat} (hj : j < 7) : vp_in (nI i + nI j) L := by
  rw [nI_add]
  exact vp_in_nI (by omega) (by omega)
theorem l_v {v : Int32} (h1 : ¬ v.toInt < 0) (h2 : ¬ 46 < v.toInt) : ∃ j : Nat, j ≤ 46 ∧ v = nI j :=
  nI_of2 (M := 46) (n := 46) (by decide) (fun h => h1 (by have := Int32.lt_iff_toInt_lt.mp h; simpa using this)) (Int32.le_iff_toInt_le.mpr (by rw [show (46 : Int32).toInt = 46 by decide]; omega))
set_option maxRecDepth 100000 in
set_option maxHeartbeats 16000000 in
theorem law_loop {p : Program} {l : Launch} {e : Env} {s : State} {m : MethodId} {below : List Frame} {meth : Method} {c : Code} {b L : Nat} {xs : Nat → Int32} {yx ym : Sy} (hL : L ≤ 3584) (C : Lw p s m meth c b L xs yx ym) :
    ∀ (n i : Nat), i ≤ L → L + 1 ≤ i + n → ∀ (st mt : St), R st mt → ∀ (H : Heap) (locs : List Loc), gL yx ym st mt s H locs → ∀ (ls : Array Slot), lv_has ls 4 [(0, .ref b), (1, .ref (ad yx 0)), (2, .ref (ad ym 0)), (3, .int (nI i))] → W p l e room_1 s m #[Value.ref b] below meth c H locs 600000 7302250 (lw_Z below #[Value.ref b] s) (F0 m 18 ls []) := by
  obtain ⟨hx, hb, hr, hml, hown, hts, hX, hbl, hlk, hKx, hKm, hN⟩ := id C
  intro n
  induction n with
  | zero =>
    intro i h1 h2
    exact absurd h2 (by omega)
  | succ n ih =>
    intro i h1 h2 st mt hR H locs hG ls hl
    have hS := hG.2.2.2.2.2
    refine lv_iload_n hx hb dL_law_18 rfl (lv_at hl 3 rfl) ?_
    refine lv_aload_n hx hb dL_law_19 rfl (lv_at hl 0 rfl) ?_
    refine va_slen hx hb hX hbl (Nat.not_le.mpr hbl) hS dL_law_20 ?_
    refine lv_bipush (v := 7) hx hb dL_law_21 (by decide) ?_
    refine lv_isub hx hb dL_law_23 ?_
    refine lv_icmp_gt (tgt := 1648) hx hb dL_law_24 (by decide) (fun _ => ?_) (fun c1 => ?_)
    · refine lv_iconst (v := 1) hx hb dL_law_1648 (by decide) ?_
      refine va_forget (fun q hq => hS.2.2 q hq) ?_
      exact lw_ret hx hb hr hlk dL_law_1649
    · have hi := l_len hL h1 c1
      have nx : ∀ (st' mt' : St) (H1 : Heap) (locs1 : List Loc), R st' mt' → gL yx ym st' mt' s H1 locs1 → W p l e room_1 s m #[Value.ref b] below meth c H1 locs1 600000 7302250 (lw_Z below #[Value.ref b] s) (F0 m 1642 ls []) := fun st' mt' H1 locs1 hR' hG' => by
        refine lv_iinc (v := nI (i + 7)) (lv' := [(3, .int (nI (i + 7))), (0, .ref b), (1, .ref (ad yx 0)), (2, .ref (ad ym 0))]) hx hb dL_law_1642 hl (k := 3) rfl (by rw [← nI_add]; rfl) (Nat.le_of_ble_eq_true rfl) rfl (fun ls hl => ?_)
        refine lv_goto (tgt := 18) hx hb dL_law_1645 (by decide) ?_
        exact ih (i + 7) (by omega) (by omega) st' mt' hR' H1 locs1 hG' ls (lv_sub hl [1, 2, 3, 0] rfl)
      refine lv_aload_n hx hb dL_law_27 rfl (lv_at hl 0 rfl) ?_
      refine lv_iload_n hx hb dL_law_28 rfl (lv_at hl 3 rfl) ?_
      refine va_sld hx hb hX hbl (Nat.not_le.mpr hbl) hS (vp_in_nI (show i < L by omega) (by omega)) dL_law_29 ?_
      refine lv_bipush (v := 63) hx hb dL_law_30 (by decide) ?_
      refine lv_iand hx hb dL_law_32 ?_
      generalize xs (nI i).toNatClampNeg &&& 63 = v
      by_cases h : v.toInt < 0 ∨ 46 < v.toInt
      · exact lv_tableOut hx hb dL_law_33 h (tgt := 1642) (by decide) (nx st mt H locs hR hG)
      · obtain ⟨j, hj, rfl⟩ := l_v (fun q => h (Or.inl q)) (fun q => h (Or.inr q))
        have v1 : vp_in (nI i + 1) L := l_in hL hi (j := 1) (by decide)
        have v2 : vp_in (nI i + 2) L := l_in hL hi (j := 2) (by decide)
        have v3 : vp_in (nI i + 3) L := l_in hL hi (j := 3) (by decide)
        have v4 : vp_in (nI i + 4) L := l_in hL hi (j := 4) (by decide)
        have v5 : vp_in (nI i + 5) L := l_in hL hi (j := 5) (by decide)
        have v6 : vp_in (nI i + 6) L := l_in hL hi (j := 6) (by decide)
        clear h ih
        rcases (show j = 0 ∨ j = 1 ∨ j = 2 ∨ j = 3 ∨ j = 4 ∨ j = 5 ∨ j = 6 ∨ j = 7 ∨ j = 8 ∨ j = 9 ∨ j = 10 ∨ j = 11 ∨ j = 12 ∨ j = 13 ∨ j = 14 ∨ j = 15 ∨ j = 16 ∨ j = 17 ∨ j = 18 ∨ j = 19 ∨ j = 20 ∨ j = 21 ∨ j = 22 ∨ j = 23 ∨ j = 24 ∨ j = 25 ∨ j = 26 ∨ j = 27 ∨ j = 28 ∨ j = 29 ∨ j = 30 ∨ j = 31 ∨ j = 32 ∨ j = 33 ∨ j = 34 ∨ j = 35 ∨ j = 36 ∨ j = 37 ∨ j = 38 ∨ j = 39 ∨ j = 40 ∨ j = 41 ∨ j = 42 ∨ j = 43 ∨ j = 44 ∨ j = 45 ∨ j = 46 by omega) with rfl | rfl | rfl | rfl | rfl | rfl | rfl | rfl | rfl | rfl | rfl | rfl | rfl | rfl | rfl | rfl | rfl | rfl | rfl | rfl | rfl | rfl | rfl | rfl | rfl | rfl | rfl | rfl | rfl | rfl | rfl | rfl | rfl | rfl | rfl | rfl | rfl | rfl | rfl | rfl | rfl | rfl | rfl | rfl | rfl | rfl | rfl
        · exact lv_tableIn hx hb dL_law_33 (by decide) (by decide) (off := 203) (by decide +kernel) (tgt := 236) (by decide) (law_c0 C v1 v2 v3 v4 v5 v6 hR hG hl nx)
        · exact lv_tableIn hx hb dL_law_33 (by decide) (by decide) (off := 226) (by decide +kernel) (tgt := 259) (by decide) (law_c1 C v1 v2 v3 v4 v5 v6 hR hG hl nx)
        · exact lv_tableIn hx hb dL_law_33 (by decide) (by decide) (off := 239) (by decide +kernel) (tgt := 272) (by decide) (law_c2 C v1 v2 v3 v4 v5 v6 hR hG hl nx)
        · exact lv_tableIn hx hb dL_law_33 (by decide) (by decide) (off := 272) (by decide +kernel) (tgt := 305) (by decide) (law_c3 C v1 v2 v3 v4 v5 v6 hR hG hl nx)
        · exact lv_tableIn hx hb dL_law_33 (by decide) (by decide) (off := 305) (by decide +kernel) (tgt := 338) (by decide) (law_c4 C v1 v2 v3 v4 v5 v6 hR hG hl nx)
        · exact lv_tableIn hx hb dL_law_33 (by decide) (by decide) (off := 338) (by decide +kernel) (tgt := 371) (by decide) (law_c5 C v1 v2 v3 v4 v5 v6 hR hG hl nx)
        · exact lv_tableIn hx hb dL_law_33 (by decide) (by decide) (off := 381) (by decide +kernel) (tgt := 414) (by decide) (law_c6 C v1 v2 v3 v4 v5 v6 hR hG hl nx)
        · exact lv_tableIn hx hb dL_law_33 (by decide) (by decide) (off := 414) (by decide +kernel) (tgt := 447) (by decide) (law_c7 C v1 v2 v3 v4 v5 v6 hR hG hl nx)
        · exact lv_tableIn hx hb dL_law_33 (by decide) (by decide) (off := 457) (by decide +kernel) (tgt := 490) (by decide) (law_c8 C v1 v2 v3 v4 v5 v6 hR hG hl nx)
        · exact lv_tableIn hx hb dL_law_33 (by decide) (by decide) (off := 490) (by decide +kernel) (tgt := 523) (by decide) (law_c9 C v1 v2 v3 v4 v5 v6 hR hG hl nx)
        · exact lv_tableIn hx hb dL_law_33 (by decide) (by decide) (off := 513) (by decide +kernel) (tgt := 546) (by decide) (law_c10 C v1 v2 v3 v4 v5 v6 hR hG hl nx)
        · exact lv_tableIn hx hb dL_law_33 (by decide) (by decide) (off := 536) (by decide +kernel) (tgt := 569) (by decide) (law_c11 C v1 v2 v3 v4 v5 v6 hR hG hl nx)
        · exact lv_tableIn hx hb dL_law_33 (by decide) (by decide) (off := 549) (by decide +kernel) (tgt := 582) (by decide) (law_c12 C v1 v2 v3 v4 v5 v6 hR hG hl nx)
        · exact lv_tableIn hx hb dL_law_33 (by decide) (by decide) (off := 592) (by decide +kernel) (tgt := 625) (by decide) (law_c13 C v1 v2 v3 v4 v5 v6 hR hG hl nx)
        · exact lv_tableIn hx hb dL_law_33 (by decide) (by decide) (off := 625) (by decide +kernel) (tgt := 658) (by decide) (law_c14 C v1 v2 v3 v4 v5 v6 hR hG hl nx)
        · exact lv_tableIn hx hb dL_law_33 (by decide) (by decide) (off := 658) (by decide +kernel) (tgt := 691) (by decide) (law_c15 C v1 v2 v3 v4 v5 v6 hR hG hl nx)
        · exact lv_tableIn hx hb dL_law_33 (by decide) (by decide) (off := 701) (by decide +kernel) (tgt := 734) (by decide) (law_c16 C v1 v2 v3 v4 v5 v6 hR hG hl nx)
        · exact lv_tableIn hx hb dL_law_33 (by decide) (by decide) (off := 724) (by decide +kernel) (tgt := 757) (by decide) (law_c17 C v1 v2 v3 v4 v5 v6 hR hG hl nx)
        · exact lv_tableIn hx hb dL_law_33 (by decide) (by decide) (off := 767) (by decide +kernel) (tgt := 800) (by decide) (law_c18 C v1 v2 v3 v4 v5 v6 hR hG hl nx)
        · exact lv_tableIn hx hb dL_law_33 (by decide) (by decide) (off := 790) (by decide +kernel) (tgt := 823) (by decide) (law_c19 C v1 v2 v3 v4 v5 v6 hR hG hl nx)
        · exact lv_tableIn hx hb dL_law_33 (by decide) (by decide) (off := 853) (by decide +kernel) (tgt := 886) (by decide) (law_c20 C v1 v2 v3 v4 v5 v6 hR hG hl nx)
        · exact lv_tableIn hx hb dL_law_33 (by decide) (by decide) (off := 886) (by decide +kernel) (tgt := 919) (by decide) (law_c21 C v1 v2 v3 v4 v5 v6 hR hG hl nx)
        · exact lv_tableIn hx hb dL_law_33 (by decide) (by decide) (off := 919) (by decide +kernel) (tgt := 952) (by decide) (law_c22 C v1 v2 v3 v4 v5 v6 hR hG hl nx)
        · exact lv_tableIn hx hb dL_law_33 (by decide) (by decide) (off := 942) (by decide +kernel) (tgt := 975) (by decide) (law_c23 C v1 v2 v3 v4 v5 v6 hR hG hl nx)
        · exact lv_tableIn hx hb dL_law_33 (by decide) (by decide) (off := 965) (by decide +kernel) (tgt := 998) (by decide) (law_c24 C v1 v2 v3 v4 v5 v6 hR hG hl nx)
        · exact lv_tableIn hx hb dL_law_33 (by decide) (by decide) (off := 988) (by decide +kernel) (tgt := 1021) (by decide) (law_c25 C v1 v2 v3 v4 v5 v6 hR hG hl nx)
        · exact lv_tableIn hx hb dL_law_33 (by decide) (by decide) (off := 1031) (by decide +kernel) (tgt := 1064) (by decide) (law_c26 C v1 v2 v3 v4 v5 v6 hR hG hl nx)
        · exact lv_tableIn hx hb dL_law_33 (by decide) (by decide) (off := 1074) (by decide +kernel) (tgt := 1107) (by decide) (law_c27 C v1 v2 v3 v4 v5 v6 hR hG hl nx)
        · exact lv_tableIn hx hb dL_law_33 (by decide) (by decide) (off := 1128) (by decide +kernel) (tgt := 1161) (by decide) (law_c28 C v1 v2 v3 v4 v5 v6 hR hG hl nx)
        · exact lv_tableIn hx hb dL_law_33 (by decide) (by decide) (off := 1161) (by decide +kernel) (tgt := 1194) (by decide) (law_c29 C v1 v2 v3 v4 v5 v6 hR hG hl nx)
        · exact lv_tableIn hx hb dL_law_33 (by decide) (by decide) (off := 1237) (by decide +kernel) (tgt := 1270) (by decide) (law_c30 C v1 v2 v3 v4 v5 v6 hR hG hl nx)
        · exact lv_tableIn hx hb dL_law_33 (by decide) (by decide) (off := 1260) (by decide +kernel) (tgt := 1293) (by decide) (law_c31 C v1 v2 v3 v4 v5 v6 hR hG hl nx)
        · exact lv_tableIn hx hb dL_law_33 (by decide) (by decide) (off := 1273) (by decide +kernel) (tgt := 1306) (by decide) (law_c32 C v1 v2 v3 v4 v5 v6 hR hG hl nx)
        · exact lv_tableIn hx hb dL_law_33 (by decide) (by decide) (off := 1286) (by decide +kernel) (tgt := 1319) (by decide) (law_c33 C v1 v2 v3 v4 v5 v6 hR hG hl nx)
        · exact lv_tableIn hx hb dL_law_33 (by decide) (by decide) (off := 1299) (by decide +kernel) (tgt := 1332) (by decide) (law_c34 C v1 v2 v3 v4 v5 v6 hR hG hl nx)
        · exact lv_tableIn hx hb dL_law_33 (by decide) (by decide) (off := 1323) (by decide +kernel) (tgt := 1356) (by decide) (law_c35 C v1 v2 v3 v4 v5 v6 hR hG hl nx)
        · exact lv_tableIn hx hb dL_law_33 (by decide) (by decide) (off := 1366) (by decide +kernel) (tgt := 1399) (by decide) (law_c36 C v1 v2 v3 v4 v5 v6 hR hG hl nx)
        · exact lv_tableIn hx hb dL_law_33 (by decide) (by decide) (off := 1389) (by decide +kernel) (tgt := 1422) (by decide) (law_c37 C v1 v2 v3 v4 v5 v6 hR hG hl nx)
        · exact lv_tableIn hx hb dL_law_33 (by decide) (by decide) (off := 1412) (by decide +kernel) (tgt := 1445) (by decide) (law_c38 C v1 v2 v3 v4 v5 v6 hR hG hl nx)
        · exact lv_tableIn hx hb dL_law_33 (by decide) (by decide) (off := 1435) (by decide +kernel) (tgt := 1468) (by decide) (law_c39 C v1 v2 v3 v4 v5 v6 hR hG hl nx)
        · exact lv_tableIn hx hb dL_law_33 (by decide) (by decide) (off := 1458) (by decide +kernel) (tgt := 1491) (by decide) (law_c40 C v1 v2 v3 v4 v5 v6 hR hG hl nx)
        · exact lv_tableIn hx hb dL_law_33 (by decide) (by decide) (off := 1481) (by decide +kernel) (tgt := 1514) (by decide) (law_c41 C v1 v2 v3 v4 v5 v6 hR hG hl nx)
        · exact lv_tableIn hx hb dL_law_33 (by decide) (by decide) (off := 1504) (by decide +kernel) (tgt := 1537) (by decide) (law_c42 C v1 v2 v3 v4 v5 v6 hR hG hl nx)
        · exact lv_tableIn hx hb dL_law_33 (by decide) (by decide) (off := 1517) (by decide +kernel) (tgt := 1550) (by decide) (law_c43 C v1 v2 v3 v4 v5 v6 hR hG hl nx)
        · exact lv_tableIn hx hb dL_law_33 (by decide) (by decide) (off := 1560) (by decide +kernel) (tgt := 1593) (by decide) (law_c44 C v1 v2 v3 v4 v5 v6 hR hG hl nx)
        · exact lv_tableIn hx hb dL_law_33 (by decide) (by decide) (off := 1573) (by decide +kernel) (tgt := 1606) (by decide) (law_c45 C v1 v2 v3 v4 v5 v6 hR hG hl nx)
        · exact lv_tableIn hx hb dL_law_33 (by decide) (by decide) (off := 1586) (by decide +kernel) (tgt := 1619) (by decide) (law_c46 C v1 v2 v3 v4 v5 v6 hR hG hl nx)
set_option maxRecDepth 100000 in
set_option maxHeartbeats 8000000 in
theorem whole_start {p : Program} {e : Env} {s : State} {m : MethodId} {below : List Frame} {meth : Method} {c : Code} (l : Launch) (hflags : l.flags = flags0) {b L : Nat} {xs : Nat → Int32} (hL : L ≤ 3584) (C0 : lw_At p s m meth c b L xs) : W p l e room_1 s m #[Value.ref b] below meth c s.heap [] 0 0 (lw_Z below #[Value.ref b] s) (entryFrame m ([Value.ref b] : List Value).toArray 4) := by
  obtain ⟨hx, hb, hr, hml, hown, hts0, hX, hbl, hlk, hgv⟩ := C0
  have hown : s.vm.findClass RL = some m.cls := hown
  have hts : ∀ w ∈ lw_g, w.before #[Value.ref b] s = true := fun w hw => hts0 w (lw_gt hw)
  have hN : nW s := fun w hw hn => by
    have h := hts0 w hw
    cases w <;> first | (cases hn; done) | exact va_Nw.of rfl h
  have hO : va_AO oC s := va_AO.of (hts0 _ qA_Country)
  have hA : ∀ q : Nat, s.heap.size ≤ q → (fun q : Nat => s.heap.size ≤ q) q := fun _ h => h
  obtain ⟨cI, kI, pI, i1, i2, i3⟩ := Cond.arrayClass_spec (hts _ qA_int)
  obtain ⟨pC, cC, kC, j1, j2, j3, j4, j5⟩ := Cond.arrayOver_spec hO
  obtain ⟨d0, f0, n0⟩ := u_known (C := RX1) (T := TX1) (N := 11) (n := 11) hts inX1 (hts _ qB_X1)
  obtain ⟨d1, f1, n1⟩ := u_known (C := RX3) (T := TX3) (N := 2) (n := 2) hts inX3 (hts _ qB_X3)
  obtain ⟨d2, f2, n2⟩ := u_known (C := RX4) (T := TX4) (N := 2) (n := 2) hts inX4 (hts _ qB_X4)
  obtain ⟨d3, f3, n3⟩ := u_known (C := RX5) (T := TX5) (N := 3) (n := 3) hts inX5 (hts _ qB_X5)
  obtain ⟨d4, f4, n4⟩ := u_known (C := RX6) (T := TX6) (N := 2) (n := 2) hts inX6 (hts _ qB_X6)
  obtain ⟨d5, f5, n5⟩ := u_known (C := RX7) (T := TX7) (N := 2) (n := 2) hts inX7 (hts _ qB_X7)
  obtain ⟨d6, f6, n6⟩ := u_known (C := RX8) (T := TX8) (N := 10) (n := 10) hts inX8 (hts _ qB_X8)
  obtain ⟨d7, f7, n7⟩ := u_known (C := RX9) (T := TX9) (N := 31) (n := 31) hts inX9 (hts _ qB_X9)
  obtain ⟨D, hKc⟩ : ∃ D : va_G, ∀ (k : Nat) (q : vw_C), vwCl[k]? = some q → u_Kn s q.1 q.2.1 q.2.2 (D.1 k) (D.2 k) := by
    refine ⟨(fun k => ([d0, d1, d2, d3, d4, d5, d6, d7] : List ClassId).getD k d0, fun k => ([f0, f1, f2, f3, f4, f5, f6, f7] : List (Nat → Nat)).getD k f0), ?_⟩
    intro k q hq
    match k, hq with
    | 0, hq => cases hq; exact n0
    | 1, hq => cases hq; exact n1
    | 2, hq => cases hq; exact n2
    | 3, hq => cases hq; exact n3
    | 4, hq => cases hq; exact n4
    | 5, hq => cases hq; exact n5
    | 6, hq => cases hq; exact n6
    | 7, hq => cases hq; exact n7
    | k + 8, hq => simp [vwCl] at hq
  obtain ⟨y0, hy0⟩ : ∃ y0 : Sy, y0 = (D, cI, cC, fun _ => 0) := ⟨_, rfl⟩
  have hK : ∀ f : Nat → Nat, va_K D vwCl (gT (D, cI, cC, f)) s := fun f => by
    refine ⟨hKc, fun k q hq => ?_⟩
    match k, hq with
    | 0, hq => cases hq; exact ⟨fun n z => ⟨fun k h => (by cases h), kI, i2, pI, i3⟩, i1⟩
    | 1, hq => cases hq; exact ⟨fun n z => ⟨fun k h => (by cases h), kC, j3, pC, j4⟩, kC, pC, j3, j4, j1, j5⟩
    | k + 2, hq => simp [gT] at hq
  have hK0 : va_K y0.1 vwCl (gT y0) s := by rw [hy0]; exact hK _
  have hS : va_S (fun q : Nat => s.heap.size ≤ q) s.heap s.heap [] := va_S.rf
  have hP : va_P y0.1 vwCl [] s.heap := fun k q h => by simp at h
  have hD : va_D (fun q : Nat => s.heap.size ≤ q) [] := ⟨fun i j p q h => by simp at h, fun k q h => by simp at h⟩
  have hl := lv_entry ([.ref b]) (n := 4) (Nat.le_of_ble_eq_true rfl)
  rw [lg_entry_eq]
  generalize (lg_sl ([.ref b]) ++ List.replicate (4 - (lg_sl ([.ref b])).length) Slot.unset).toArray = ls at hl ⊢
  have hl : lv_has ls 4 [(0, .ref b)] := hl
  refine va_new (ci := 6) (fs := [.null, .null, .null, .int 0, .null, .null, .null, .null, .null, .null]) (C := RX8) (T := TX8) (N := 10) hx hb hts inX8 tyX8 tyX8_ok hown (hts _ qL_L_7) (hts _ qB_X8) (hts _ qN_X8) hK0 hP hD hS hA rfl (fun j hj => by rcases (show j = 0 ∨ j = 1 ∨ j = 2 ∨ j = 3 ∨ j = 4 ∨ j = 5 ∨ j = 6 ∨ j = 7 ∨ j = 8 ∨ j = 9 by omega) with rfl | rfl | rfl | rfl | rfl | rfl | rfl | rfl | rfl | rfl <;> rfl) (Nat.le_of_ble_eq_true rfl) (Nat.le_of_ble_eq_true rfl) dL_law_0 (fun q0 H hP hD hS => ?_)
  refine lv_dup hx hb dL_law_3 rfl ?_
  have hF : ∀ q, va_A [(q0, .inr (6, [.null, .null, .null, .int 0, .null, .null, .null, .null, .null, .null]))] H.size q → s.heap.size ≤ q := fun q h => by
    rcases h with ⟨k, e, h⟩ | h
    · exact hD.right.2 k _ h
    · exact Nat.le_trans hS.1 h
  refine va_callv (va_runI (As := []) (rest := [.ref q0]) ⟨hx, hb, hml, hown, hts⟩ (c_X8_init l y0 q0 H.size) (cwI 0 hts (n_code qC_X8_init) rfl rfl rfl (hts _ qN_X8) (hts _ qM_L_9) (hts _ qI_X8_init) rfl hd_X8_init ⟨Nat.le_of_ble_eq_true rfl, Nat.le_of_ble_eq_true rfl⟩) ⟨nP_blind, fun U hU hW => ⟨rfl, by rw [hU], ⟨by rw [hU]; exact hP.right, va_K.moved hW.alike hK0, hD.right.weaken (fun _ _ _ _ => trivial)⟩, hN.warm hW, va_AO.moved hW.alike hO⟩⟩ rfl rfl hl.1 rfl (lv_room (Nat.le_of_ble_eq_true rfl)) dL_law_4 ⟨Nat.le_of_ble_eq_true rfl, Nat.le_of_ble_eq_true rfl⟩) hS (fun q _ h => hF q h) hF (fun u t H1 locs ht hvm hw hB hz hk hS => ?_)
  obtain ⟨hP1, -, hD1⟩ := hB
  rw [ht] at hP1
  obtain ⟨hP, hD⟩ := nn_tail hP hD hk hF hP1 hD1
  obtain ⟨a1, a2, a7, a9, q3, eq, q4, q41, q5, q51, q6, q8, q81, q9, bq, rfl⟩ := hw
  have hP : va_P y0.1 vwCl (xW y0 q0 a1 a2 a7 a9 q3 eq q4 q41 q5 q51 q6 q8 q81 q9 bq) H1 := hP
  have hD : va_D (fun q : Nat => s.heap.size ≤ q) (xW y0 q0 a1 a2 a7 a9 q3 eq q4 q41 q5 q51 q6 q8 q81 q9 bq) := hD
  clear hP1 hD1 hk hz hF ht hvm
  refine lv_astore_n (lv' := [(1, .ref q0), (0, .ref b)]) hx hb dL_law_7 rfl hl (Nat.le_of_ble_eq_true rfl) rfl (fun ls hl => ?_)
  refine va_new (ci := 7) (fs := [.null, .null, .null, .null, .null, .null, .null, .null, .int 0, .int 0, .int 0, .int 0, .null, .null, .null, .null, .int 0, .int 0, .int 0, .null, .int 0, .int 0, .int 0, .int 0, .null, .int 0, .int 0, .null, .null, .int 0, .int 0]) (C := RX9) (T := TX9) (N := 31) hx hb hts inX9 tyX9 tyX9_ok hown (hts _ qL_L_10) (hts _ qB_X9) (hts _ qN_X9) hK0 hP hD hS hA rfl (fun j hj => by rcases (show j = 0 ∨ j = 1 ∨ j = 2 ∨ j = 3 ∨ j = 4 ∨ j = 5 ∨ j = 6 ∨ j = 7 ∨ j = 8 ∨ j = 9 ∨ j = 10 ∨ j = 11 ∨ j = 12 ∨ j = 13 ∨ j = 14 ∨ j = 15 ∨ j = 16 ∨ j = 17 ∨ j = 18 ∨ j = 19 ∨ j = 20 ∨ j = 21 ∨ j = 22 ∨ j = 23 ∨ j = 24 ∨ j = 25 ∨ j = 26 ∨ j = 27 ∨ j = 28 ∨ j = 29 ∨ j = 30 by omega) with rfl | rfl | rfl | rfl | rfl | rfl | rfl | rfl | rfl | rfl | rfl | rfl | rfl | rfl | rfl | rfl | rfl | rfl | rfl | rfl | rfl | rfl | rfl | rfl | rfl | rfl | rfl | rfl | rfl | rfl | rfl <;> rfl) (Nat.le_of_ble_eq_true rfl) (Nat.le_of_ble_eq_true rfl) dL_law_8 (fun qm H hP hD hS => ?_)
  refine lv_dup hx hb dL_law_11 rfl ?_
  have hF : ∀ q, va_A [(qm, .inr (7, [.null, .null, .null, .null, .null, .null, .null, .null, .int 0, .int 0, .int 0, .int 0, .null, .null, .null, .null, .int 0, .int 0, .int 0, .null, .int 0, .int 0, .int 0, .int 0, .null, .int 0, .int 0, .null, .null, .int 0, .int 0]))] H.size q → s.heap.size ≤ q := fun q h => by
    rcases h with ⟨k, e, h⟩ | h
    · exact hD.right.2 k _ h
    · exact Nat.le_trans hS.1 h
  refine va_callv (va_runI (As := []) (rest := [.ref qm]) ⟨hx, hb, hml, hown, hts⟩ (c_X9_init l y0 qm H.size) (cwI 0 hts (n_code qC_X9_init) rfl rfl rfl (hts _ qN_X9) (hts _ qM_L_12) (hts _ qI_X9_init) rfl hd_X9_init ⟨Nat.le_of_ble_eq_true rfl, Nat.le_of_ble_eq_true rfl⟩) ⟨nP_blind, fun U hU hW => ⟨rfl, by rw [hU], ⟨by rw [hU]; exact hP.right, va_K.moved hW.alike hK0, hD.right.weaken (fun _ _ _ _ => trivial)⟩, hN.warm hW, va_AO.moved hW.alike hO⟩⟩ rfl rfl hl.1 rfl (lv_room (Nat.le_of_ble_eq_true rfl)) dL_law_12 ⟨Nat.le_of_ble_eq_true rfl, Nat.le_of_ble_eq_true rfl⟩) hS (fun q _ h => hF q h) hF (fun u t H1 locs ht hvm hw hB hz hk hS => ?_)
  obtain ⟨hP1, -, hD1⟩ := hB
  rw [ht] at hP1
  obtain ⟨hP, hD⟩ := nn_tail hP hD hk hF hP1 hD1
  obtain ⟨am, ham, rfl⟩ := hw
  rw [← ham]
  obtain ⟨ax, hax, hP, hD⟩ := gW_new q0 a1 a2 a7 a9 q3 eq q4 q41 q5 q51 q6 q8 q81 q9 bq hP hD
  rw [← hax] at hl
  clear hP1 hD1 hk hz hF ht hvm
  subst hy0
  have hG : gL (D, cI, cC, ax) (D, cI, cC, am) (fun _ _ => 0) (fun _ _ => 0) s H1 locs := ⟨hP.left, hP.right, hD.left, hD.right, fun i j hi hj => hD.apart (gW_at hi) (gW_at hj), hS⟩
  have C : Lw p s m meth c b L xs (D, cI, cC, ax) (D, cI, cC, am) := ⟨hx, hb, hr, hml, hown, hts, hX, hbl, hlk, hK _, hK _, hN⟩
  refine lv_astore_n (lv' := [(2, .ref (am 0)), (1, .ref (ax 0)), (0, .ref b)]) hx hb dL_law_15 rfl hl (Nat.le_of_ble_eq_true rfl) rfl (fun ls hl => ?_)
  refine lv_iconst (v := 0) hx hb dL_law_16 (by decide) ?_
  refine lv_istore_n (lv' := [(3, .int 0), (2, .ref (am 0)), (1, .ref (ax 0)), (0, .ref b)]) hx hb dL_law_17 rfl hl (Nat.le_of_ble_eq_true rfl) rfl (fun ls hl => ?_)
  refine W.widen (k := 600000) (n := 7302250) (Nat.le_of_ble_eq_true rfl) (Nat.le_of_ble_eq_true rfl) ?_
  exact law_loop hL C (L + 1) 0 (Nat.zero_le L) (by omega) _ _ R_new H1 locs hG ls (lv_sub hl [3, 2, 1, 0] rfl)
