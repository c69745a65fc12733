def w_X0_power_L5q (x0 : Int32) (x1 : Int32)  (K : Int64 → St → Prop) (c5 : Int64 → Int32 → St → Prop) (v2 : Int64) (v4 : Int32) (st : St) : Prop :=
  (x1 ≤ v4 → K v2 st) ∧ (¬ x1 ≤ v4 → c5 (v2 * ((x0).toInt64)) (v4 + 1) st)
def w_X0_power_L5 (x0 : Int32) (x1 : Int32)  (K : Int64 → St → Prop) : Nat → Int64 → Int32 → St → Prop
  | 0, _, _, _ => False
  | n + 1, v2, v4, st => w_X0_power_L5q x0 x1  K (fun v2 v4 st => w_X0_power_L5 x0 x1  K n v2 v4 st) v2 v4 st
def w_X0_power (x0 : Int32) (x1 : Int32) (st : St) (K : Int64 → St → Prop) : Prop :=
  ∃ n, w_X0_power_L5 x0 x1  K n 1 0 st
def w_J6_bitCount_0f7a4 (x0 : Int32) (st : St) (K : Int32 → St → Prop) : Prop :=
  K ((((((((x0 - (((x0.toUInt32 >>> ((1 : Int32).toUInt32 &&& Int32.toUInt32 31)).toInt32) &&& 1431655765)) &&& 858993459) + ((((x0 - (((x0.toUInt32 >>> ((1 : Int32).toUInt32 &&& Int32.toUInt32 31)).toInt32) &&& 1431655765)).toUInt32 >>> ((2 : Int32).toUInt32 &&& Int32.toUInt32 31)).toInt32) &&& 858993459)) + (((((x0 - (((x0.toUInt32 >>> ((1 : Int32).toUInt32 &&& Int32.toUInt32 31)).toInt32) &&& 1431655765)) &&& 858993459) + ((((x0 - (((x0.toUInt32 >>> ((1 : Int32).toUInt32 &&& Int32.toUInt32 31)).toInt32) &&& 1431655765)).toUInt32 >>> ((2 : Int32).toUInt32 &&& Int32.toUInt32 31)).toInt32) &&& 858993459)).toUInt32 >>> ((4 : Int32).toUInt32 &&& Int32.toUInt32 31)).toInt32)) &&& 252645135) + (((((((x0 - (((x0.toUInt32 >>> ((1 : Int32).toUInt32 &&& Int32.toUInt32 31)).toInt32) &&& 1431655765)) &&& 858993459) + ((((x0 - (((x0.toUInt32 >>> ((1 : Int32).toUInt32 &&& Int32.toUInt32 31)).toInt32) &&& 1431655765)).toUInt32 >>> ((2 : Int32).toUInt32 &&& Int32.toUInt32 31)).toInt32) &&& 858993459)) + (((((x0 - (((x0.toUInt32 >>> ((1 : Int32).toUInt32 &&& Int32.toUInt32 31)).toInt32) &&& 1431655765)) &&& 858993459) + ((((x0 - (((x0.toUInt32 >>> ((1 : Int32).toUInt32 &&& Int32.toUInt32 31)).toInt32) &&& 1431655765)).toUInt32 >>> ((2 : Int32).toUInt32 &&& Int32.toUInt32 31)).toInt32) &&& 858993459)).toUInt32 >>> ((4 : Int32).toUInt32 &&& Int32.toUInt32 31)).toInt32)) &&& 252645135).toUInt32 >>> ((8 : Int32).toUInt32 &&& Int32.toUInt32 31)).toInt32)) + ((((((((x0 - (((x0.toUInt32 >>> ((1 : Int32).toUInt32 &&& Int32.toUInt32 31)).toInt32) &&& 1431655765)) &&& 858993459) + ((((x0 - (((x0.toUInt32 >>> ((1 : Int32).toUInt32 &&& Int32.toUInt32 31)).toInt32) &&& 1431655765)).toUInt32 >>> ((2 : Int32).toUInt32 &&& Int32.toUInt32 31)).toInt32) &&& 858993459)) + (((((x0 - (((x0.toUInt32 >>> ((1 : Int32).toUInt32 &&& Int32.toUInt32 31)).toInt32) &&& 1431655765)) &&& 858993459) + ((((x0 - (((x0.toUInt32 >>> ((1 : Int32).toUInt32 &&& Int32.toUInt32 31)).toInt32) &&& 1431655765)).toUInt32 >>> ((2 : Int32).toUInt32 &&& Int32.toUInt32 31)).toInt32) &&& 858993459)).toUInt32 >>> ((4 : Int32).toUInt32 &&& Int32.toUInt32 31)).toInt32)) &&& 252645135) + (((((((x0 - (((x0.toUInt32 >>> ((1 : Int32).toUInt32 &&& Int32.toUInt32 31)).toInt32) &&& 1431655765)) &&& 858993459) + ((((x0 - (((x0.toUInt32 >>> ((1 : Int32).toUInt32 &&& Int32.toUInt32 31)).toInt32) &&& 1431655765)).toUInt32 >>> ((2 : Int32).toUInt32 &&& Int32.toUInt32 31)).toInt32) &&& 858993459)) + (((((x0 - (((x0.toUInt32 >>> ((1 : Int32).toUInt32 &&& Int32.toUInt32 31)).toInt32) &&& 1431655765)) &&& 858993459) + ((((x0 - (((x0.toUInt32 >>> ((1 : Int32).toUInt32 &&& Int32.toUInt32 31)).toInt32) &&& 1431655765)).toUInt32 >>> ((2 : Int32).toUInt32 &&& Int32.toUInt32 31)).toInt32) &&& 858993459)).toUInt32 >>> ((4 : Int32).toUInt32 &&& Int32.toUInt32 31)).toInt32)) &&& 252645135).toUInt32 >>> ((8 : Int32).toUInt32 &&& Int32.toUInt32 31)).toInt32)).toUInt32 >>> ((16 : Int32).toUInt32 &&& Int32.toUInt32 31)).toInt32)) &&& 63) st
def w_X0_ways_b38 (x0 : Int32) (x1 : Int32) (x2 : Int32) (c5 : Int64 → Int32 → St → Prop) (K : Int64 → St → Prop) (v3 : Int64) (v5 : Int32) (st : St) : Prop :=
  c5 v3 (v5 + 1) st
def w_X0_ways_L5q (x0 : Int32) (x1 : Int32) (x2 : Int32)  (K : Int64 → St → Prop) (c5 : Int64 → Int32 → St → Prop) (v3 : Int64) (v5 : Int32) (st : St) : Prop :=
  (((1 : Int32) <<< (x0 &&& 31)) ≤ v5 → K v3 st) ∧ (¬ ((1 : Int32) <<< (x0 &&& 31)) ≤ v5 → w_J6_bitCount_0f7a4 v5 st (fun r15 st15 => (r15 < x1 → w_X0_ways_b38 x0 x1 x2 c5 K v3 v5 st15) ∧ (¬ r15 < x1 → w_J6_bitCount_0f7a4 v5 st15 (fun r29 st29 => w_X0_power (x2 - 1) (x0 - r29) st29 (fun r33 st33 => w_X0_ways_b38 x0 x1 x2 c5 K (v3 + r33) v5 st33)))))
def w_X0_ways_L5 (x0 : Int32) (x1 : Int32) (x2 : Int32)  (K : Int64 → St → Prop) : Nat → Int64 → Int32 → St → Prop
  | 0, _, _, _ => False
  | n + 1, v3, v5, st => w_X0_ways_L5q x0 x1 x2  K (fun v3 v5 st => w_X0_ways_L5 x0 x1 x2  K n v3 v5 st) v3 v5 st
def w_X0_ways (x0 : Int32) (x1 : Int32) (x2 : Int32) (st : St) (K : Int64 → St → Prop) : Prop :=
  ∃ n, w_X0_ways_L5 x0 x1 x2  K n 0 0 st
def w_X0_commonDivisor_L9q (x0 : Int64) (x2 : Int64)  (K : Int64 → St → Prop) (c9 : Int64 → Int64 → Int32 → St → Prop) (v4 : Int64) (v6 : Int64) (v8 : Int32) (st : St) : Prop :=
  (100 ≤ v8 → K v4 st) ∧ (¬ 100 ≤ v8 → ((lg_cmp v6 0) = 0 → K v4 st) ∧ (¬ (lg_cmp v6 0) = 0 → ¬ v6 = 0 ∧ (c9 v6 (v4 - v4 / v6 * v6) (v8 + 1) st)))
def w_X0_commonDivisor_L9 (x0 : Int64) (x2 : Int64)  (K : Int64 → St → Prop) : Nat → Int64 → Int64 → Int32 → St → Prop
  | 0, _, _, _, _ => False
  | n + 1, v4, v6, v8, st => w_X0_commonDivisor_L9q x0 x2  K (fun v4 v6 v8 st => w_X0_commonDivisor_L9 x0 x2  K n v4 v6 v8 st) v4 v6 v8 st
def w_X0_commonDivisor (x0 : Int64) (x2 : Int64) (st : St) (K : Int64 → St → Prop) : Prop :=
  ∃ n, w_X0_commonDivisor_L9 x0 x2  K n x0 x2 0 st
def w_X0_part_b17 (x0 : Int64) (x2 : Int64) (x4 : Int32)  (K : Int64 → St → Prop) (v5 : Int64) (s0 : Int64) (st : St) : Prop :=
  ((lg_cmp v5 0) ≤ 0 → K s0 st) ∧ (¬ (lg_cmp v5 0) ≤ 0 → ¬ v5 = 0 ∧ (K (s0 / v5) st))
def w_X0_part (x0 : Int64) (x2 : Int64) (x4 : Int32) (st : St) (K : Int64 → St → Prop) : Prop :=
  w_X0_commonDivisor x0 x2 st (fun r2 st2 => (¬ x4 = 0 → w_X0_part_b17 x0 x2 x4  K r2 x2 st2) ∧ (x4 = 0 → w_X0_part_b17 x0 x2 x4  K r2 x0 st2))
def w_X8_copy (k0 : Nat) (n0 : Nat) (k1 : Nat) (n1 : Nat) (st : St) (K : St → Prop) : Prop :=
  (¬ (if (nI n1) < (nI n0) then (nI n1) else (nI n0)) < 0 ∧ ((if (nI n1) < (nI n0) then (nI n1) else (nI n0))).toNatClampNeg ≤ n0 ∧ ((if (nI n1) < (nI n0) then (nI n1) else (nI n0))).toNatClampNeg ≤ n1) ∧ (K (u1 st k1 (va_cpy (st k0) (st k1) 0 0 ((if (nI n1) < (nI n0) then (nI n1) else (nI n0))).toNatClampNeg)))
def w_J7_fill_53178_L5q (k0 : Nat) (n0 : Nat) (x1 : Int32)  (K : St → Prop) (c5 : Int32 → Int32 → St → Prop) (v2 : Int32) (v3 : Int32) (st : St) : Prop :=
  (v3 ≤ v2 → K st) ∧ (¬ v3 ≤ v2 → vp_in v2 n0 ∧ (c5 (v2 + 1) v3 (u2 st k0 (v2).toNatClampNeg x1)))
def w_J7_fill_53178_L5 (k0 : Nat) (n0 : Nat) (x1 : Int32)  (K : St → Prop) : Nat → Int32 → Int32 → St → Prop
  | 0, _, _, _ => False
  | n + 1, v2, v3, st => w_J7_fill_53178_L5q k0 n0 x1  K (fun v2 v3 st => w_J7_fill_53178_L5 k0 n0 x1  K n v2 v3 st) v2 v3 st
def w_J7_fill_53178 (k0 : Nat) (n0 : Nat) (x1 : Int32) (st : St) (K : St → Prop) : Prop :=
  ∃ n, w_J7_fill_53178_L5 k0 n0 x1  K n 0 (nI n0) st
def w_X1_become (k0 : Nat) (k1 : Nat) (st : St) (K : St → Prop) : Prop :=
  w_X8_copy (k1 + 1) 6 (k0 + 1) 6 st (fun st13 => w_X8_copy (k1 + 2) 6 (k0 + 2) 6 st13 (fun st24 => w_X8_copy (k1 + 3) 6 (k0 + 3) 6 st24 (fun st35 => w_X8_copy (k1 + 4) 36 (k0 + 4) 36 st35 (fun st46 => w_X8_copy (k1 + 5) 6 (k0 + 5) 6 st46 (fun st57 => w_X8_copy (k1 + 6) 6 (k0 + 6) 6 st57 (fun st68 => w_J7_fill_53178 (k0 + 7) 6 (-9) st68 (fun st77 => K (u2 (u2 (u2 (u2 st77 k0 7 (st77 k1 7)) k0 8 ((u2 st77 k0 7 (st77 k1 7)) k1 8)) k0 9 ((u2 (u2 st77 k0 7 (st77 k1 7)) k0 8 ((u2 st77 k0 7 (st77 k1 7)) k1 8)) k1 9)) k0 10 ((u2 (u2 (u2 st77 k0 7 (st77 k1 7)) k0 8 ((u2 st77 k0 7 (st77 k1 7)) k1 8)) k0 9 ((u2 (u2 st77 k0 7 (st77 k1 7)) k0 8 ((u2 st77 k0 7 (st77 k1 7)) k1 8)) k1 9)) k1 10)))))))))
def w_X1_keeperCount (k0 : Nat) (st : St) (K : Int32 → St → Prop) : Prop :=
  K (st k0 7) st
def w_X1_letterCount (k0 : Nat) (st : St) (K : Int32 → St → Prop) : Prop :=
  K (st k0 8) st
def w_X1_weekNow (k0 : Nat) (st : St) (K : Int32 → St → Prop) : Prop :=
  K (st k0 10) st
def w_X1_openBits (k0 : Nat) (st : St) (K : Int32 → St → Prop) : Prop :=
  K (st k0 9) st
def w_X1_openCount (k0 : Nat) (st : St) (K : Int32 → St → Prop) : Prop :=
  w_J6_bitCount_0f7a4 (st k0 9) st (fun r4 st4 => K r4 st4)
def w_X1_hasKeeper (k0 : Nat) (x1 : Int32) (st : St) (K : Int32 → St → Prop) : Prop :=
  (x1 < 0 → K 0 st) ∧ (¬ x1 < 0 → ((st k0 7) ≤ x1 → K 0 st) ∧ (¬ (st k0 7) ≤ x1 → K 1 st))
def w_X1_hasLetter (k0 : Nat) (x1 : Int32) (st : St) (K : Int32 → St → Prop) : Prop :=
  (x1 < 0 → K 0 st) ∧ (¬ x1 < 0 → ((st k0 8) ≤ x1 → K 0 st) ∧ (¬ (st k0 8) ≤ x1 → K 1 st))
def w_X1_areTwo (k0 : Nat) (x1 : Int32) (x2 : Int32) (st : St) (K : Int32 → St → Prop) : Prop :=
  w_X1_hasKeeper k0 x1 st (fun r2 st2 => (r2 = 0 → K 0 st2) ∧ (¬ r2 = 0 → w_X1_hasKeeper k0 x2 st2 (fun r10 st10 => (r10 = 0 → K 0 st10) ∧ (¬ r10 = 0 → (x1 = x2 → K 0 st10) ∧ (¬ x1 = x2 → K 1 st10)))))
def w_X8_at (k0 : Nat) (n0 : Nat) (x1 : Int32) (st : St) (K : Int32 → St → Prop) : Prop :=
  (x1 < 0 → K 0 st) ∧ (¬ x1 < 0 → ((nI n0) ≤ x1 → K 0 st) ∧ (¬ (nI n0) ≤ x1 → vp_in x1 n0 ∧ (K (st k0 (x1).toNatClampNeg) st)))
def w_X1_areBothIn (k0 : Nat) (x1 : Int32) (x2 : Int32) (x3 : Int32) (st : St) (K : Int32 → St → Prop) : Prop :=
  w_X8_at (k0 + 3) 6 x2 st (fun r5 st5 => (¬ r5 = x1 → K 0 st5) ∧ (r5 = x1 → w_X8_at (k0 + 3) 6 x3 st5 (fun r17 st17 => (¬ r17 = x1 → K 0 st17) ∧ (r17 = x1 → K 1 st17))))
def w_X1_hasKeeperRoom (k0 : Nat) (st : St) (K : Int32 → St → Prop) : Prop :=
  (6 ≤ (st k0 7) → K 0 st) ∧ (¬ 6 ≤ (st k0 7) → K 1 st)
def w_X1_hasLetterRoom (k0 : Nat) (st : St) (K : Int32 → St → Prop) : Prop :=
  (6 ≤ (st k0 8) → K 0 st) ∧ (¬ 6 ≤ (st k0 8) → K 1 st)
def w_X1_kindOf (k0 : Nat) (x1 : Int32) (st : St) (K : Int32 → St → Prop) : Prop :=
  w_X8_at (k0 + 1) 6 x1 st (fun r5 st5 => K r5 st5)
def w_X1_figureOf (k0 : Nat) (x1 : Int32) (st : St) (K : Int32 → St → Prop) : Prop :=
  w_X8_at (k0 + 2) 6 x1 st (fun r5 st5 => K r5 st5)
def w_X1_townOf (k0 : Nat) (x1 : Int32) (st : St) (K : Int32 → St → Prop) : Prop :=
  w_X8_at (k0 + 3) 6 x1 st (fun r5 st5 => K r5 st5)
def w_X2_fading (x0 : Int32) (x1 : Int32) (st : St) (K : Int32 → St → Prop) : Prop :=
  (x0 = 1 → K 0 st) ∧ (¬ x0 = 1 → (x0 = 2 → K 2 st) ∧ (¬ x0 = 2 → (x0 = 3 → K ((x1 / 2) + 1) st) ∧ (¬ x0 = 3 → (x0 = 4 → K 0 st) ∧ (¬ x0 = 4 → (x0 = 5 → K 3 st) ∧ (¬ x0 = 5 → K 1 st)))))
def w_X1_fadeOf (k0 : Nat) (x1 : Int32) (st : St) (K : Int32 → St → Prop) : Prop :=
  w_X8_at (k0 + 1) 6 x1 st (fun r5 st5 => w_X8_at (k0 + 2) 6 x1 st5 (fun r13 st13 => w_X2_fading r5 r13 st13 (fun r16 st16 => K r16 st16)))
def w_X2_stirring (x0 : Int32) (x1 : Int32) (st : St) (K : Int32 → St → Prop) : Prop :=
  (x0 = 1 → K 1 st) ∧ (¬ x0 = 1 → (x0 = 4 → K (1 + (x1 / 4)) st) ∧ (¬ x0 = 4 → K 0 st))
def w_X1_stirOf (k0 : Nat) (x1 : Int32) (st : St) (K : Int32 → St → Prop) : Prop :=
  w_X8_at (k0 + 1) 6 x1 st (fun r5 st5 => w_X8_at (k0 + 2) 6 x1 st5 (fun r13 st13 => w_X2_stirring r5 r13 st13 (fun r16 st16 => K r16 st16)))
def w_X2_wage (x0 : Int32) (x1 : Int32) (st : St) (K : Int32 → St → Prop) : Prop :=
  (x0 = 1 → K (2 * (x1 + 1)) st) ∧ (¬ x0 = 1 → (x0 = 2 → K 5 st) ∧ (¬ x0 = 2 → (x0 = 3 → K 0 st) ∧ (¬ x0 = 3 → (x0 = 4 → K ((2 * (x1 + 1)) - 1) st) ∧ (¬ x0 = 4 → (x0 = 5 → K 2 st) ∧ (¬ x0 = 5 → K (x1 + 1) st)))))
def w_X1_wageOf (k0 : Nat) (x1 : Int32) (st : St) (K : Int32 → St → Prop) : Prop :=
  w_X8_at (k0 + 1) 6 x1 st (fun r5 st5 => w_X8_at (k0 + 2) 6 x1 st5 (fun r13 st13 => w_X2_wage r5 r13 st13 (fun r16 st16 => K r16 st16)))
def w_X1_depthOf (k0 : Nat) (x1 : Int32) (st : St) (K : Int32 → St → Prop) : Prop :=
  w_X8_at (k0 + 5) 6 x1 st (fun r5 st5 => K r5 st5)
def w_X1_letterTownOf (k0 : Nat) (x1 : Int32) (st : St) (K : Int32 → St → Prop) : Prop :=
  w_X8_at (k0 + 6) 6 x1 st (fun r5 st5 => K r5 st5)
def w_X8_bit (x0 : Int32) (x1 : Int32) (st : St) (K : Int32 → St → Prop) : Prop :=
  (x1 < 0 → K 0 st) ∧ (¬ x1 < 0 → (31 ≤ x1 → K 0 st) ∧ (¬ 31 ≤ x1 → K ((x0 >>> (x1 &&& 31)) &&& 1) st))
def w_X1_isOpen (k0 : Nat) (x1 : Int32) (st : St) (K : Int32 → St → Prop) : Prop :=
  w_X8_bit (st k0 9) x1 st (fun r5 st5 => (¬ r5 = 1 → K 0 st5) ∧ (r5 = 1 → K 1 st5))
def w_X1_openedBy (k0 : Nat) (x1 : Int32) (st : St) (K : Int32 → St → Prop) : Prop :=
  w_X8_at (k0 + 7) 6 x1 st (fun r5 st5 => K r5 st5)
def w_X1_hateOf (k0 : Nat) (x1 : Int32) (x2 : Int32) (st : St) (K : Int32 → St → Prop) : Prop :=
  w_X8_at (k0 + 4) 36 (((if x2 < x1 then x2 else x1) * 6) + (if x1 < x2 then x2 else x1)) st (fun r18 st18 => K r18 st18)
def w_X1_allHate_b39 (k0 : Nat) (c4 : Int32 → Int32 → St → Prop) (K : Int32 → St → Prop) (v1 : Int32) (v2 : Int32) (st : St) : Prop :=
  c4 v1 (v2 + 1) st
def w_X1_allHate_L16q (k0 : Nat) (c4 : Int32 → Int32 → St → Prop) (K : Int32 → St → Prop) (c16 : Int32 → Int32 → Int32 → St → Prop) (v1 : Int32) (v2 : Int32) (v3 : Int32) (st : St) : Prop :=
  ((st k0 7) ≤ v3 → w_X1_allHate_b39 k0 c4 K v1 v2 st) ∧ (¬ (st k0 7) ≤ v3 → w_X1_hateOf k0 v2 v3 st (fun r28 st28 => c16 (v1 + r28) v2 (v3 + 1) st28))
def w_X1_allHate_L16 (k0 : Nat) (c4 : Int32 → Int32 → St → Prop) (K : Int32 → St → Prop) : Nat → Int32 → Int32 → Int32 → St → Prop
  | 0, _, _, _, _ => False
  | n + 1, v1, v2, v3, st => w_X1_allHate_L16q k0 c4 K (fun v1 v2 v3 st => w_X1_allHate_L16 k0 c4 K n v1 v2 v3 st) v1 v2 v3 st
def w_X1_allHate_L4q (k0 : Nat)  (K : Int32 → St → Prop) (c4 : Int32 → Int32 → St → Prop) (v1 : Int32) (v2 : Int32) (st : St) : Prop :=
  ((st k0 7) ≤ v2 → K v1 st) ∧ (¬ (st k0 7) ≤ v2 → ∃ n, w_X1_allHate_L16 k0 c4 K n v1 v2 (v2 + 1) st)
def w_X1_allHate_L4 (k0 : Nat)  (K : Int32 → St → Prop) : Nat → Int32 → Int32 → St → Prop
  | 0, _, _, _ => False
  | n + 1, v1, v2, st => w_X1_allHate_L4q k0  K (fun v1 v2 st => w_X1_allHate_L4 k0  K n v1 v2 st) v1 v2 st
def w_X1_allHate (k0 : Nat) (st : St) (K : Int32 → St → Prop) : Prop :=
  ∃ n, w_X1_allHate_L4 k0  K n 0 0 st
def w_X8_put (k0 : Nat) (n0 : Nat) (x1 : Int32) (x2 : Int32) (st : St) (K : St → Prop) : Prop :=
  (x1 < 0 → K st) ∧ (¬ x1 < 0 → ((nI n0) ≤ x1 → K st) ∧ (¬ (nI n0) ≤ x1 → vp_in x1 n0 ∧ (K (u2 st k0 (x1).toNatClampNeg x2))))
def w_X1_setHate (k0 : Nat) (x1 : Int32) (x2 : Int32) (x3 : Int32) (st : St) (K : St → Prop) : Prop :=
  w_X8_put (k0 + 4) 36 (((if x2 < x1 then x2 else x1) * 6) + (if x1 < x2 then x2 else x1)) (if 0 < (if x3 < 99 then x3 else 99) then (if x3 < 99 then x3 else 99) else 0) st (fun st32 => K st32)
def w_X1_addKeeper_b62 (k0 : Nat) (x1 : Int32) (x2 : Int32) (x3 : Int32)  (K : Int32 → St → Prop) (v4 : Int32) (st : St) : Prop :=
  K v4 (u2 st k0 7 ((st k0 7) + 1))
def w_X1_addKeeper_L39q (k0 : Nat) (x1 : Int32) (x2 : Int32) (x3 : Int32)  (K : Int32 → St → Prop) (c39 : Int32 → Int32 → St → Prop) (v4 : Int32) (v5 : Int32) (st : St) : Prop :=
  (v4 ≤ v5 → w_X1_addKeeper_b62 k0 x1 x2 x3  K v4 st) ∧ (¬ v4 ≤ v5 → w_X1_setHate k0 v5 v4 20 st (fun st53 => c39 v4 (v5 + 1) st53))
def w_X1_addKeeper_L39 (k0 : Nat) (x1 : Int32) (x2 : Int32) (x3 : Int32)  (K : Int32 → St → Prop) : Nat → Int32 → Int32 → St → Prop
  | 0, _, _, _ => False
  | n + 1, v4, v5, st => w_X1_addKeeper_L39q k0 x1 x2 x3  K (fun v4 v5 st => w_X1_addKeeper_L39 k0 x1 x2 x3  K n v4 v5 st) v4 v5 st
def w_X1_addKeeper (k0 : Nat) (x1 : Int32) (x2 : Int32) (x3 : Int32) (st : St) (K : Int32 → St → Prop) : Prop :=
  w_X8_put (k0 + 1) 6 (st k0 7) x1 st (fun st13 => w_X8_put (k0 + 2) 6 (st k0 7) x2 st13 (fun st23 => w_X8_put (k0 + 3) 6 (st k0 7) x3 st23 (fun st33 => ∃ n, w_X1_addKeeper_L39 k0 x1 x2 x3  K n (st k0 7) 0 st33)))
def w_X1_addLetter (k0 : Nat) (x1 : Int32) (x2 : Int32) (st : St) (K : Int32 → St → Prop) : Prop :=
  w_X8_put (k0 + 5) 6 (st k0 8) x2 st (fun st11 => w_X8_put (k0 + 6) 6 (st k0 8) x1 st11 (fun st20 => K (st k0 8) (u2 st20 k0 8 ((st20 k0 8) + 1))))
def w_X1_setKind (k0 : Nat) (x1 : Int32) (x2 : Int32) (st : St) (K : St → Prop) : Prop :=
  w_X8_put (k0 + 1) 6 x1 x2 st (fun st6 => K st6)
def w_X1_setFigure (k0 : Nat) (x1 : Int32) (x2 : Int32) (st : St) (K : St → Prop) : Prop :=
  w_X8_put (k0 + 2) 6 x1 x2 st (fun st6 => K st6)
def w_X1_move (k0 : Nat) (x1 : Int32) (x2 : Int32) (st : St) (K : St → Prop) : Prop :=
  w_X8_put (k0 + 3) 6 x1 x2 st (fun st6 => K st6)
def w_X1_turnSeal (k0 : Nat) (x1 : Int32) (st : St) (K : St → Prop) : Prop :=
  w_X1_hasLetter k0 x1 st (fun r2 st2 => (r2 = 0 → K st2) ∧ (¬ r2 = 0 → K (u2 st2 k0 9 ((st2 k0 9) ^^^ ((1 : Int32) <<< (x1 &&& 31))))))
def w_X8_twoName (x0 : Int32) (x1 : Int32) (st : St) (K : Int32 → St → Prop) : Prop :=
  K ((10 * (if x1 < x0 then x1 else x0)) + (if x0 < x1 then x1 else x0)) st
def w_X1_opener_b106 (k0 : Nat) (x1 : Int32) (c29 : Int32 → Int32 → Int32 → Int32 → Int32 → St → Prop) (c44 : Int32 → Int32 → Int32 → Int32 → Int32 → Int32 → St → Prop) (K : Int32 → St → Prop) (v2 : Int32) (v3 : Int32) (v4 : Int32) (v5 : Int32) (v6 : Int32) (v7 : Int32) (st : St) : Prop :=
  c44 v2 v3 v4 v5 v6 (v7 + 1) st
def w_X1_opener_b78 (k0 : Nat) (x1 : Int32) (c29 : Int32 → Int32 → Int32 → Int32 → Int32 → St → Prop) (c44 : Int32 → Int32 → Int32 → Int32 → Int32 → Int32 → St → Prop) (K : Int32 → St → Prop) (v2 : Int32) (v3 : Int32) (v4 : Int32) (v5 : Int32) (v6 : Int32) (v7 : Int32) (s0 : Int32) (st : St) : Prop :=
  (s0 < v3 → w_X1_opener_b106 k0 x1 c29 c44 K v2 v3 v4 v5 v6 v7 st) ∧ (¬ s0 < v3 → (v5 ≤ s0 → w_X1_opener_b106 k0 x1 c29 c44 K v2 v3 v4 v5 v6 v7 st) ∧ (¬ v5 ≤ s0 → w_X8_twoName v6 v7 st (fun r97 st97 => w_X1_opener_b106 k0 x1 c29 c44 K v2 v3 r97 s0 v6 v7 st97)))
def w_X1_opener_b112 (k0 : Nat) (x1 : Int32) (c29 : Int32 → Int32 → Int32 → Int32 → Int32 → St → Prop) (K : Int32 → St → Prop) (v2 : Int32) (v3 : Int32) (v4 : Int32) (v5 : Int32) (v6 : Int32) (st : St) : Prop :=
  c29 v2 v3 v4 v5 (v6 + 1) st
def w_X1_opener_L44q (k0 : Nat) (x1 : Int32) (c29 : Int32 → Int32 → Int32 → Int32 → Int32 → St → Prop) (K : Int32 → St → Prop) (c44 : Int32 → Int32 → Int32 → Int32 → Int32 → Int32 → St → Prop) (v2 : Int32) (v3 : Int32) (v4 : Int32) (v5 : Int32) (v6 : Int32) (v7 : Int32) (st : St) : Prop :=
  ((st k0 7) ≤ v7 → w_X1_opener_b112 k0 x1 c29 K v2 v3 v4 v5 v6 st) ∧ (¬ (st k0 7) ≤ v7 → w_X1_areBothIn k0 v2 v6 v7 st (fun r59 st59 => (r59 = 0 → w_X1_opener_b78 k0 x1 c29 c44 K v2 v3 v4 v5 v6 v7 (-9) st59) ∧ (¬ r59 = 0 → w_X1_hateOf k0 v6 v7 st59 (fun r70 st70 => w_X1_opener_b78 k0 x1 c29 c44 K v2 v3 v4 v5 v6 v7 r70 st70))))
def w_X1_opener_L44 (k0 : Nat) (x1 : Int32) (c29 : Int32 → Int32 → Int32 → Int32 → Int32 → St → Prop) (K : Int32 → St → Prop) : Nat → Int32 → Int32 → Int32 → Int32 → Int32 → Int32 → St → Prop
  | 0, _, _, _, _, _, _, _ => False
  | n + 1, v2, v3, v4, v5, v6, v7, st => w_X1_opener_L44q k0 x1 c29 K (fun v2 v3 v4 v5 v6 v7 st => w_X1_opener_L44 k0 x1 c29 K n v2 v3 v4 v5 v6 v7 st) v2 v3 v4 v5 v6 v7 st
def w_X1_opener_L29q (k0 : Nat) (x1 : Int32)  (K : Int32 → St → Prop) (c29 : Int32 → Int32 → Int32 → Int32 → Int32 → St → Prop) (v2 : Int32) (v3 : Int32) (v4 : Int32) (v5 : Int32) (v6 : Int32) (st : St) : Prop :=
  ((st k0 7) ≤ v6 → K v4 st) ∧ (¬ (st k0 7) ≤ v6 → ∃ n, w_X1_opener_L44 k0 x1 c29 K n v2 v3 v4 v5 v6 (v6 + 1) st)
def w_X1_opener_L29 (k0 : Nat) (x1 : Int32)  (K : Int32 → St → Prop) : Nat → Int32 → Int32 → Int32 → Int32 → Int32 → St → Prop
  | 0, _, _, _, _, _, _ => False
  | n + 1, v2, v3, v4, v5, v6, st => w_X1_opener_L29q k0 x1  K (fun v2 v3 v4 v5 v6 st => w_X1_opener_L29 k0 x1  K n v2 v3 v4 v5 v6 st) v2 v3 v4 v5 v6 st
def w_X1_opener (k0 : Nat) (x1 : Int32) (st : St) (K : Int32 → St → Prop) : Prop :=
  w_X8_at (k0 + 6) 6 x1 st (fun r5 st5 => w_X8_at (k0 + 5) 6 x1 st5 (fun r14 st14 => ∃ n, w_X1_opener_L29 k0 x1  K n r5 r14 (-9) 100 0 st14))
def w_X1_change (k0 : Nat) (x1 : Int32) (x2 : Int32) (st : St) (K : Int32 → St → Prop) : Prop :=
  w_X8_at (k0 + 3) 6 x1 st (fun r5 st5 => w_X8_at (k0 + 3) 6 x2 st5 (fun r14 st14 => (r5 = (-1) → K 0 st14) ∧ (¬ r5 = (-1) → (¬ r14 = (-1) → (¬ r5 = r14 → w_X1_stirOf k0 x1 st14 (fun r55 st55 => w_X1_stirOf k0 x2 st55 (fun r60 st60 => K (r55 + r60) st60))) ∧ (r5 = r14 → w_X1_fadeOf k0 x1 st14 (fun r40 st40 => w_X1_fadeOf k0 x2 st40 (fun r46 st46 => K ((-r40) - r46) st46)))) ∧ (r14 = (-1) → K 0 st14))))
def w_X1_passWeek_b57 (k0 : Nat) (c12 : Int32 → St → Prop) (K : Int32 → St → Prop) (v1 : Int32) (st : St) : Prop :=
  c12 (v1 + 1) st
def w_X1_passWeek_L24q (k0 : Nat) (c12 : Int32 → St → Prop) (K : Int32 → St → Prop) (c24 : Int32 → Int32 → St → Prop) (v1 : Int32) (v2 : Int32) (st : St) : Prop :=
  ((st k0 7) ≤ v2 → w_X1_passWeek_b57 k0 c12 K v1 st) ∧ (¬ (st k0 7) ≤ v2 → w_X1_hateOf k0 v1 v2 st (fun r38 st38 => w_X1_change k0 v1 v2 st38 (fun r44 st44 => w_X1_setHate k0 v1 v2 (r38 + r44) st44 (fun st48 => c24 v1 (v2 + 1) st48))))
def w_X1_passWeek_L24 (k0 : Nat) (c12 : Int32 → St → Prop) (K : Int32 → St → Prop) : Nat → Int32 → Int32 → St → Prop
  | 0, _, _, _ => False
  | n + 1, v1, v2, st => w_X1_passWeek_L24q k0 c12 K (fun v1 v2 st => w_X1_passWeek_L24 k0 c12 K n v1 v2 st) v1 v2 st
def w_X1_passWeek_b153 (k0 : Nat) (c67 : Int32 → Int32 → St → Prop) (K : Int32 → St → Prop) (v1 : Int32) (v2 : Int32) (st : St) : Prop :=
  c67 v1 (v2 + 1) st
def w_X1_passWeek_b93 (k0 : Nat) (c67 : Int32 → Int32 → St → Prop) (K : Int32 → St → Prop) (v1 : Int32) (v2 : Int32) (s0 : Int32) (st : St) : Prop :=
  (s0 = (-9) → w_X1_passWeek_b153 k0 c67 K v1 v2 st) ∧ (¬ s0 = (-9) → w_X8_put (k0 + 7) 6 v2 s0 (u2 st k0 9 ((st k0 9) ||| ((1 : Int32) <<< (v2 &&& 31)))) (fun st124 => w_X1_hateOf k0 (s0 / 10) (s0 - s0 / 10 * 10) st124 (fun r145 st145 => w_X1_setHate k0 (s0 / 10) (s0 - s0 / 10 * 10) (r145 - 5) st145 (fun st150 => w_X1_passWeek_b153 k0 c67 K (v1 ||| ((1 : Int32) <<< (v2 &&& 31))) v2 st150))))
def w_X1_passWeek_L67q (k0 : Nat)  (K : Int32 → St → Prop) (c67 : Int32 → Int32 → St → Prop) (v1 : Int32) (v2 : Int32) (st : St) : Prop :=
  ((st k0 8) ≤ v2 → K v1 st) ∧ (¬ (st k0 8) ≤ v2 → w_X1_isOpen k0 v2 st (fun r77 st77 => (r77 = 0 → w_X1_opener k0 v2 st77 (fun r90 st90 => w_X1_passWeek_b93 k0 c67 K v1 v2 r90 st90)) ∧ (¬ r77 = 0 → w_X1_passWeek_b93 k0 c67 K v1 v2 (-9) st77)))
def w_X1_passWeek_L67 (k0 : Nat)  (K : Int32 → St → Prop) : Nat → Int32 → Int32 → St → Prop
  | 0, _, _, _ => False
  | n + 1, v1, v2, st => w_X1_passWeek_L67q k0  K (fun v1 v2 st => w_X1_passWeek_L67 k0  K n v1 v2 st) v1 v2 st
def w_X1_passWeek_b63 (k0 : Nat)  (K : Int32 → St → Prop)  (st : St) : Prop :=
  ∃ n, w_X1_passWeek_L67 k0  K n 0 0 st
def w_X1_passWeek_L12q (k0 : Nat)  (K : Int32 → St → Prop) (c12 : Int32 → St → Prop) (v1 : Int32) (st : St) : Prop :=
  ((st k0 7) ≤ v1 → w_X1_passWeek_b63 k0  K st) ∧ (¬ (st k0 7) ≤ v1 → ∃ n, w_X1_passWeek_L24 k0 c12 K n v1 (v1 + 1) st)
def w_X1_passWeek_L12 (k0 : Nat)  (K : Int32 → St → Prop) : Nat → Int32 → St → Prop
  | 0, _, _ => False
  | n + 1, v1, st => w_X1_passWeek_L12q k0  K (fun v1 st => w_X1_passWeek_L12 k0  K n v1 st) v1 st
def w_X1_passWeek (k0 : Nat) (st : St) (K : Int32 → St → Prop) : Prop :=
  ∃ n, w_X1_passWeek_L12 k0  K n 0 (u2 st k0 10 ((st k0 10) + 1))
def w_X1_passWeeks_b18 (k0 : Nat) (x1 : Int32)  (K : Int32 → St → Prop)  (st : St) : Prop :=
  w_X1_openCount k0 st (fun r19 st19 => K r19 st19)
def w_X1_passWeeks_L2q (k0 : Nat) (x1 : Int32)  (K : Int32 → St → Prop) (c2 : Int32 → St → Prop) (v2 : Int32) (st : St) : Prop :=
  (x1 ≤ v2 → w_X1_passWeeks_b18 k0 x1  K st) ∧ (¬ x1 ≤ v2 → w_X1_passWeek k0 st (fun r8 st8 => c2 (v2 + 1) st8))
def w_X1_passWeeks_L2 (k0 : Nat) (x1 : Int32)  (K : Int32 → St → Prop) : Nat → Int32 → St → Prop
  | 0, _, _ => False
  | n + 1, v2, st => w_X1_passWeeks_L2q k0 x1  K (fun v2 st => w_X1_passWeeks_L2 k0 x1  K n v2 st) v2 st
def w_X1_passWeeks (k0 : Nat) (x1 : Int32) (st : St) (K : Int32 → St → Prop) : Prop :=
  ∃ n, w_X1_passWeeks_L2 k0 x1  K n 0 st
def w_X3_keepersIn_b38 (x1 : Int32) (c4 : Int32 → Int32 → St → Prop) (K : Int32 → St → Prop) (v2 : Int32) (v3 : Int32) (st : St) : Prop :=
  c4 v2 (v3 + 1) st
def w_X3_keepersIn_b32 (x1 : Int32) (c4 : Int32 → Int32 → St → Prop) (K : Int32 → St → Prop) (v2 : Int32) (v3 : Int32) (st : St) : Prop :=
  w_X3_keepersIn_b38 x1 c4 K (v2 ||| ((1 : Int32) <<< (v3 &&& 31))) v3 st
def w_X3_keepersIn_L4q (x1 : Int32)  (K : Int32 → St → Prop) (c4 : Int32 → Int32 → St → Prop) (v2 : Int32) (v3 : Int32) (st : St) : Prop :=
  w_X1_keeperCount 11 st (fun r9 st9 => (r9 ≤ v3 → K v2 st9) ∧ (¬ r9 ≤ v3 → (x1 = (-1) → w_X3_keepersIn_b32 x1 c4 K v2 v3 st9) ∧ (¬ x1 = (-1) → w_X1_townOf 11 v3 st9 (fun r25 st25 => (¬ r25 = x1 → w_X3_keepersIn_b38 x1 c4 K v2 v3 st25) ∧ (r25 = x1 → w_X3_keepersIn_b32 x1 c4 K v2 v3 st25)))))
def w_X3_keepersIn_L4 (x1 : Int32)  (K : Int32 → St → Prop) : Nat → Int32 → Int32 → St → Prop
  | 0, _, _, _ => False
  | n + 1, v2, v3, st => w_X3_keepersIn_L4q x1  K (fun v2 v3 st => w_X3_keepersIn_L4 x1  K n v2 v3 st) v2 v3 st
def w_X3_keepersIn (x1 : Int32) (st : St) (K : Int32 → St → Prop) : Prop :=
  ∃ n, w_X3_keepersIn_L4 x1  K n 0 0 st
def w_X3_wages_b35 (x1 : Int32) (c4 : Int32 → Int32 → St → Prop) (K : Int32 → St → Prop) (v2 : Int32) (v3 : Int32) (st : St) : Prop :=
  c4 v2 (v3 + 1) st
def w_X3_wages_L4q (x1 : Int32)  (K : Int32 → St → Prop) (c4 : Int32 → Int32 → St → Prop) (v2 : Int32) (v3 : Int32) (st : St) : Prop :=
  w_X1_keeperCount 11 st (fun r9 st9 => (r9 ≤ v3 → K v2 st9) ∧ (¬ r9 ≤ v3 → w_X8_bit x1 v3 st9 (fun r17 st17 => (¬ r17 = 1 → w_X3_wages_b35 x1 c4 K v2 v3 st17) ∧ (r17 = 1 → w_X1_wageOf 11 v3 st17 (fun r30 st30 => w_X3_wages_b35 x1 c4 K (v2 + r30) v3 st30)))))
def w_X3_wages_L4 (x1 : Int32)  (K : Int32 → St → Prop) : Nat → Int32 → Int32 → St → Prop
  | 0, _, _, _ => False
  | n + 1, v2, v3, st => w_X3_wages_L4q x1  K (fun v2 v3 st => w_X3_wages_L4 x1  K n v2 v3 st) v2 v3 st
def w_X3_wages (x1 : Int32) (st : St) (K : Int32 → St → Prop) : Prop :=
  ∃ n, w_X3_wages_L4 x1  K n 0 0 st
def w_X3_crowd (x1 : Int32) (st : St) (K : Int32 → St → Prop) : Prop :=
  w_X3_keepersIn x1 st (fun r2 st2 => w_J6_bitCount_0f7a4 r2 st2 (fun r5 st5 => K r5 st5))
def w_X3_townOfMost_b24  (c4 : Int32 → Int32 → St → Prop) (K : Int32 → St → Prop) (v1 : Int32) (v2 : Int32) (st : St) : Prop :=
  c4 v1 (v2 + 1) st
def w_X3_townOfMost_L4q   (K : Int32 → St → Prop) (c4 : Int32 → Int32 → St → Prop) (v1 : Int32) (v2 : Int32) (st : St) : Prop :=
  (4 ≤ v2 → K v1 st) ∧ (¬ 4 ≤ v2 → w_X3_crowd v2 st (fun r11 st11 => w_X3_crowd v1 st11 (fun r16 st16 => (r11 ≤ r16 → w_X3_townOfMost_b24  c4 K v1 v2 st16) ∧ (¬ r11 ≤ r16 → w_X3_townOfMost_b24  c4 K v2 v2 st16))))
def w_X3_townOfMost_L4   (K : Int32 → St → Prop) : Nat → Int32 → Int32 → St → Prop
  | 0, _, _, _ => False
  | n + 1, v1, v2, st => w_X3_townOfMost_L4q   K (fun v1 v2 st => w_X3_townOfMost_L4   K n v1 v2 st) v1 v2 st
def w_X3_townOfMost  (st : St) (K : Int32 → St → Prop) : Prop :=
  ∃ n, w_X3_townOfMost_L4   K n 0 1 st
def w_X3_mostHateIn_b62 (x1 : Int32) (c5 : Int32 → Int32 → St → Prop) (c21 : Int32 → Int32 → Int32 → St → Prop) (K : Int32 → St → Prop) (v2 : Int32) (v3 : Int32) (v4 : Int32) (st : St) : Prop :=
  c21 v2 v3 (v4 + 1) st
def w_X3_mostHateIn_b68 (x1 : Int32) (c5 : Int32 → Int32 → St → Prop) (K : Int32 → St → Prop) (v2 : Int32) (v3 : Int32) (st : St) : Prop :=
  c5 v2 (v3 + 1) st
def w_X3_mostHateIn_L21q (x1 : Int32) (c5 : Int32 → Int32 → St → Prop) (K : Int32 → St → Prop) (c21 : Int32 → Int32 → Int32 → St → Prop) (v2 : Int32) (v3 : Int32) (v4 : Int32) (st : St) : Prop :=
  w_X1_keeperCount 11 st (fun r27 st27 => (r27 ≤ v4 → w_X3_mostHateIn_b68 x1 c5 K v2 v3 st27) ∧ (¬ r27 ≤ v4 → w_X1_areBothIn 11 x1 v3 v4 st27 (fun r41 st41 => (r41 = 0 → w_X3_mostHateIn_b62 x1 c5 c21 K v2 v3 v4 st41) ∧ (¬ r41 = 0 → w_X1_hateOf 11 v3 v4 st41 (fun r55 st55 => w_X3_mostHateIn_b62 x1 c5 c21 K (if v2 < r55 then r55 else v2) v3 v4 st55)))))
def w_X3_mostHateIn_L21 (x1 : Int32) (c5 : Int32 → Int32 → St → Prop) (K : Int32 → St → Prop) : Nat → Int32 → Int32 → Int32 → St → Prop
  | 0, _, _, _, _ => False
  | n + 1, v2, v3, v4, st => w_X3_mostHateIn_L21q x1 c5 K (fun v2 v3 v4 st => w_X3_mostHateIn_L21 x1 c5 K n v2 v3 v4 st) v2 v3 v4 st
def w_X3_mostHateIn_L5q (x1 : Int32)  (K : Int32 → St → Prop) (c5 : Int32 → Int32 → St → Prop) (v2 : Int32) (v3 : Int32) (st : St) : Prop :=
  w_X1_keeperCount 11 st (fun r10 st10 => (r10 ≤ v3 → K v2 st10) ∧ (¬ r10 ≤ v3 → ∃ n, w_X3_mostHateIn_L21 x1 c5 K n v2 v3 (v3 + 1) st10))
def w_X3_mostHateIn_L5 (x1 : Int32)  (K : Int32 → St → Prop) : Nat → Int32 → Int32 → St → Prop
  | 0, _, _, _ => False
  | n + 1, v2, v3, st => w_X3_mostHateIn_L5q x1  K (fun v2 v3 st => w_X3_mostHateIn_L5 x1  K n v2 v3 st) v2 v3 st
def w_X3_mostHateIn (x1 : Int32) (st : St) (K : Int32 → St → Prop) : Prop :=
  ∃ n, w_X3_mostHateIn_L5 x1  K n (-9) 0 st
def w_X3_townsThatOpen_b24 (x1 : Int32) (c4 : Int32 → Int32 → St → Prop) (K : Int32 → St → Prop) (v2 : Int32) (v3 : Int32) (st : St) : Prop :=
  c4 v2 (v3 + 1) st
def w_X3_townsThatOpen_L4q (x1 : Int32)  (K : Int32 → St → Prop) (c4 : Int32 → Int32 → St → Prop) (v2 : Int32) (v3 : Int32) (st : St) : Prop :=
  (4 ≤ v3 → K v2 st) ∧ (¬ 4 ≤ v3 → w_X3_mostHateIn v3 st (fun r11 st11 => (r11 < x1 → w_X3_townsThatOpen_b24 x1 c4 K v2 v3 st11) ∧ (¬ r11 < x1 → w_X3_townsThatOpen_b24 x1 c4 K (v2 ||| ((1 : Int32) <<< (v3 &&& 31))) v3 st11)))
def w_X3_townsThatOpen_L4 (x1 : Int32)  (K : Int32 → St → Prop) : Nat → Int32 → Int32 → St → Prop
  | 0, _, _, _ => False
  | n + 1, v2, v3, st => w_X3_townsThatOpen_L4q x1  K (fun v2 v3 st => w_X3_townsThatOpen_L4 x1  K n v2 v3 st) v2 v3 st
def w_X3_townsThatOpen (x1 : Int32) (st : St) (K : Int32 → St → Prop) : Prop :=
  ∃ n, w_X3_townsThatOpen_L4 x1  K n 0 0 st
def w_X3_mostTwosWith_b99 (x1 : Int32) (x2 : Int32) (x3 : Int32) (c13 : Int32 → Int32 → St → Prop) (K : Int32 → St → Prop) (v4 : Int32) (v5 : Int32) (st : St) : Prop :=
  c13 v4 (v5 + 1) st
def w_X3_mostTwosWith_b44 (x1 : Int32) (x2 : Int32) (x3 : Int32) (c13 : Int32 → Int32 → St → Prop) (K : Int32 → St → Prop) (v4 : Int32) (v5 : Int32) (s0 : Int32) (st : St) : Prop :=
  w_X8_bit x2 v5 st (fun r49 st49 => (¬ r49 = 1 → w_X3_mostTwosWith_b99 x1 x2 x3 c13 K v4 v5 st49) ∧ (r49 = 1 → (s0 = 0 → w_X3_mostTwosWith_b99 x1 x2 x3 c13 K v4 v5 st49) ∧ (¬ s0 = 0 → w_X1_hateOf 11 v5 x1 st49 (fun r68 st68 => (r68 < x3 → w_X3_mostTwosWith_b99 x1 x2 x3 c13 K v4 v5 st68) ∧ (¬ r68 < x3 → w_X8_at 9 64 (x2 &&& (((1 : Int32) <<< (v5 &&& 31)) ^^^ (-1))) st68 (fun r90 st90 => w_X3_mostTwosWith_b99 x1 x2 x3 c13 K (if v4 < (1 + r90) then (1 + r90) else v4) v5 st90))))))
def w_X3_mostTwosWith_L13q (x1 : Int32) (x2 : Int32) (x3 : Int32)  (K : Int32 → St → Prop) (c13 : Int32 → Int32 → St → Prop) (v4 : Int32) (v5 : Int32) (st : St) : Prop :=
  (x1 ≤ v5 → K v4 st) ∧ (¬ x1 ≤ v5 → w_X1_townOf 11 v5 st (fun r25 st25 => w_X1_townOf 11 x1 st25 (fun r33 st33 => (¬ r25 = r33 → w_X3_mostTwosWith_b44 x1 x2 x3 c13 K v4 v5 0 st33) ∧ (r25 = r33 → w_X3_mostTwosWith_b44 x1 x2 x3 c13 K v4 v5 1 st33))))
def w_X3_mostTwosWith_L13 (x1 : Int32) (x2 : Int32) (x3 : Int32)  (K : Int32 → St → Prop) : Nat → Int32 → Int32 → St → Prop
  | 0, _, _, _ => False
  | n + 1, v4, v5, st => w_X3_mostTwosWith_L13q x1 x2 x3  K (fun v4 v5 st => w_X3_mostTwosWith_L13 x1 x2 x3  K n v4 v5 st) v4 v5 st
def w_X3_mostTwosWith (x1 : Int32) (x2 : Int32) (x3 : Int32) (st : St) (K : Int32 → St → Prop) : Prop :=
  w_X8_at 9 64 x2 st (fun r5 st5 => ∃ n, w_X3_mostTwosWith_L13 x1 x2 x3  K n r5 0 st5)
def w_X3_mostTwos_b47 (x1 : Int32) (c2 : Int32 → St → Prop) (K : Int32 → St → Prop) (v2 : Int32) (st : St) : Prop :=
  c2 (v2 + 1) st
def w_X3_mostTwos_L15q (x1 : Int32) (c2 : Int32 → St → Prop) (K : Int32 → St → Prop) (c15 : Int32 → Int32 → St → Prop) (v2 : Int32) (v3 : Int32) (st : St) : Prop :=
  (((1 : Int32) <<< (v2 &&& 31)) ≤ v3 → w_X3_mostTwos_b47 x1 c2 K v2 st) ∧ (¬ ((1 : Int32) <<< (v2 &&& 31)) ≤ v3 → w_X3_mostTwosWith v2 v3 x1 st (fun r35 st35 => w_X8_put 9 64 (v3 ||| ((1 : Int32) <<< (v2 &&& 31))) r35 st35 (fun st38 => c15 v2 (v3 + 1) st38)))
def w_X3_mostTwos_L15 (x1 : Int32) (c2 : Int32 → St → Prop) (K : Int32 → St → Prop) : Nat → Int32 → Int32 → St → Prop
  | 0, _, _, _ => False
  | n + 1, v2, v3, st => w_X3_mostTwos_L15q x1 c2 K (fun v2 v3 st => w_X3_mostTwos_L15 x1 c2 K n v2 v3 st) v2 v3 st
def w_X3_mostTwos_b53 (x1 : Int32)  (K : Int32 → St → Prop)  (st : St) : Prop :=
  w_X1_keeperCount 11 st (fun r62 st62 => w_X8_at 9 64 (((1 : Int32) <<< (r62 &&& 31)) - 1) st62 (fun r68 st68 => K r68 st68))
def w_X3_mostTwos_L2q (x1 : Int32)  (K : Int32 → St → Prop) (c2 : Int32 → St → Prop) (v2 : Int32) (st : St) : Prop :=
  w_X1_keeperCount 11 st (fun r7 st7 => (r7 ≤ v2 → w_X3_mostTwos_b53 x1  K st7) ∧ (¬ r7 ≤ v2 → ∃ n, w_X3_mostTwos_L15 x1 c2 K n v2 0 st7))
def w_X3_mostTwos_L2 (x1 : Int32)  (K : Int32 → St → Prop) : Nat → Int32 → St → Prop
  | 0, _, _ => False
  | n + 1, v2, st => w_X3_mostTwos_L2q x1  K (fun v2 st => w_X3_mostTwos_L2 x1  K n v2 st) v2 st
def w_X3_mostTwos (x1 : Int32) (st : St) (K : Int32 → St → Prop) : Prop :=
  ∃ n, w_X3_mostTwos_L2 x1  K n 0 st
def w_X3_worstTwo_b74 (x1 : Int32) (c9 : Int32 → Int32 → Int32 → St → Prop) (c27 : Int32 → Int32 → Int32 → Int32 → St → Prop) (K : Int32 → St → Prop) (v2 : Int32) (v3 : Int32) (v4 : Int32) (v5 : Int32) (st : St) : Prop :=
  c27 v2 v3 v4 (v5 + 1) st
def w_X3_worstTwo_b80 (x1 : Int32) (c9 : Int32 → Int32 → Int32 → St → Prop) (K : Int32 → St → Prop) (v2 : Int32) (v3 : Int32) (v4 : Int32) (st : St) : Prop :=
  c9 v2 v3 (v4 + 1) st
def w_X3_worstTwo_L27q (x1 : Int32) (c9 : Int32 → Int32 → Int32 → St → Prop) (K : Int32 → St → Prop) (c27 : Int32 → Int32 → Int32 → Int32 → St → Prop) (v2 : Int32) (v3 : Int32) (v4 : Int32) (v5 : Int32) (st : St) : Prop :=
  w_X1_keeperCount 11 st (fun r33 st33 => (r33 ≤ v5 → w_X3_worstTwo_b80 x1 c9 K v2 v3 v4 st33) ∧ (¬ r33 ≤ v5 → w_X1_hateOf 11 v4 v5 st33 (fun r47 st47 => (r47 ≤ v3 → w_X3_worstTwo_b74 x1 c9 c27 K v2 v3 v4 v5 st47) ∧ (¬ r47 ≤ v3 → w_X1_hateOf 11 v4 v5 st47 (fun r62 st62 => w_X8_twoName v4 v5 st62 (fun r70 st70 => w_X3_worstTwo_b74 x1 c9 c27 K r70 r62 v4 v5 st70))))))
def w_X3_worstTwo_L27 (x1 : Int32) (c9 : Int32 → Int32 → Int32 → St → Prop) (K : Int32 → St → Prop) : Nat → Int32 → Int32 → Int32 → Int32 → St → Prop
  | 0, _, _, _, _, _ => False
  | n + 1, v2, v3, v4, v5, st => w_X3_worstTwo_L27q x1 c9 K (fun v2 v3 v4 v5 st => w_X3_worstTwo_L27 x1 c9 K n v2 v3 v4 v5 st) v2 v3 v4 v5 st
def w_X3_worstTwo_b86 (x1 : Int32)  (K : Int32 → St → Prop) (v2 : Int32) (v3 : Int32) (st : St) : Prop :=
  (x1 = 0 → K v3 st) ∧ (¬ x1 = 0 → K v2 st)
def w_X3_worstTwo_L9q (x1 : Int32)  (K : Int32 → St → Prop) (c9 : Int32 → Int32 → Int32 → St → Prop) (v2 : Int32) (v3 : Int32) (v4 : Int32) (st : St) : Prop :=
  w_X1_keeperCount 11 st (fun r15 st15 => (r15 ≤ v4 → w_X3_worstTwo_b86 x1  K v2 v3 st15) ∧ (¬ r15 ≤ v4 → ∃ n, w_X3_worstTwo_L27 x1 c9 K n v2 v3 v4 (v4 + 1) st15))
def w_X3_worstTwo_L9 (x1 : Int32)  (K : Int32 → St → Prop) : Nat → Int32 → Int32 → Int32 → St → Prop
  | 0, _, _, _, _ => False
  | n + 1, v2, v3, v4, st => w_X3_worstTwo_L9q x1  K (fun v2 v3 v4 st => w_X3_worstTwo_L9 x1  K n v2 v3 v4 st) v2 v3 v4 st
def w_X3_worstTwo (x1 : Int32) (st : St) (K : Int32 → St → Prop) : Prop :=
  ∃ n, w_X3_worstTwo_L9 x1  K n (-9) (-9) 0 st
def w_X3_friends_b45  (c4 : Int32 → Int32 → St → Prop) (c19 : Int32 → Int32 → Int32 → St → Prop) (K : Int32 → St → Prop) (v1 : Int32) (v2 : Int32) (v3 : Int32) (st : St) : Prop :=
  c19 v1 v2 (v3 + 1) st
def w_X3_friends_b51  (c4 : Int32 → Int32 → St → Prop) (K : Int32 → St → Prop) (v1 : Int32) (v2 : Int32) (st : St) : Prop :=
  c4 v1 (v2 + 1) st
def w_X3_friends_L19q  (c4 : Int32 → Int32 → St → Prop) (K : Int32 → St → Prop) (c19 : Int32 → Int32 → Int32 → St → Prop) (v1 : Int32) (v2 : Int32) (v3 : Int32) (st : St) : Prop :=
  w_X1_keeperCount 11 st (fun r24 st24 => (r24 ≤ v3 → w_X3_friends_b51  c4 K v1 v2 st24) ∧ (¬ r24 ≤ v3 → w_X1_hateOf 11 v2 v3 st24 (fun r36 st36 => (¬ r36 = 0 → w_X3_friends_b45  c4 c19 K v1 v2 v3 st36) ∧ (r36 = 0 → w_X3_friends_b45  c4 c19 K (v1 + 1) v2 v3 st36))))
def w_X3_friends_L19  (c4 : Int32 → Int32 → St → Prop) (K : Int32 → St → Prop) : Nat → Int32 → Int32 → Int32 → St → Prop
  | 0, _, _, _, _ => False
  | n + 1, v1, v2, v3, st => w_X3_friends_L19q  c4 K (fun v1 v2 v3 st => w_X3_friends_L19  c4 K n v1 v2 v3 st) v1 v2 v3 st
def w_X3_friends_L4q   (K : Int32 → St → Prop) (c4 : Int32 → Int32 → St → Prop) (v1 : Int32) (v2 : Int32) (st : St) : Prop :=
  w_X1_keeperCount 11 st (fun r9 st9 => (r9 ≤ v2 → K v1 st9) ∧ (¬ r9 ≤ v2 → ∃ n, w_X3_friends_L19  c4 K n v1 v2 (v2 + 1) st9))
def w_X3_friends_L4   (K : Int32 → St → Prop) : Nat → Int32 → Int32 → St → Prop
  | 0, _, _, _ => False
  | n + 1, v1, v2, st => w_X3_friends_L4q   K (fun v1 v2 st => w_X3_friends_L4   K n v1 v2 st) v1 v2 st
def w_X3_friends  (st : St) (K : Int32 → St → Prop) : Prop :=
  ∃ n, w_X3_friends_L4   K n 0 0 st
def w_X3_deepestSealed_b64  (c5 : Int32 → Int32 → St → Prop) (K : Int32 → St → Prop) (v1 : Int32) (v2 : Int32) (st : St) : Prop :=
  c5 v1 (v2 + 1) st
def w_X3_deepestSealed_b46  (c5 : Int32 → Int32 → St → Prop) (K : Int32 → St → Prop) (v1 : Int32) (v2 : Int32) (s0 : Int32) (st : St) : Prop :=
  w_X1_isOpen 11 v2 st (fun r52 st52 => (¬ r52 = 0 → w_X3_deepestSealed_b64  c5 K v1 v2 st52) ∧ (r52 = 0 → (s0 = 0 → w_X3_deepestSealed_b64  c5 K v1 v2 st52) ∧ (¬ s0 = 0 → w_X3_deepestSealed_b64  c5 K v2 v2 st52)))
def w_X3_deepestSealed_b41  (c5 : Int32 → Int32 → St → Prop) (K : Int32 → St → Prop) (v1 : Int32) (v2 : Int32) (st : St) : Prop :=
  w_X3_deepestSealed_b46  c5 K v1 v2 1 st
def w_X3_deepestSealed_L5q   (K : Int32 → St → Prop) (c5 : Int32 → Int32 → St → Prop) (v1 : Int32) (v2 : Int32) (st : St) : Prop :=
  w_X1_letterCount 11 st (fun r10 st10 => (r10 ≤ v2 → K v1 st10) ∧ (¬ r10 ≤ v2 → (v1 = (-9) → w_X3_deepestSealed_b41  c5 K v1 v2 st10) ∧ (¬ v1 = (-9) → w_X1_depthOf 11 v2 st10 (fun r27 st27 => w_X1_depthOf 11 v1 st27 (fun r35 st35 => (r27 ≤ r35 → w_X3_deepestSealed_b46  c5 K v1 v2 0 st35) ∧ (¬ r27 ≤ r35 → w_X3_deepestSealed_b41  c5 K v1 v2 st35))))))
def w_X3_deepestSealed_L5   (K : Int32 → St → Prop) : Nat → Int32 → Int32 → St → Prop
  | 0, _, _, _ => False
  | n + 1, v1, v2, st => w_X3_deepestSealed_L5q   K (fun v1 v2 st => w_X3_deepestSealed_L5   K n v1 v2 st) v1 v2 st
def w_X3_deepestSealed  (st : St) (K : Int32 → St → Prop) : Prop :=
  ∃ n, w_X3_deepestSealed_L5   K n (-9) 0 st
def w_X3_hateOrSelf (x1 : Int32) (x2 : Int32) (st : St) (K : Int32 → St → Prop) : Prop :=
  (¬ x1 = x2 → w_X1_hateOf 11 x1 x2 st (fun r15 st15 => K r15 st15)) ∧ (x1 = x2 → K 0 st)
def w_X3_hatesTogether_L4q (x1 : Int32)  (K : Int32 → St → Prop) (c4 : Int32 → Int32 → St → Prop) (v2 : Int32) (v3 : Int32) (st : St) : Prop :=
  w_X1_keeperCount 11 st (fun r9 st9 => (r9 ≤ v3 → K v2 st9) ∧ (¬ r9 ≤ v3 → w_X3_hateOrSelf x1 v3 st9 (fun r19 st19 => c4 (v2 + r19) (v3 + 1) st19)))
def w_X3_hatesTogether_L4 (x1 : Int32)  (K : Int32 → St → Prop) : Nat → Int32 → Int32 → St → Prop
  | 0, _, _, _ => False
  | n + 1, v2, v3, st => w_X3_hatesTogether_L4q x1  K (fun v2 v3 st => w_X3_hatesTogether_L4 x1  K n v2 v3 st) v2 v3 st
def w_X3_hatesTogether (x1 : Int32) (st : St) (K : Int32 → St → Prop) : Prop :=
  ∃ n, w_X3_hatesTogether_L4 x1  K n 0 0 st
def w_X3_leastHating_b37  (c5 : Int32 → Int32 → St → Prop) (K : Int32 → St → Prop) (v1 : Int32) (v2 : Int32) (st : St) : Prop :=
  c5 v1 (v2 + 1) st
def w_X3_leastHating_b35  (c5 : Int32 → Int32 → St → Prop) (K : Int32 → St → Prop) (v2 : Int32) (st : St) : Prop :=
  w_X3_leastHating_b37  c5 K v2 v2 st
def w_X3_leastHating_L5q   (K : Int32 → St → Prop) (c5 : Int32 → Int32 → St → Prop) (v1 : Int32) (v2 : Int32) (st : St) : Prop :=
  w_X1_keeperCount 11 st (fun r10 st10 => (r10 ≤ v2 → K v1 st10) ∧ (¬ r10 ≤ v2 → (v1 = (-9) → w_X3_leastHating_b35  c5 K v2 st10) ∧ (¬ v1 = (-9) → w_X3_hatesTogether v2 st10 (fun r24 st24 => w_X3_hatesTogether v1 st24 (fun r29 st29 => (r29 ≤ r24 → w_X3_leastHating_b37  c5 K v1 v2 st29) ∧ (¬ r29 ≤ r24 → w_X3_leastHating_b35  c5 K v2 st29))))))
def w_X3_leastHating_L5   (K : Int32 → St → Prop) : Nat → Int32 → Int32 → St → Prop
  | 0, _, _, _ => False
  | n + 1, v1, v2, st => w_X3_leastHating_L5q   K (fun v1 v2 st => w_X3_leastHating_L5   K n v1 v2 st) v1 v2 st
def w_X3_leastHating  (st : St) (K : Int32 → St → Prop) : Prop :=
  ∃ n, w_X3_leastHating_L5   K n (-9) 0 st
def w_X3_mostHated_b62 (x1 : Int32) (c5 : Int32 → Int32 → St → Prop) (K : Int32 → St → Prop) (v2 : Int32) (v3 : Int32) (st : St) : Prop :=
  c5 v2 (v3 + 1) st
def w_X3_mostHated_b48 (x1 : Int32) (c5 : Int32 → Int32 → St → Prop) (K : Int32 → St → Prop) (v2 : Int32) (v3 : Int32) (s0 : Int32) (st : St) : Prop :=
  (v3 = x1 → w_X3_mostHated_b62 x1 c5 K v2 v3 st) ∧ (¬ v3 = x1 → (s0 = 0 → w_X3_mostHated_b62 x1 c5 K v2 v3 st) ∧ (¬ s0 = 0 → w_X3_mostHated_b62 x1 c5 K v3 v3 st))
def w_X3_mostHated_b43 (x1 : Int32) (c5 : Int32 → Int32 → St → Prop) (K : Int32 → St → Prop) (v2 : Int32) (v3 : Int32) (st : St) : Prop :=
  w_X3_mostHated_b48 x1 c5 K v2 v3 1 st
def w_X3_mostHated_L5q (x1 : Int32)  (K : Int32 → St → Prop) (c5 : Int32 → Int32 → St → Prop) (v2 : Int32) (v3 : Int32) (st : St) : Prop :=
  w_X1_keeperCount 11 st (fun r10 st10 => (r10 ≤ v3 → K v2 st10) ∧ (¬ r10 ≤ v3 → (v2 = (-9) → w_X3_mostHated_b43 x1 c5 K v2 v3 st10) ∧ (¬ v2 = (-9) → w_X1_hateOf 11 x1 v3 st10 (fun r28 st28 => w_X1_hateOf 11 x1 v2 st28 (fun r37 st37 => (r28 ≤ r37 → w_X3_mostHated_b48 x1 c5 K v2 v3 0 st37) ∧ (¬ r28 ≤ r37 → w_X3_mostHated_b43 x1 c5 K v2 v3 st37))))))
def w_X3_mostHated_L5 (x1 : Int32)  (K : Int32 → St → Prop) : Nat → Int32 → Int32 → St → Prop
  | 0, _, _, _ => False
  | n + 1, v2, v3, st => w_X3_mostHated_L5q x1  K (fun v2 v3 st => w_X3_mostHated_L5 x1  K n v2 v3 st) v2 v3 st
def w_X3_mostHated (x1 : Int32) (st : St) (K : Int32 → St → Prop) : Prop :=
  ∃ n, w_X3_mostHated_L5 x1  K n (-9) 0 st
def w_X3_bareTowns_b55  (c4 : Int32 → Int32 → St → Prop) (K : Int32 → St → Prop) (v1 : Int32) (v2 : Int32) (st : St) : Prop :=
  c4 v1 (v2 + 1) st
def w_X3_bareTowns_L4q   (K : Int32 → St → Prop) (c4 : Int32 → Int32 → St → Prop) (v1 : Int32) (v2 : Int32) (st : St) : Prop :=
  w_X1_letterCount 11 st (fun r9 st9 => (r9 ≤ v2 → K v1 st9) ∧ (¬ r9 ≤ v2 → w_X1_isOpen 11 v2 st9 (fun r20 st20 => (¬ r20 = 0 → w_X3_bareTowns_b55  c4 K v1 v2 st20) ∧ (r20 = 0 → w_X1_letterTownOf 11 v2 st20 (fun r32 st32 => w_X3_crowd r32 st32 (fun r35 st35 => (2 ≤ r35 → w_X3_bareTowns_b55  c4 K v1 v2 st35) ∧ (¬ 2 ≤ r35 → w_X1_letterTownOf 11 v2 st35 (fun r49 st49 => w_X3_bareTowns_b55  c4 K (v1 ||| ((1 : Int32) <<< (r49 &&& 31))) v2 st49))))))))
def w_X3_bareTowns_L4   (K : Int32 → St → Prop) : Nat → Int32 → Int32 → St → Prop
  | 0, _, _, _ => False
  | n + 1, v1, v2, st => w_X3_bareTowns_L4q   K (fun v1 v2 st => w_X3_bareTowns_L4   K n v1 v2 st) v1 v2 st
def w_X3_bareTowns  (st : St) (K : Int32 → St → Prop) : Prop :=
  ∃ n, w_X3_bareTowns_L4   K n 0 0 st
def w_X6_size  (st : St) (K : Int32 → St → Prop) : Prop :=
  K (st 6 1) st
def w_X6_number (x1 : Int32) (st : St) (K : Int32 → St → Prop) : Prop :=
  w_X8_at 7 12 x1 st (fun r5 st5 => K r5 st5)
def w_X3_firstMisjudged_L9q (x1 : Int32)  (K : Int32 → St → Prop) (c9 : Int32 → St → Prop) (v3 : Int32) (st : St) : Prop :=
  w_X6_size  st (fun r11 st11 => (r11 ≤ v3 → K (-9) st11) ∧ (¬ r11 ≤ v3 → w_X1_hasKeeper 11 v3 st11 (fun r22 st22 => (r22 = 0 → K v3 st22) ∧ (¬ r22 = 0 → w_X6_number v3 st22 (fun r30 st30 => w_X3_hateOrSelf x1 v3 st30 (fun r36 st36 => (r30 = r36 → c9 (v3 + 1) st36) ∧ (¬ r30 = r36 → K v3 st36)))))))
def w_X3_firstMisjudged_L9 (x1 : Int32)  (K : Int32 → St → Prop) : Nat → Int32 → St → Prop
  | 0, _, _ => False
  | n + 1, v3, st => w_X3_firstMisjudged_L9q x1  K (fun v3 st => w_X3_firstMisjudged_L9 x1  K n v3 st) v3 st
def w_X3_firstMisjudged (x1 : Int32) (st : St) (K : Int32 → St → Prop) : Prop :=
  ∃ n, w_X3_firstMisjudged_L9 x1  K n 0 st
def w_X4_hateAfter (x1 : Int32) (x2 : Int32) (x3 : Int32) (st : St) (K : Int32 → St → Prop) : Prop :=
  w_X1_become 99 11 st (fun st8 => w_X1_passWeeks 99 x3 st8 (fun r16 st16 => w_X1_hateOf 99 x1 x2 st16 (fun r26 st26 => K r26 st26)))
def w_X4_openBitsAfter (x1 : Int32) (st : St) (K : Int32 → St → Prop) : Prop :=
  w_X1_become 99 11 st (fun st8 => w_X1_passWeeks 99 x1 st8 (fun r16 st16 => w_X1_openBits 99 st16 (fun r24 st24 => K r24 st24)))
def w_X4_allHateAfter (x1 : Int32) (st : St) (K : Int32 → St → Prop) : Prop :=
  w_X1_become 99 11 st (fun st8 => w_X1_passWeeks 99 x1 st8 (fun r16 st16 => w_X1_allHate 99 st16 (fun r24 st24 => K r24 st24)))
def w_X4_weekOpened_L13q (x1 : Int32)  (K : Int32 → St → Prop) (c13 : Int32 → St → Prop) (v2 : Int32) (st : St) : Prop :=
  (60 < v2 → K (-9) st) ∧ (¬ 60 < v2 → w_X1_isOpen 99 x1 st (fun r24 st24 => (r24 = 0 → w_X1_passWeek 99 st24 (fun r36 st36 => c13 (v2 + 1) st36)) ∧ (¬ r24 = 0 → K v2 st24)))
def w_X4_weekOpened_L13 (x1 : Int32)  (K : Int32 → St → Prop) : Nat → Int32 → St → Prop
  | 0, _, _ => False
  | n + 1, v2, st => w_X4_weekOpened_L13q x1  K (fun v2 st => w_X4_weekOpened_L13 x1  K n v2 st) v2 st
def w_X4_weekOpened (x1 : Int32) (st : St) (K : Int32 → St → Prop) : Prop :=
  w_X1_become 99 11 st (fun st8 => ∃ n, w_X4_weekOpened_L13 x1  K n 0 st8)
def w_X4_openedBy (x1 : Int32) (st : St) (K : Int32 → St → Prop) : Prop :=
  w_X1_become 99 11 st (fun st8 => w_X1_passWeeks 99 60 st8 (fun r17 st17 => w_X1_openedBy 99 x1 st17 (fun r26 st26 => K r26 st26)))
def w_X4_weekBelow_L14q (x1 : Int32) (x2 : Int32) (x3 : Int32)  (K : Int32 → St → Prop) (c14 : Int32 → St → Prop) (v4 : Int32) (st : St) : Prop :=
  (60 < v4 → K (-9) st) ∧ (¬ 60 < v4 → w_X1_hateOf 99 x1 x2 st (fun r27 st27 => (x3 ≤ r27 → w_X1_passWeek 99 st27 (fun r41 st41 => c14 (v4 + 1) st41)) ∧ (¬ x3 ≤ r27 → K v4 st27)))
def w_X4_weekBelow_L14 (x1 : Int32) (x2 : Int32) (x3 : Int32)  (K : Int32 → St → Prop) : Nat → Int32 → St → Prop
  | 0, _, _ => False
  | n + 1, v4, st => w_X4_weekBelow_L14q x1 x2 x3  K (fun v4 st => w_X4_weekBelow_L14 x1 x2 x3  K n v4 st) v4 st
def w_X4_weekBelow (x1 : Int32) (x2 : Int32) (x3 : Int32) (st : St) (K : Int32 → St → Prop) : Prop :=
  w_X1_become 99 11 st (fun st8 => ∃ n, w_X4_weekBelow_L14 x1 x2 x3  K n 0 st8)
def w_X4_sealedFar  (st : St) (K : Int32 → St → Prop) : Prop :=
  w_X1_letterCount 11 st (fun r5 st5 => w_X4_openBitsAfter 60 st5 (fun r14 st14 => K ((((1 : Int32) <<< (r5 &&& 31)) - 1) &&& (r14 ^^^ (-1))) st14))
def w_X4_firstOpened_b52  (c13 : Int32 → St → Prop) (K : Int32 → St → Prop) (v1 : Int32) (st : St) : Prop :=
  c13 (v1 + 1) st
def w_X4_firstOpened_L29q  (c13 : Int32 → St → Prop) (K : Int32 → St → Prop) (c29 : Int32 → Int32 → Int32 → St → Prop) (v1 : Int32) (v2 : Int32) (v3 : Int32) (st : St) : Prop :=
  (6 ≤ v3 → w_X4_firstOpened_b52  c13 K v1 st) ∧ (¬ 6 ≤ v3 → w_X8_bit v2 v3 st (fun r37 st37 => (¬ r37 = 1 → c29 v1 v2 (v3 + 1) st37) ∧ (r37 = 1 → K v3 st37)))
def w_X4_firstOpened_L29  (c13 : Int32 → St → Prop) (K : Int32 → St → Prop) : Nat → Int32 → Int32 → Int32 → St → Prop
  | 0, _, _, _, _ => False
  | n + 1, v1, v2, v3, st => w_X4_firstOpened_L29q  c13 K (fun v1 v2 v3 st => w_X4_firstOpened_L29  c13 K n v1 v2 v3 st) v1 v2 v3 st
def w_X4_firstOpened_L13q   (K : Int32 → St → Prop) (c13 : Int32 → St → Prop) (v1 : Int32) (st : St) : Prop :=
  (60 < v1 → K (-9) st) ∧ (¬ 60 < v1 → w_X1_passWeek 99 st (fun r23 st23 => ∃ n, w_X4_firstOpened_L29  c13 K n v1 r23 0 st23))
def w_X4_firstOpened_L13   (K : Int32 → St → Prop) : Nat → Int32 → St → Prop
  | 0, _, _ => False
  | n + 1, v1, st => w_X4_firstOpened_L13q   K (fun v1 st => w_X4_firstOpened_L13   K n v1 st) v1 st
def w_X4_firstOpened  (st : St) (K : Int32 → St → Prop) : Prop :=
  w_X1_become 99 11 st (fun st8 => ∃ n, w_X4_firstOpened_L13   K n 1 st8)
def w_X4_leastInsult_L3q (x1 : Int32) (x2 : Int32) (x3 : Int32)  (K : Int32 → St → Prop) (c3 : Int32 → St → Prop) (v4 : Int32) (st : St) : Prop :=
  (99 < v4 → K (-9) st) ∧ (¬ 99 < v4 → w_X1_become 99 11 st (fun st18 => w_X1_hateOf 11 x1 x2 st18 (fun r33 st33 => w_X1_setHate 99 x1 x2 (r33 + v4) st33 (fun st39 => w_X1_passWeek 99 st39 (fun r46 st46 => w_X1_openedBy 99 x3 st46 (fun r55 st55 => w_X8_twoName x1 x2 st55 (fun r60 st60 => (¬ r55 = r60 → c3 (v4 + 1) st60) ∧ (r55 = r60 → K v4 st60))))))))
def w_X4_leastInsult_L3 (x1 : Int32) (x2 : Int32) (x3 : Int32)  (K : Int32 → St → Prop) : Nat → Int32 → St → Prop
  | 0, _, _ => False
  | n + 1, v4, st => w_X4_leastInsult_L3q x1 x2 x3  K (fun v4 st => w_X4_leastInsult_L3 x1 x2 x3  K n v4 st) v4 st
def w_X4_leastInsult (x1 : Int32) (x2 : Int32) (x3 : Int32) (st : St) (K : Int32 → St → Prop) : Prop :=
  ∃ n, w_X4_leastInsult_L3 x1 x2 x3  K n 0 st
def w_X4_idleWeeks_b33 (x1 : Int32) (c15 : Int32 → Int32 → St → Prop) (K : Int32 → St → Prop) (v2 : Int32) (v3 : Int32) (st : St) : Prop :=
  c15 v2 (v3 + 1) st
def w_X4_idleWeeks_L15q (x1 : Int32)  (K : Int32 → St → Prop) (c15 : Int32 → Int32 → St → Prop) (v2 : Int32) (v3 : Int32) (st : St) : Prop :=
  (x1 ≤ v3 → K v2 st) ∧ (¬ x1 ≤ v3 → w_X1_passWeek 99 st (fun r24 st24 => (¬ r24 = 0 → w_X4_idleWeeks_b33 x1 c15 K v2 v3 st24) ∧ (r24 = 0 → w_X4_idleWeeks_b33 x1 c15 K (v2 + 1) v3 st24)))
def w_X4_idleWeeks_L15 (x1 : Int32)  (K : Int32 → St → Prop) : Nat → Int32 → Int32 → St → Prop
  | 0, _, _, _ => False
  | n + 1, v2, v3, st => w_X4_idleWeeks_L15q x1  K (fun v2 v3 st => w_X4_idleWeeks_L15 x1  K n v2 v3 st) v2 v3 st
def w_X4_idleWeeks (x1 : Int32) (st : St) (K : Int32 → St → Prop) : Prop :=
  w_X1_become 99 11 st (fun st8 => ∃ n, w_X4_idleWeeks_L15 x1  K n 0 0 st8)
def w_X4_openAsAllIs (x1 : Int32) (st : St) (K : Int32 → St → Prop) : Prop :=
  w_X1_become 99 11 st (fun st8 => w_X1_passWeeks 99 x1 st8 (fun r16 st16 => K r16 st16))
def w_X4_bestSending_b97 (x1 : Int32) (c12 : Int32 → Int32 → Int32 → St → Prop) (c27 : Int32 → Int32 → Int32 → Int32 → St → Prop) (K : Int32 → St → Prop) (v2 : Int32) (v3 : Int32) (v4 : Int32) (v5 : Int32) (st : St) : Prop :=
  c27 v2 v3 v4 (v5 + 1) st
def w_X4_bestSending_b103 (x1 : Int32) (c12 : Int32 → Int32 → Int32 → St → Prop) (K : Int32 → St → Prop) (v2 : Int32) (v3 : Int32) (v4 : Int32) (st : St) : Prop :=
  c12 v2 v3 (v4 + 1) st
def w_X4_bestSending_L27q (x1 : Int32) (c12 : Int32 → Int32 → Int32 → St → Prop) (K : Int32 → St → Prop) (c27 : Int32 → Int32 → Int32 → Int32 → St → Prop) (v2 : Int32) (v3 : Int32) (v4 : Int32) (v5 : Int32) (st : St) : Prop :=
  (4 ≤ v5 → w_X4_bestSending_b103 x1 c12 K v2 v3 v4 st) ∧ (¬ 4 ≤ v5 → w_X1_townOf 11 v4 st (fun r41 st41 => (v5 = r41 → w_X4_bestSending_b97 x1 c12 c27 K v2 v3 v4 v5 st41) ∧ (¬ v5 = r41 → w_X1_become 99 11 st41 (fun st55 => w_X1_move 99 v4 v5 st55 (fun st66 => w_X1_passWeeks 99 x1 st66 (fun r74 st74 => (r74 ≤ v3 → w_X4_bestSending_b97 x1 c12 c27 K v2 v3 v4 v5 st74) ∧ (¬ r74 ≤ v3 → w_X4_bestSending_b97 x1 c12 c27 K ((10 * v4) + v5) r74 v4 v5 st74)))))))
def w_X4_bestSending_L27 (x1 : Int32) (c12 : Int32 → Int32 → Int32 → St → Prop) (K : Int32 → St → Prop) : Nat → Int32 → Int32 → Int32 → Int32 → St → Prop
  | 0, _, _, _, _, _ => False
  | n + 1, v2, v3, v4, v5, st => w_X4_bestSending_L27q x1 c12 K (fun v2 v3 v4 v5 st => w_X4_bestSending_L27 x1 c12 K n v2 v3 v4 v5 st) v2 v3 v4 v5 st
def w_X4_bestSending_L12q (x1 : Int32)  (K : Int32 → St → Prop) (c12 : Int32 → Int32 → Int32 → St → Prop) (v2 : Int32) (v3 : Int32) (v4 : Int32) (st : St) : Prop :=
  w_X1_keeperCount 11 st (fun r18 st18 => (r18 ≤ v4 → K v2 st18) ∧ (¬ r18 ≤ v4 → ∃ n, w_X4_bestSending_L27 x1 c12 K n v2 v3 v4 0 st18))
def w_X4_bestSending_L12 (x1 : Int32)  (K : Int32 → St → Prop) : Nat → Int32 → Int32 → Int32 → St → Prop
  | 0, _, _, _, _ => False
  | n + 1, v2, v3, v4, st => w_X4_bestSending_L12q x1  K (fun v2 v3 v4 st => w_X4_bestSending_L12 x1  K n v2 v3 v4 st) v2 v3 v4 st
def w_X4_bestSending (x1 : Int32) (st : St) (K : Int32 → St → Prop) : Prop :=
  w_X4_openAsAllIs x1 st (fun r5 st5 => ∃ n, w_X4_bestSending_L12 x1  K n (-9) r5 0 st5)
def w_X4_bestSwap_b137 (x1 : Int32) (c12 : Int32 → Int32 → Int32 → St → Prop) (c30 : Int32 → Int32 → Int32 → Int32 → St → Prop) (K : Int32 → St → Prop) (v2 : Int32) (v3 : Int32) (v4 : Int32) (v5 : Int32) (st : St) : Prop :=
  c30 v2 v3 v4 (v5 + 1) st
def w_X4_bestSwap_b143 (x1 : Int32) (c12 : Int32 → Int32 → Int32 → St → Prop) (K : Int32 → St → Prop) (v2 : Int32) (v3 : Int32) (v4 : Int32) (st : St) : Prop :=
  c12 v2 v3 (v4 + 1) st
def w_X4_bestSwap_L30q (x1 : Int32) (c12 : Int32 → Int32 → Int32 → St → Prop) (K : Int32 → St → Prop) (c30 : Int32 → Int32 → Int32 → Int32 → St → Prop) (v2 : Int32) (v3 : Int32) (v4 : Int32) (v5 : Int32) (st : St) : Prop :=
  w_X1_keeperCount 11 st (fun r36 st36 => (r36 ≤ v5 → w_X4_bestSwap_b143 x1 c12 K v2 v3 v4 st36) ∧ (¬ r36 ≤ v5 → w_X1_townOf 11 v4 st36 (fun r48 st48 => w_X1_townOf 11 v5 st48 (fun r57 st57 => (r48 = r57 → w_X4_bestSwap_b137 x1 c12 c30 K v2 v3 v4 v5 st57) ∧ (¬ r48 = r57 → w_X1_become 99 11 st57 (fun st71 => w_X1_townOf 11 v5 st71 (fun r86 st86 => w_X1_move 99 v4 r86 st86 (fun st89 => w_X1_townOf 11 v4 st89 (fun r104 st104 => w_X1_move 99 v5 r104 st104 (fun st107 => w_X1_passWeeks 99 x1 st107 (fun r115 st115 => (r115 ≤ v3 → w_X4_bestSwap_b137 x1 c12 c30 K v2 v3 v4 v5 st115) ∧ (¬ r115 ≤ v3 → w_X8_twoName v4 v5 st115 (fun r133 st133 => w_X4_bestSwap_b137 x1 c12 c30 K r133 r115 v4 v5 st133)))))))))))))
def w_X4_bestSwap_L30 (x1 : Int32) (c12 : Int32 → Int32 → Int32 → St → Prop) (K : Int32 → St → Prop) : Nat → Int32 → Int32 → Int32 → Int32 → St → Prop
  | 0, _, _, _, _, _ => False
  | n + 1, v2, v3, v4, v5, st => w_X4_bestSwap_L30q x1 c12 K (fun v2 v3 v4 v5 st => w_X4_bestSwap_L30 x1 c12 K n v2 v3 v4 v5 st) v2 v3 v4 v5 st
def w_X4_bestSwap_L12q (x1 : Int32)  (K : Int32 → St → Prop) (c12 : Int32 → Int32 → Int32 → St → Prop) (v2 : Int32) (v3 : Int32) (v4 : Int32) (st : St) : Prop :=
  w_X1_keeperCount 11 st (fun r18 st18 => (r18 ≤ v4 → K v2 st18) ∧ (¬ r18 ≤ v4 → ∃ n, w_X4_bestSwap_L30 x1 c12 K n v2 v3 v4 (v4 + 1) st18))
def w_X4_bestSwap_L12 (x1 : Int32)  (K : Int32 → St → Prop) : Nat → Int32 → Int32 → Int32 → St → Prop
  | 0, _, _, _, _ => False
  | n + 1, v2, v3, v4, st => w_X4_bestSwap_L12q x1  K (fun v2 v3 v4 st => w_X4_bestSwap_L12 x1  K n v2 v3 v4 st) v2 v3 v4 st
def w_X4_bestSwap (x1 : Int32) (st : St) (K : Int32 → St → Prop) : Prop :=
  w_X4_openAsAllIs x1 st (fun r5 st5 => ∃ n, w_X4_bestSwap_L12 x1  K n (-9) r5 0 st5)
def w_X4_openPlaced (x1 : Int32) (x2 : Int32) (x3 : Int32) (x4 : Int32) (x5 : Int32) (st : St) (K : Int32 → St → Prop) : Prop :=
  w_X1_become 99 11 st (fun st8 => w_X1_move 99 x1 (x5 / 100) st8 (fun st21 => w_X1_move 99 x2 ((x5 / 10) - (x5 / 10) / 10 * 10) st21 (fun st37 => w_X1_move 99 x3 (x5 - x5 / 10 * 10) st37 (fun st50 => w_X1_passWeeks 99 x4 st50 (fun r59 st59 => K r59 st59)))))
def w_X4_bestPlaces_b69 (x1 : Int32) (x2 : Int32) (x3 : Int32) (x4 : Int32) (c9 : Int32 → Int32 → Int32 → St → Prop) (K : Int32 → St → Prop) (v5 : Int32) (v6 : Int32) (v7 : Int32) (st : St) : Prop :=
  c9 v5 v6 (v7 + 1) st
def w_X4_bestPlaces_L9q (x1 : Int32) (x2 : Int32) (x3 : Int32) (x4 : Int32)  (K : Int32 → St → Prop) (c9 : Int32 → Int32 → Int32 → St → Prop) (v5 : Int32) (v6 : Int32) (v7 : Int32) (st : St) : Prop :=
  (64 ≤ v7 → K v5 st) ∧ (¬ 64 ≤ v7 → w_X4_openPlaced x1 x2 x3 x4 ((((v7 / 16) * 100) + (((v7 / 4) - (v7 / 4) / 4 * 4) * 10)) + (v7 - v7 / 4 * 4)) st (fun r49 st49 => (r49 ≤ v6 → w_X4_bestPlaces_b69 x1 x2 x3 x4 c9 K v5 v6 v7 st49) ∧ (¬ r49 ≤ v6 → w_X4_bestPlaces_b69 x1 x2 x3 x4 c9 K ((((v7 / 16) * 100) + (((v7 / 4) - (v7 / 4) / 4 * 4) * 10)) + (v7 - v7 / 4 * 4)) r49 v7 st49)))
def w_X4_bestPlaces_L9 (x1 : Int32) (x2 : Int32) (x3 : Int32) (x4 : Int32)  (K : Int32 → St → Prop) : Nat → Int32 → Int32 → Int32 → St → Prop
  | 0, _, _, _, _ => False
  | n + 1, v5, v6, v7, st => w_X4_bestPlaces_L9q x1 x2 x3 x4  K (fun v5 v6 v7 st => w_X4_bestPlaces_L9 x1 x2 x3 x4  K n v5 v6 v7 st) v5 v6 v7 st
def w_X4_bestPlaces (x1 : Int32) (x2 : Int32) (x3 : Int32) (x4 : Int32) (st : St) (K : Int32 → St → Prop) : Prop :=
  ∃ n, w_X4_bestPlaces_L9 x1 x2 x3 x4  K n 0 (-1) 0 st
def w_X4_openKept_b41 (x1 : Int32) (x2 : Int32) (c13 : Int32 → St → Prop) (K : Int32 → St → Prop) (v3 : Int32) (st : St) : Prop :=
  c13 (v3 + 1) st
def w_X4_openKept_b47 (x1 : Int32) (x2 : Int32)  (K : Int32 → St → Prop)  (st : St) : Prop :=
  w_X1_passWeeks 99 x2 st (fun r52 st52 => K r52 st52)
def w_X4_openKept_L13q (x1 : Int32) (x2 : Int32)  (K : Int32 → St → Prop) (c13 : Int32 → St → Prop) (v3 : Int32) (st : St) : Prop :=
  w_X1_keeperCount 11 st (fun r18 st18 => (r18 ≤ v3 → w_X4_openKept_b47 x1 x2  K st18) ∧ (¬ r18 ≤ v3 → w_X8_bit x1 v3 st18 (fun r26 st26 => (¬ r26 = 0 → w_X4_openKept_b41 x1 x2 c13 K v3 st26) ∧ (r26 = 0 → w_X1_move 99 v3 (-1) st26 (fun st38 => w_X4_openKept_b41 x1 x2 c13 K v3 st38)))))
def w_X4_openKept_L13 (x1 : Int32) (x2 : Int32)  (K : Int32 → St → Prop) : Nat → Int32 → St → Prop
  | 0, _, _ => False
  | n + 1, v3, st => w_X4_openKept_L13q x1 x2  K (fun v3 st => w_X4_openKept_L13 x1 x2  K n v3 st) v3 st
def w_X4_openKept (x1 : Int32) (x2 : Int32) (st : St) (K : Int32 → St → Prop) : Prop :=
  w_X1_become 99 11 st (fun st8 => ∃ n, w_X4_openKept_L13 x1 x2  K n 0 st8)
def w_X4_fewestKept_b70 (x1 : Int32) (c24 : Int32 → Int32 → Int32 → Int32 → St → Prop) (K : Int32 → St → Prop) (v2 : Int32) (v3 : Int32) (v4 : Int32) (v5 : Int32) (st : St) : Prop :=
  c24 v2 v3 v4 (v5 + 1) st
def w_X4_fewestKept_b48 (x1 : Int32) (c24 : Int32 → Int32 → Int32 → Int32 → St → Prop) (K : Int32 → St → Prop) (v2 : Int32) (v3 : Int32) (v4 : Int32) (v5 : Int32) (s0 : Int32) (st : St) : Prop :=
  (s0 = 0 → w_X4_fewestKept_b70 x1 c24 K v2 v3 v4 v5 st) ∧ (¬ s0 = 0 → w_X4_openKept v5 x1 st (fun r59 st59 => (r59 < v3 → w_X4_fewestKept_b70 x1 c24 K v2 v3 v4 v5 st59) ∧ (¬ r59 < v3 → w_X4_fewestKept_b70 x1 c24 K v2 v3 v5 v5 st59)))
def w_X4_fewestKept_L24q (x1 : Int32)  (K : Int32 → St → Prop) (c24 : Int32 → Int32 → Int32 → Int32 → St → Prop) (v2 : Int32) (v3 : Int32) (v4 : Int32) (v5 : Int32) (st : St) : Prop :=
  (v2 ≤ v5 → K v4 st) ∧ (¬ v2 ≤ v5 → w_J6_bitCount_0f7a4 v5 st (fun r32 st32 => w_J6_bitCount_0f7a4 v4 st32 (fun r37 st37 => (r37 ≤ r32 → w_X4_fewestKept_b48 x1 c24 K v2 v3 v4 v5 0 st37) ∧ (¬ r37 ≤ r32 → w_X4_fewestKept_b48 x1 c24 K v2 v3 v4 v5 1 st37))))
def w_X4_fewestKept_L24 (x1 : Int32)  (K : Int32 → St → Prop) : Nat → Int32 → Int32 → Int32 → Int32 → St → Prop
  | 0, _, _, _, _, _ => False
  | n + 1, v2, v3, v4, v5, st => w_X4_fewestKept_L24q x1  K (fun v2 v3 v4 v5 st => w_X4_fewestKept_L24 x1  K n v2 v3 v4 v5 st) v2 v3 v4 v5 st
def w_X4_fewestKept (x1 : Int32) (st : St) (K : Int32 → St → Prop) : Prop :=
  w_X1_keeperCount 11 st (fun r5 st5 => w_X4_openAsAllIs x1 st5 (fun r14 st14 => ∃ n, w_X4_fewestKept_L24 x1  K n (((1 : Int32) <<< (r5 &&& 31)) - 1) r14 (((1 : Int32) <<< (r5 &&& 31)) - 1) 0 st14))
def w_X4_opensAsTold_L8q   (K : Int32 → St → Prop) (c8 : Int32 → St → Prop) (v2 : Int32) (st : St) : Prop :=
  w_X6_size  st (fun r10 st10 => (r10 ≤ v2 → K 1 st10) ∧ (¬ r10 ≤ v2 → w_X1_openCount 99 st10 (fun r20 st20 => w_X6_number v2 st20 (fun r25 st25 => (r20 = r25 → w_X1_passWeek 99 st25 (fun r37 st37 => c8 (v2 + 1) st37)) ∧ (¬ r20 = r25 → K 0 st25)))))
def w_X4_opensAsTold_L8   (K : Int32 → St → Prop) : Nat → Int32 → St → Prop
  | 0, _, _ => False
  | n + 1, v2, st => w_X4_opensAsTold_L8q   K (fun v2 st => w_X4_opensAsTold_L8   K n v2 st) v2 st
def w_X4_opensAsTold  (st : St) (K : Int32 → St → Prop) : Prop :=
  ∃ n, w_X4_opensAsTold_L8   K n 0 st
def w_X4_fittingHate_b74 (x1 : Int32) (x2 : Int32) (x4 : Int32) (c14 : Int32 → Int32 → Int32 → Int32 → St → Prop) (K : Int32 → St → Prop) (v5 : Int32) (v6 : Int32) (v7 : Int32) (v8 : Int32) (st : St) : Prop :=
  c14 v5 v6 v7 (v8 + 1) st
def w_X4_fittingHate_b68 (x1 : Int32) (x2 : Int32) (x4 : Int32) (c14 : Int32 → Int32 → Int32 → Int32 → St → Prop) (K : Int32 → St → Prop) (v5 : Int32) (v8 : Int32) (s0 : Int32) (st : St) : Prop :=
  w_X4_fittingHate_b74 x1 x2 x4 c14 K v5 s0 v8 v8 st
def w_X4_fittingHate_b80 (x1 : Int32) (x2 : Int32) (x4 : Int32)  (K : Int32 → St → Prop) (v5 : Int32) (v6 : Int32) (v7 : Int32) (st : St) : Prop :=
  (¬ x4 = 0 → (¬ x4 = 1 → K v7 st) ∧ (x4 = 1 → K v6 st)) ∧ (x4 = 0 → K v5 st)
def w_X4_fittingHate_L14q (x1 : Int32) (x2 : Int32) (x4 : Int32)  (K : Int32 → St → Prop) (c14 : Int32 → Int32 → Int32 → Int32 → St → Prop) (v5 : Int32) (v6 : Int32) (v7 : Int32) (v8 : Int32) (st : St) : Prop :=
  (99 < v8 → w_X4_fittingHate_b80 x1 x2 x4  K v5 v6 v7 st) ∧ (¬ 99 < v8 → w_X1_become 99 11 st (fun st29 => w_X1_setHate 99 x1 x2 v8 st29 (fun st40 => w_X4_opensAsTold  st40 (fun r45 st45 => (r45 = 0 → w_X4_fittingHate_b74 x1 x2 x4 c14 K v5 v6 v7 v8 st45) ∧ (¬ r45 = 0 → (¬ v6 = (-9) → w_X4_fittingHate_b68 x1 x2 x4 c14 K (v5 + 1) v8 v6 st45) ∧ (v6 = (-9) → w_X4_fittingHate_b68 x1 x2 x4 c14 K (v5 + 1) v8 v8 st45))))))
def w_X4_fittingHate_L14 (x1 : Int32) (x2 : Int32) (x4 : Int32)  (K : Int32 → St → Prop) : Nat → Int32 → Int32 → Int32 → Int32 → St → Prop
  | 0, _, _, _, _, _ => False
  | n + 1, v5, v6, v7, v8, st => w_X4_fittingHate_L14q x1 x2 x4  K (fun v5 v6 v7 v8 st => w_X4_fittingHate_L14 x1 x2 x4  K n v5 v6 v7 v8 st) v5 v6 v7 v8 st
def w_X4_fittingHate (x1 : Int32) (x2 : Int32) (x4 : Int32) (st : St) (K : Int32 → St → Prop) : Prop :=
  ∃ n, w_X4_fittingHate_L14 x1 x2 x4  K n 0 (-9) (-9) 0 st
def w_X4_hatesAsTold_L9q (x1 : Int32) (x2 : Int32)  (K : Int32 → St → Prop) (c9 : Int32 → St → Prop) (v4 : Int32) (st : St) : Prop :=
  w_X6_size  st (fun r12 st12 => (r12 ≤ v4 → K 1 st12) ∧ (¬ r12 ≤ v4 → w_X1_hateOf 99 x1 x2 st12 (fun r24 st24 => w_X6_number v4 st24 (fun r30 st30 => (r24 = r30 → w_X1_passWeek 99 st30 (fun r42 st42 => c9 (v4 + 1) st42)) ∧ (¬ r24 = r30 → K 0 st30)))))
def w_X4_hatesAsTold_L9 (x1 : Int32) (x2 : Int32)  (K : Int32 → St → Prop) : Nat → Int32 → St → Prop
  | 0, _, _ => False
  | n + 1, v4, st => w_X4_hatesAsTold_L9q x1 x2  K (fun v4 st => w_X4_hatesAsTold_L9 x1 x2  K n v4 st) v4 st
def w_X4_hatesAsTold (x1 : Int32) (x2 : Int32) (st : St) (K : Int32 → St → Prop) : Prop :=
  ∃ n, w_X4_hatesAsTold_L9 x1 x2  K n 0 st
def w_X4_fittingKinds_b53 (x1 : Int32) (x2 : Int32) (c6 : Int32 → Int32 → St → Prop) (K : Int32 → St → Prop) (v4 : Int32) (v5 : Int32) (st : St) : Prop :=
  c6 v4 (v5 + 1) st
def w_X4_fittingKinds_L6q (x1 : Int32) (x2 : Int32)  (K : Int32 → St → Prop) (c6 : Int32 → Int32 → St → Prop) (v4 : Int32) (v5 : Int32) (st : St) : Prop :=
  (6 ≤ v5 → K v4 st) ∧ (¬ 6 ≤ v5 → w_X1_become 99 11 st (fun st21 => w_X1_setKind 99 x1 v5 st21 (fun st31 => w_X4_hatesAsTold x1 x2 st31 (fun r38 st38 => (r38 = 0 → w_X4_fittingKinds_b53 x1 x2 c6 K v4 v5 st38) ∧ (¬ r38 = 0 → w_X4_fittingKinds_b53 x1 x2 c6 K (v4 ||| ((1 : Int32) <<< (v5 &&& 31))) v5 st38)))))
def w_X4_fittingKinds_L6 (x1 : Int32) (x2 : Int32)  (K : Int32 → St → Prop) : Nat → Int32 → Int32 → St → Prop
  | 0, _, _, _ => False
  | n + 1, v4, v5, st => w_X4_fittingKinds_L6q x1 x2  K (fun v4 v5 st => w_X4_fittingKinds_L6 x1 x2  K n v4 v5 st) v4 v5 st
def w_X4_fittingKinds (x1 : Int32) (x2 : Int32) (st : St) (K : Int32 → St → Prop) : Prop :=
  ∃ n, w_X4_fittingKinds_L6 x1 x2  K n 0 0 st
def w_X4_fittingFigures_b53 (x1 : Int32) (x2 : Int32) (c6 : Int32 → Int32 → St → Prop) (K : Int32 → St → Prop) (v4 : Int32) (v5 : Int32) (st : St) : Prop :=
  c6 v4 (v5 + 1) st
def w_X4_fittingFigures_L6q (x1 : Int32) (x2 : Int32)  (K : Int32 → St → Prop) (c6 : Int32 → Int32 → St → Prop) (v4 : Int32) (v5 : Int32) (st : St) : Prop :=
  (9 < v5 → K v4 st) ∧ (¬ 9 < v5 → w_X1_become 99 11 st (fun st21 => w_X1_setFigure 99 x1 v5 st21 (fun st31 => w_X4_hatesAsTold x1 x2 st31 (fun r38 st38 => (r38 = 0 → w_X4_fittingFigures_b53 x1 x2 c6 K v4 v5 st38) ∧ (¬ r38 = 0 → w_X4_fittingFigures_b53 x1 x2 c6 K (v4 ||| ((1 : Int32) <<< (v5 &&& 31))) v5 st38)))))
def w_X4_fittingFigures_L6 (x1 : Int32) (x2 : Int32)  (K : Int32 → St → Prop) : Nat → Int32 → Int32 → St → Prop
  | 0, _, _, _ => False
  | n + 1, v4, v5, st => w_X4_fittingFigures_L6q x1 x2  K (fun v4 v5 st => w_X4_fittingFigures_L6 x1 x2  K n v4 v5 st) v4 v5 st
def w_X4_fittingFigures (x1 : Int32) (x2 : Int32) (st : St) (K : Int32 → St → Prop) : Prop :=
  ∃ n, w_X4_fittingFigures_L6 x1 x2  K n 0 0 st
def w_X4_hateMadeUp (x1 : Int32) (x2 : Int32) (st : St) (K : Int32 → St → Prop) : Prop :=
  w_X1_become 99 11 st (fun st8 => w_X1_hateOf 11 x1 x2 st8 (fun r23 st23 => w_X1_setHate 99 x1 x2 (r23 / 2) st23 (fun st28 => w_X1_passWeeks 99 4 st28 (fun r36 st36 => w_X1_hateOf 99 x1 x2 st36 (fun r46 st46 => K r46 st46)))))
def w_X4_gain_b33 (x1 : Int32) (x2 : Int32) (x3 : Int32) (x4 : Int32) (x5 : Int32)  (K : Int32 → St → Prop) (v6 : Int32) (s0 : Int32) (st : St) : Prop :=
  w_X1_wageOf 11 x1 st (fun r41 st41 => K (((4 * r41) - (v6 / 2)) - s0) st41)
def w_X4_gain_b32 (x1 : Int32) (x2 : Int32) (x3 : Int32) (x4 : Int32) (x5 : Int32)  (K : Int32 → St → Prop) (v6 : Int32) (st : St) : Prop :=
  w_X4_gain_b33 x1 x2 x3 x4 x5  K v6 0 st
def w_X4_gain_b17 (x1 : Int32) (x2 : Int32) (x3 : Int32) (x4 : Int32) (x5 : Int32)  (K : Int32 → St → Prop) (s0 : Int32) (st : St) : Prop :=
  (¬ x2 = 1 → w_X4_gain_b32 x1 x2 x3 x4 x5  K s0 st) ∧ (x2 = 1 → (¬ x3 = 0 → w_X4_gain_b32 x1 x2 x3 x4 x5  K s0 st) ∧ (x3 = 0 → w_X4_gain_b33 x1 x2 x3 x4 x5  K s0 3 st))
def w_X4_gain_b15 (x1 : Int32) (x2 : Int32) (x3 : Int32) (x4 : Int32) (x5 : Int32)  (K : Int32 → St → Prop)  (st : St) : Prop :=
  w_X4_gain_b17 x1 x2 x3 x4 x5  K x4 st
def w_X4_gain (x1 : Int32) (x2 : Int32) (x3 : Int32) (x4 : Int32) (x5 : Int32) (st : St) (K : Int32 → St → Prop) : Prop :=
  (¬ x2 = 1 → w_X4_gain_b15 x1 x2 x3 x4 x5  K st) ∧ (x2 = 1 → (¬ x3 = 1 → w_X4_gain_b15 x1 x2 x3 x4 x5  K st) ∧ (x3 = 1 → w_X4_gain_b17 x1 x2 x3 x4 x5  K x5 st))
def w_X4_settled_b119 (x1 : Int32) (x2 : Int32)  (K : Int32 → St → Prop) (v6 : Int32) (v7 : Int32) (st : St) : Prop :=
  K ((10 * v6) + v7) st
def w_X4_settled_b128 (x1 : Int32) (x2 : Int32) (c19 : Int32 → Int32 → Int32 → St → Prop) (K : Int32 → St → Prop) (v3 : Int32) (v4 : Int32) (v5 : Int32) (st : St) : Prop :=
  c19 v3 v4 (v5 + 1) st
def w_X4_settled_b107 (x1 : Int32) (x2 : Int32) (c19 : Int32 → Int32 → Int32 → St → Prop) (K : Int32 → St → Prop) (v3 : Int32) (v4 : Int32) (v5 : Int32) (v6 : Int32) (v7 : Int32) (v8 : Int32) (s0 : Int32) (st : St) : Prop :=
  (v8 = 0 → w_X4_settled_b128 x1 x2 c19 K v3 v4 v5 st) ∧ (¬ v8 = 0 → (s0 = 0 → w_X4_settled_b128 x1 x2 c19 K v3 v4 v5 st) ∧ (¬ s0 = 0 → w_X4_settled_b119 x1 x2  K v6 v7 st))
def w_X4_settled_b71 (x1 : Int32) (x2 : Int32) (c19 : Int32 → Int32 → Int32 → St → Prop) (K : Int32 → St → Prop) (v3 : Int32) (v4 : Int32) (v5 : Int32) (v6 : Int32) (v7 : Int32) (s0 : Int32) (st : St) : Prop :=
  w_X4_gain x2 v7 v6 v3 v4 st (fun r82 st82 => w_X4_gain x2 (1 - v7) v6 v3 v4 st82 (fun r96 st96 => (r82 < r96 → w_X4_settled_b107 x1 x2 c19 K v3 v4 v5 v6 v7 s0 0 st96) ∧ (¬ r82 < r96 → w_X4_settled_b107 x1 x2 c19 K v3 v4 v5 v6 v7 s0 1 st96)))
def w_X4_settled_L19q (x1 : Int32) (x2 : Int32)  (K : Int32 → St → Prop) (c19 : Int32 → Int32 → Int32 → St → Prop) (v3 : Int32) (v4 : Int32) (v5 : Int32) (st : St) : Prop :=
  (4 ≤ v5 → K (-9) st) ∧ (¬ 4 ≤ v5 → w_X4_gain x1 (v5 / 2) (v5 - v5 / 2 * 2) v3 v4 st (fun r46 st46 => w_X4_gain x1 (1 - (v5 / 2)) (v5 - v5 / 2 * 2) v3 v4 st46 (fun r60 st60 => (r46 < r60 → w_X4_settled_b71 x1 x2 c19 K v3 v4 v5 (v5 / 2) (v5 - v5 / 2 * 2) 0 st60) ∧ (¬ r46 < r60 → w_X4_settled_b71 x1 x2 c19 K v3 v4 v5 (v5 / 2) (v5 - v5 / 2 * 2) 1 st60))))
def w_X4_settled_L19 (x1 : Int32) (x2 : Int32)  (K : Int32 → St → Prop) : Nat → Int32 → Int32 → Int32 → St → Prop
  | 0, _, _, _, _ => False
  | n + 1, v3, v4, v5, st => w_X4_settled_L19q x1 x2  K (fun v3 v4 v5 st => w_X4_settled_L19 x1 x2  K n v3 v4 v5 st) v3 v4 v5 st
def w_X4_settled (x1 : Int32) (x2 : Int32) (st : St) (K : Int32 → St → Prop) : Prop :=
  w_X4_hateAfter x1 x2 4 st (fun r4 st4 => w_X4_hateMadeUp x1 x2 st4 (fun r11 st11 => ∃ n, w_X4_settled_L19 x1 x2  K n r4 r11 0 st11))
def w_X4_meetingWays_b68 (x1 : Int32) (x2 : Int32) (x3 : Int32) (x4 : Int32) (x5 : Int32) (c6 : Int64 → Int32 → St → Prop) (c29 : Int64 → Int32 → Int32 → St → Prop) (K : Int64 → St → Prop) (v6 : Int64) (v8 : Int32) (v9 : Int32) (st : St) : Prop :=
  w_X1_passWeek 99 st (fun r72 st72 => c29 v6 v8 (v9 + 1) st72)
def w_X4_meetingWays_b113 (x1 : Int32) (x2 : Int32) (x3 : Int32) (x4 : Int32) (x5 : Int32) (c6 : Int64 → Int32 → St → Prop) (K : Int64 → St → Prop) (v6 : Int64) (v8 : Int32) (st : St) : Prop :=
  c6 v6 (v8 + 1) st
def w_X4_meetingWays_b82 (x1 : Int32) (x2 : Int32) (x3 : Int32) (x4 : Int32) (x5 : Int32) (c6 : Int64 → Int32 → St → Prop) (K : Int64 → St → Prop) (v6 : Int64) (v8 : Int32) (st : St) : Prop :=
  w_X1_isOpen 99 x3 st (fun r87 st87 => (r87 = 0 → w_X4_meetingWays_b113 x1 x2 x3 x4 x5 c6 K v6 v8 st87) ∧ (¬ r87 = 0 → w_J6_bitCount_0f7a4 v8 st87 (fun r103 st103 => w_X0_power (x5 - 1) (x4 - r103) st103 (fun r107 st107 => w_X4_meetingWays_b113 x1 x2 x3 x4 x5 c6 K (v6 + r107) v8 st107))))
def w_X4_meetingWays_L29q (x1 : Int32) (x2 : Int32) (x3 : Int32) (x4 : Int32) (x5 : Int32) (c6 : Int64 → Int32 → St → Prop) (K : Int64 → St → Prop) (c29 : Int64 → Int32 → Int32 → St → Prop) (v6 : Int64) (v8 : Int32) (v9 : Int32) (st : St) : Prop :=
  (x4 ≤ v9 → w_X4_meetingWays_b82 x1 x2 x3 x4 x5 c6 K v6 v8 st) ∧ (¬ x4 ≤ v9 → w_X8_bit v8 v9 st (fun r40 st40 => (¬ r40 = 1 → w_X4_meetingWays_b68 x1 x2 x3 x4 x5 c6 c29 K v6 v8 v9 st40) ∧ (r40 = 1 → w_X1_hateOf 99 x1 x2 st40 (fun r59 st59 => w_X1_setHate 99 x1 x2 (r59 - 10) st59 (fun st65 => w_X4_meetingWays_b68 x1 x2 x3 x4 x5 c6 c29 K v6 v8 v9 st65)))))
def w_X4_meetingWays_L29 (x1 : Int32) (x2 : Int32) (x3 : Int32) (x4 : Int32) (x5 : Int32) (c6 : Int64 → Int32 → St → Prop) (K : Int64 → St → Prop) : Nat → Int64 → Int32 → Int32 → St → Prop
  | 0, _, _, _, _ => False
  | n + 1, v6, v8, v9, st => w_X4_meetingWays_L29q x1 x2 x3 x4 x5 c6 K (fun v6 v8 v9 st => w_X4_meetingWays_L29 x1 x2 x3 x4 x5 c6 K n v6 v8 v9 st) v6 v8 v9 st
def w_X4_meetingWays_L6q (x1 : Int32) (x2 : Int32) (x3 : Int32) (x4 : Int32) (x5 : Int32)  (K : Int64 → St → Prop) (c6 : Int64 → Int32 → St → Prop) (v6 : Int64) (v8 : Int32) (st : St) : Prop :=
  (((1 : Int32) <<< (x4 &&& 31)) ≤ v8 → K v6 st) ∧ (¬ ((1 : Int32) <<< (x4 &&& 31)) ≤ v8 → w_X1_become 99 11 st (fun st23 => ∃ n, w_X4_meetingWays_L29 x1 x2 x3 x4 x5 c6 K n v6 v8 0 st23))
def w_X4_meetingWays_L6 (x1 : Int32) (x2 : Int32) (x3 : Int32) (x4 : Int32) (x5 : Int32)  (K : Int64 → St → Prop) : Nat → Int64 → Int32 → St → Prop
  | 0, _, _, _ => False
  | n + 1, v6, v8, st => w_X4_meetingWays_L6q x1 x2 x3 x4 x5  K (fun v6 v8 st => w_X4_meetingWays_L6 x1 x2 x3 x4 x5  K n v6 v8 st) v6 v8 st
def w_X4_meetingWays (x1 : Int32) (x2 : Int32) (x3 : Int32) (x4 : Int32) (x5 : Int32) (st : St) (K : Int64 → St → Prop) : Prop :=
  ∃ n, w_X4_meetingWays_L6 x1 x2 x3 x4 x5  K n 0 0 st
def w_X4_byLot_b101 (x1 : Int32) (x2 : Int32) (x3 : Int32) (c12 : Int32 → Int32 → Int32 → Int32 → St → Prop) (c32 : Int32 → Int32 → Int32 → Int32 → Int32 → St → Prop) (K : Int32 → St → Prop) (v4 : Int32) (v5 : Int32) (v6 : Int32) (v7 : Int32) (v8 : Int32) (st : St) : Prop :=
  c32 v4 v5 v6 v7 (v8 + 1) st
def w_X4_byLot_L50q (x1 : Int32) (x2 : Int32) (x3 : Int32) (c12 : Int32 → Int32 → Int32 → Int32 → St → Prop) (c32 : Int32 → Int32 → Int32 → Int32 → Int32 → St → Prop) (K : Int32 → St → Prop) (c50 : Int32 → Int32 → Int32 → Int32 → Int32 → Int32 → St → Prop) (v4 : Int32) (v5 : Int32) (v6 : Int32) (v7 : Int32) (v8 : Int32) (v9 : Int32) (st : St) : Prop :=
  w_X1_keeperCount 11 st (fun r56 st56 => (r56 ≤ v9 → w_X4_byLot_b101 x1 x2 x3 c12 c32 K v4 v5 v6 v7 v8 st56) ∧ (¬ r56 ≤ v9 → w_X1_setHate 99 v8 v9 (((((v4 * 1103515245) + 12345) &&& 2147483647) / 65536) - ((((v4 * 1103515245) + 12345) &&& 2147483647) / 65536) / 60 * 60) st56 (fun st92 => c50 ((v4 * 1103515245) + 12345) v5 v6 v7 v8 (v9 + 1) st92)))
def w_X4_byLot_L50 (x1 : Int32) (x2 : Int32) (x3 : Int32) (c12 : Int32 → Int32 → Int32 → Int32 → St → Prop) (c32 : Int32 → Int32 → Int32 → Int32 → Int32 → St → Prop) (K : Int32 → St → Prop) : Nat → Int32 → Int32 → Int32 → Int32 → Int32 → Int32 → St → Prop
  | 0, _, _, _, _, _, _, _ => False
  | n + 1, v4, v5, v6, v7, v8, v9, st => w_X4_byLot_L50q x1 x2 x3 c12 c32 K (fun v4 v5 v6 v7 v8 v9 st => w_X4_byLot_L50 x1 x2 x3 c12 c32 K n v4 v5 v6 v7 v8 v9 st) v4 v5 v6 v7 v8 v9 st
def w_X4_byLot_b107 (x1 : Int32) (x2 : Int32) (x3 : Int32) (c12 : Int32 → Int32 → Int32 → Int32 → St → Prop) (K : Int32 → St → Prop) (v4 : Int32) (v5 : Int32) (v6 : Int32) (v7 : Int32) (st : St) : Prop :=
  w_X1_passWeeks 99 10 st (fun r115 st115 => w_X1_openCount 11 st115 (fun r122 st122 => w_X1_allHate 99 st122 (fun r135 st135 => c12 v4 (v5 + (r115 - r122)) (v6 + r135) (v7 + 1) st135)))
def w_X4_byLot_L32q (x1 : Int32) (x2 : Int32) (x3 : Int32) (c12 : Int32 → Int32 → Int32 → Int32 → St → Prop) (K : Int32 → St → Prop) (c32 : Int32 → Int32 → Int32 → Int32 → Int32 → St → Prop) (v4 : Int32) (v5 : Int32) (v6 : Int32) (v7 : Int32) (v8 : Int32) (st : St) : Prop :=
  w_X1_keeperCount 11 st (fun r38 st38 => (r38 ≤ v8 → w_X4_byLot_b107 x1 x2 x3 c12 K v4 v5 v6 v7 st38) ∧ (¬ r38 ≤ v8 → ∃ n, w_X4_byLot_L50 x1 x2 x3 c12 c32 K n v4 v5 v6 v7 v8 (v8 + 1) st38))
def w_X4_byLot_L32 (x1 : Int32) (x2 : Int32) (x3 : Int32) (c12 : Int32 → Int32 → Int32 → Int32 → St → Prop) (K : Int32 → St → Prop) : Nat → Int32 → Int32 → Int32 → Int32 → Int32 → St → Prop
  | 0, _, _, _, _, _, _ => False
  | n + 1, v4, v5, v6, v7, v8, st => w_X4_byLot_L32q x1 x2 x3 c12 K (fun v4 v5 v6 v7 v8 st => w_X4_byLot_L32 x1 x2 x3 c12 K n v4 v5 v6 v7 v8 st) v4 v5 v6 v7 v8 st
def w_X4_byLot_b147 (x1 : Int32) (x2 : Int32) (x3 : Int32)  (K : Int32 → St → Prop) (v5 : Int32) (v6 : Int32) (st : St) : Prop :=
  (¬ x3 = 0 → K v6 st) ∧ (x3 = 0 → K v5 st)
def w_X4_byLot_L12q (x1 : Int32) (x2 : Int32) (x3 : Int32)  (K : Int32 → St → Prop) (c12 : Int32 → Int32 → Int32 → Int32 → St → Prop) (v4 : Int32) (v5 : Int32) (v6 : Int32) (v7 : Int32) (st : St) : Prop :=
  (x1 ≤ v7 → w_X4_byLot_b147 x1 x2 x3  K v5 v6 st) ∧ (¬ x1 ≤ v7 → w_X1_become 99 11 st (fun st26 => ∃ n, w_X4_byLot_L32 x1 x2 x3 c12 K n v4 v5 v6 v7 0 st26))
def w_X4_byLot_L12 (x1 : Int32) (x2 : Int32) (x3 : Int32)  (K : Int32 → St → Prop) : Nat → Int32 → Int32 → Int32 → Int32 → St → Prop
  | 0, _, _, _, _, _ => False
  | n + 1, v4, v5, v6, v7, st => w_X4_byLot_L12q x1 x2 x3  K (fun v4 v5 v6 v7 st => w_X4_byLot_L12 x1 x2 x3  K n v4 v5 v6 v7 st) v4 v5 v6 v7 st
def w_X4_byLot (x1 : Int32) (x2 : Int32) (x3 : Int32) (st : St) (K : Int32 → St → Prop) : Prop :=
  ∃ n, w_X4_byLot_L12 x1 x2 x3  K n x2 0 0 0 st
def w_X5_size  (st : St) (K : Int32 → St → Prop) : Prop :=
  K (st 2 2) st
def w_X5_forget  (st : St) (K : St → Prop) : Prop :=
  K (u2 st 2 2 0)
def w_X5_country (x1 : Int32) (st : St) (K : Option Nat → St → Prop) : Prop :=
  (x1 < 0 → K none st) ∧ (¬ x1 < 0 → (8 ≤ x1 → K none st) ∧ (¬ 8 ≤ x1 → vp_in x1 8 ∧ (K (some (35 + 8 * (x1).toNatClampNeg)) st)))
def w_X5_remember (k1 : Nat) (st : St) (K : St → Prop) : Prop :=
  w_X5_country (st 2 1) st (fun r5 st5 => (r5 = none → K st5) ∧ (∀ q5 : Nat, r5 = some q5 → w_X1_become q5 k1 st5 (fun st15 => K (u2 (u2 st15 2 1 (((st15 2 1) + 1) - ((st15 2 1) + 1) / 8 * 8)) 2 2 (if (((u2 st15 2 1 (((st15 2 1) + 1) - ((st15 2 1) + 1) / 8 * 8)) 2 2) + 1) < 8 then (((u2 st15 2 1 (((st15 2 1) + 1) - ((st15 2 1) + 1) / 8 * 8)) 2 2) + 1) else 8)))))
def w_X5_takeBack (k1 : Nat) (st : St) (K : St → Prop) : Prop :=
  w_X5_country ((((st 2 1) + 8) - 1) - (((st 2 1) + 8) - 1) / 8 * 8) st (fun r15 st15 => (r15 = none → ((st15 2 2) ≤ 0 → K st15) ∧ (¬ (st15 2 2) ≤ 0 → K st15)) ∧ (∀ q15 : Nat, r15 = some q15 → ((st15 2 2) ≤ 0 → K st15) ∧ (¬ (st15 2 2) ≤ 0 → w_X1_become k1 q15 st15 (fun st36 => K (u2 (u2 st36 2 1 ((((st 2 1) + 8) - 1) - (((st 2 1) + 8) - 1) / 8 * 8)) 2 2 (((u2 st36 2 1 ((((st 2 1) + 8) - 1) - (((st 2 1) + 8) - 1) / 8 * 8)) 2 2) - 1))))))
def w_X6_isFull  (st : St) (K : Int32 → St → Prop) : Prop :=
  ((st 6 1) < 12 → K 0 st) ∧ (¬ (st 6 1) < 12 → K 1 st)
def w_X6_add (x1 : Int32) (st : St) (K : Int32 → St → Prop) : Prop :=
  w_X8_put 7 12 (st 6 1) x1 st (fun st9 => K ((u2 st9 6 1 (if ((st9 6 1) + 1) < 12 then ((st9 6 1) + 1) else 12)) 6 1) (u2 st9 6 1 (if ((st9 6 1) + 1) < 12 then ((st9 6 1) + 1) else 12)))
def w_X6_empty  (st : St) (K : St → Prop) : Prop :=
  K (u2 st 6 1 0)
def w_X7_size  (st : St) (K : Int32 → St → Prop) : Prop :=
  K (st 4 1) st
def w_X7_isFull  (st : St) (K : Int32 → St → Prop) : Prop :=
  ((st 4 1) < 96 → K 0 st) ∧ (¬ (st 4 1) < 96 → K 1 st)
def w_X7_add (x1 : Int32) (st : St) (K : Int32 → St → Prop) : Prop :=
  w_X8_put 5 96 (st 4 1) x1 st (fun st9 => K ((u2 st9 4 1 (if ((st9 4 1) + 1) < 96 then ((st9 4 1) + 1) else 96)) 4 1) (u2 st9 4 1 (if ((st9 4 1) + 1) < 96 then ((st9 4 1) + 1) else 96)))
def w_X7_empty  (st : St) (K : St → Prop) : Prop :=
  K (u2 st 4 1 0)
def w_X7_sign (x1 : Int32) (st : St) (K : Int32 → St → Prop) : Prop :=
  ((st 4 1) ≤ x1 → K (-1) st) ∧ (¬ (st 4 1) ≤ x1 → w_X8_at 5 96 x1 st (fun r13 st13 => K r13 st13))
def w_X7_digitsBehind (x0 : Int32) (st : St) (K : Int32 → St → Prop) : Prop :=
  (x0 = 103 → K 2 st) ∧ (¬ x0 = 103 → (x0 = 104 → K 4 st) ∧ (¬ x0 = 104 → (x0 = 107 → K 3 st) ∧ (¬ x0 = 107 → (x0 = 108 → K 3 st) ∧ (¬ x0 = 108 → (x0 = 115 → K 1 st) ∧ (¬ x0 = 115 → (x0 = 119 → K 2 st) ∧ (¬ x0 = 119 → K 0 st))))))
def w_X7_isDigit (x1 : Int32) (st : St) (K : Int32 → St → Prop) : Prop :=
  w_X7_sign x1 st (fun r2 st2 => (r2 < 48 → K 0 st2) ∧ (¬ r2 < 48 → w_X7_sign x1 st2 (fun r12 st12 => (57 < r12 → K 0 st12) ∧ (¬ 57 < r12 → K 1 st12))))
def w_X7_brokenPlace_b79  (c13 : Int32 → Int32 → St → Prop) (K : Int32 → St → Prop) (v2 : Int32) (v4 : Int32) (st : St) : Prop :=
  w_X7_sign v4 st (fun r82 st82 => (r82 = 59 → c13 (v4 + 1) (v2 + 1) st82) ∧ (¬ r82 = 59 → K v4 st82))
def w_X7_brokenPlace_L54q  (c13 : Int32 → Int32 → St → Prop) (K : Int32 → St → Prop) (c54 : Int32 → Int32 → Int32 → St → Prop) (v2 : Int32) (v4 : Int32) (v5 : Int32) (st : St) : Prop :=
  (v4 ≤ v5 → w_X7_brokenPlace_b79  c13 K v2 v4 st) ∧ (¬ v4 ≤ v5 → w_X7_isDigit v5 st (fun r64 st64 => (¬ r64 = 0 → c54 v2 v4 (v5 + 1) st64) ∧ (r64 = 0 → K v5 st64)))
def w_X7_brokenPlace_L54  (c13 : Int32 → Int32 → St → Prop) (K : Int32 → St → Prop) : Nat → Int32 → Int32 → Int32 → St → Prop
  | 0, _, _, _, _ => False
  | n + 1, v2, v4, v5, st => w_X7_brokenPlace_L54q  c13 K (fun v2 v4 v5 st => w_X7_brokenPlace_L54  c13 K n v2 v4 v5 st) v2 v4 v5 st
def w_X7_brokenPlace_L13q   (K : Int32 → St → Prop) (c13 : Int32 → Int32 → St → Prop) (v1 : Int32) (v2 : Int32) (st : St) : Prop :=
  (96 ≤ v2 → K (-1) st) ∧ (¬ 96 ≤ v2 → ((st 4 1) ≤ v1 → K (-1) st) ∧ (¬ (st 4 1) ≤ v1 → w_X7_sign v1 st (fun r29 st29 => w_X7_digitsBehind r29 st29 (fun r32 st32 => (¬ r32 = 0 → ∃ n, w_X7_brokenPlace_L54  c13 K n v2 ((v1 + r32) + 1) (v1 + 1) st32) ∧ (r32 = 0 → K v1 st32)))))
def w_X7_brokenPlace_L13   (K : Int32 → St → Prop) : Nat → Int32 → Int32 → St → Prop
  | 0, _, _, _ => False
  | n + 1, v1, v2, st => w_X7_brokenPlace_L13q   K (fun v1 v2 st => w_X7_brokenPlace_L13   K n v1 v2 st) v1 v2 st
def w_X7_brokenPlace  (st : St) (K : Int32 → St → Prop) : Prop :=
  (¬ (st 4 1) = 0 → ∃ n, w_X7_brokenPlace_L13   K n 0 0 st) ∧ ((st 4 1) = 0 → K 0 st)
def w_X7_digit (x1 : Int32) (st : St) (K : Int32 → St → Prop) : Prop :=
  w_X7_sign x1 st (fun r2 st2 => K (r2 - 48) st2)
def w_X7_twoDigits (x1 : Int32) (st : St) (K : Int32 → St → Prop) : Prop :=
  w_X7_digit x1 st (fun r4 st4 => w_X7_digit (x1 + 1) st4 (fun r12 st12 => K ((10 * r4) + r12) st12))
def w_X8_isTown (x0 : Int32) (st : St) (K : Int32 → St → Prop) : Prop :=
  (x0 < 0 → K 0 st) ∧ (¬ x0 < 0 → (4 ≤ x0 → K 0 st) ∧ (¬ 4 ≤ x0 → K 1 st))
def w_X7_isRight (x1 : Int32) (k2 : Nat) (st : St) (K : Int32 → St → Prop) : Prop :=
  w_X7_digit (x1 + 1) st (fun r4 st4 => w_X7_digit (x1 + 2) st4 (fun r12 st12 => w_X7_digit (x1 + 3) st12 (fun r21 st21 => w_X7_twoDigits (x1 + 1) st21 (fun r30 st30 => w_X7_sign x1 st30 (fun r37 st37 => (r37 = 103 → w_X1_hasKeeper k2 r4 st37 (fun r166 st166 => (r166 = 0 → K 0 st166) ∧ (¬ r166 = 0 → w_X8_isTown r12 st166 (fun r174 st174 => (r174 = 0 → K 0 st174) ∧ (¬ r174 = 0 → K 1 st174))))) ∧ (¬ r37 = 103 → (r37 = 104 → w_X1_areTwo k2 r4 r12 st37 (fun r139 st139 => (r139 = 0 ∨ r139 = 1) ∧ K r139 st139)) ∧ (¬ r37 = 104 → (r37 = 107 → (6 ≤ r4 → K 0 st37) ∧ (¬ 6 ≤ r4 → w_X8_isTown r21 st37 (fun r116 st116 => (r116 = 0 → K 0 st116) ∧ (¬ r116 = 0 → w_X1_hasKeeperRoom k2 st116 (fun r123 st123 => (r123 = 0 → K 0 st123) ∧ (¬ r123 = 0 → K 1 st123)))))) ∧ (¬ r37 = 107 → (r37 = 108 → w_X8_isTown r21 st37 (fun r145 st145 => (r145 = 0 → K 0 st145) ∧ (¬ r145 = 0 → w_X1_hasLetterRoom k2 st145 (fun r152 st152 => (r152 = 0 → K 0 st152) ∧ (¬ r152 = 0 → K 1 st152))))) ∧ (¬ r37 = 108 → (r37 = 115 → w_X1_hasLetter k2 r4 st37 (fun r188 st188 => (r188 = 0 ∨ r188 = 1) ∧ K r188 st188)) ∧ (¬ r37 = 115 → (r30 < 1 → K 0 st37) ∧ (¬ r30 < 1 → (60 < r30 → K 0 st37) ∧ (¬ 60 < r30 → w_X1_weekNow k2 st37 (fun r211 st211 => ((999 - r211) < r30 → K 0 st211) ∧ (¬ (999 - r211) < r30 → K 1 st211))))))))))))))
def w_X7_comes (x1 : Int32) (k2 : Nat) (st : St) (K : St → Prop) : Prop :=
  w_X7_digit (x1 + 1) st (fun r4 st4 => w_X7_digit (x1 + 2) st4 (fun r12 st12 => w_X7_sign x1 st12 (fun r19 st19 => (r19 = 103 → w_X1_move k2 r4 r12 st19 (fun st149 => K st149)) ∧ (¬ r19 = 103 → (r19 = 104 → w_X7_twoDigits (x1 + 3) st19 (fun r114 st114 => w_X1_setHate k2 r4 r12 r114 st114 (fun st117 => K st117))) ∧ (¬ r19 = 104 → (r19 = 107 → w_X7_digit (x1 + 3) st19 (fun r96 st96 => w_X1_addKeeper k2 r4 r12 r96 st96 (fun r99 st99 => K st99))) ∧ (¬ r19 = 107 → (r19 = 108 → w_X7_digit (x1 + 3) st19 (fun r128 st128 => w_X7_twoDigits (x1 + 1) st128 (fun r135 st135 => w_X1_addLetter k2 r128 r135 st135 (fun r138 st138 => K st138)))) ∧ (¬ r19 = 108 → (r19 = 115 → w_X1_turnSeal k2 r4 st19 (fun st157 => K st157)) ∧ (¬ r19 = 115 → w_X7_twoDigits (x1 + 1) st19 (fun r168 st168 => w_X1_passWeeks k2 r168 st168 (fun r171 st171 => K st171))))))))))
def w_X7_tellTo_b54 (k1 : Nat)  (K : Int32 → St → Prop) (v4 : Int32) (st : St) : Prop :=
  K ((-2000) - v4) st
def w_X7_tellTo_L24q (k1 : Nat)  (K : Int32 → St → Prop) (c24 : Int32 → Int32 → Int32 → St → Prop) (v3 : Int32) (v4 : Int32) (v5 : Int32) (st : St) : Prop :=
  (96 ≤ v5 → K v3 st) ∧ (¬ 96 ≤ v5 → ((st 4 1) ≤ v4 → K v3 st) ∧ (¬ (st 4 1) ≤ v4 → w_X7_isRight v4 k1 st (fun r48 st48 => (¬ r48 = 0 → w_X7_comes v4 k1 st48 (fun st65 => w_X7_sign v4 st65 (fun r76 st76 => w_X7_digitsBehind r76 st76 (fun r79 st79 => c24 (v3 + 1) (v4 + (r79 + 2)) (v5 + 1) st79)))) ∧ (r48 = 0 → w_X7_tellTo_b54 k1  K v4 st48))))
def w_X7_tellTo_L24 (k1 : Nat)  (K : Int32 → St → Prop) : Nat → Int32 → Int32 → Int32 → St → Prop
  | 0, _, _, _, _ => False
  | n + 1, v3, v4, v5, st => w_X7_tellTo_L24q k1  K (fun v3 v4 v5 st => w_X7_tellTo_L24 k1  K n v3 v4 v5 st) v3 v4 v5 st
def w_X7_tellTo (k1 : Nat) (st : St) (K : Int32 → St → Prop) : Prop :=
  w_X7_brokenPlace  st (fun r1 st1 => (r1 = (-1) → ∃ n, w_X7_tellTo_L24 k1  K n 0 0 0 st1) ∧ (¬ r1 = (-1) → K ((-1000) - r1) st1))
def w_X8_range (x0 : Int32) (x1 : Int32) (x2 : Int32) (st : St) (K : Int32 → St → Prop) : Prop :=
  (x1 ≤ x0 → (x0 ≤ x2 → K 0 st) ∧ (¬ x0 ≤ x2 → K (-6) st)) ∧ (¬ x1 ≤ x0 → K (-4) st)
def w_X8_firstOf (x0 : Int32) (x1 : Int32) (x2 : Int32) (st : St) (K : Int32 → St → Prop) : Prop :=
  (x0 = 0 → (x1 = 0 → K x2 st) ∧ (¬ x1 = 0 → K x1 st)) ∧ (¬ x0 = 0 → K x0 st)
def w_X8_refused (x1 : Int32) (st : St) (K : Int32 → St → Prop) : Prop :=
  w_X8_at 1 7 (-x1) st (fun r12 st12 => w_X8_put 1 7 (-x1) (r12 + 1) st12 (fun st17 => K x1 st17))
def w_X8_feed_b24 (x1 : Int32)  (K : Int32 → St → Prop) (s0 : Int32) (s1 : Int32) (st : St) : Prop :=
  w_X8_firstOf s1 s0 0 st (fun r25 st25 => (r25 = 0 → w_X7_add x1 st25 (fun r46 st46 => K r46 st46)) ∧ (¬ r25 = 0 → w_X8_refused r25 st25 (fun r35 st35 => K r35 st35)))
def w_X8_feed (x1 : Int32) (st : St) (K : Int32 → St → Prop) : Prop :=
  w_X8_range x1 0 255 st (fun r5 st5 => w_X7_isFull  st5 (fun r12 st12 => (r12 = 0 → w_X8_feed_b24 x1  K 0 r5 st12) ∧ (¬ r12 = 0 → w_X8_feed_b24 x1  K (-6) r5 st12)))
def w_X8_land  (st : St) (K : Int32 → St → Prop) : Prop :=
  w_X1_become 19 11 st (fun st8 => w_X7_tellTo 19 st8 (fun r19 st19 => w_X7_empty  st19 (fun st27 => (r19 ≤ 0 → K r19 st27) ∧ (¬ r19 ≤ 0 → w_X1_become 11 19 st27 (fun st42 => w_X5_forget  st42 (fun st49 => K r19 st49))))))
def w_X8_keeperRefusal (x1 : Int32) (st : St) (K : Int32 → St → Prop) : Prop :=
  w_X1_hasKeeper 11 x1 st (fun r5 st5 => (r5 = 0 → K (-1) st5) ∧ (¬ r5 = 0 → K 0 st5))
def w_X8_choice (x0 : Int32) (x1 : Int32) (st : St) (K : Int32 → St → Prop) : Prop :=
  (x0 < 0 → K (-2) st) ∧ (¬ x0 < 0 → (x1 < x0 → K (-2) st) ∧ (¬ x1 < x0 → K 0 st))
def w_X8_keeperOf (x1 : Int32) (x2 : Int32) (st : St) (K : Int32 → St → Prop) : Prop :=
  w_X8_keeperRefusal x1 st (fun r2 st2 => w_X8_choice x2 5 st2 (fun r7 st7 => w_X8_firstOf r2 r7 0 st7 (fun r11 st11 => (r11 = 0 → (x2 = 0 → w_X1_kindOf 11 x1 st11 (fun r65 st65 => K r65 st65)) ∧ (¬ x2 = 0 → (x2 = 1 → w_X1_figureOf 11 x1 st11 (fun r74 st74 => K r74 st74)) ∧ (¬ x2 = 1 → (x2 = 2 → w_X1_townOf 11 x1 st11 (fun r83 st83 => K r83 st83)) ∧ (¬ x2 = 2 → (x2 = 3 → w_X1_fadeOf 11 x1 st11 (fun r92 st92 => K r92 st92)) ∧ (¬ x2 = 3 → (x2 = 4 → w_X1_stirOf 11 x1 st11 (fun r101 st101 => K r101 st101)) ∧ (¬ x2 = 4 → w_X1_wageOf 11 x1 st11 (fun r110 st110 => K r110 st110))))))) ∧ (¬ r11 = 0 → w_X8_refused r11 st11 (fun r21 st21 => K r21 st21)))))
def w_X8_letterRefusal (x1 : Int32) (st : St) (K : Int32 → St → Prop) : Prop :=
  w_X1_hasLetter 11 x1 st (fun r5 st5 => (r5 = 0 → K (-1) st5) ∧ (¬ r5 = 0 → K 0 st5))
def w_X8_letterOf (x1 : Int32) (x2 : Int32) (st : St) (K : Int32 → St → Prop) : Prop :=
  w_X8_letterRefusal x1 st (fun r2 st2 => w_X8_choice x2 3 st2 (fun r7 st7 => w_X8_firstOf r2 r7 0 st7 (fun r11 st11 => (r11 = 0 → (x2 = 0 → w_X1_depthOf 11 x1 st11 (fun r57 st57 => K r57 st57)) ∧ (¬ x2 = 0 → (x2 = 1 → w_X1_letterTownOf 11 x1 st11 (fun r66 st66 => K r66 st66)) ∧ (¬ x2 = 1 → (x2 = 2 → w_X1_isOpen 11 x1 st11 (fun r75 st75 => (r75 = 0 → K 0 st75) ∧ (¬ r75 = 0 → K 1 st75))) ∧ (¬ x2 = 2 → w_X1_opener 11 x1 st11 (fun r92 st92 => K r92 st92))))) ∧ (¬ r11 = 0 → w_X8_refused r11 st11 (fun r21 st21 => K r21 st21)))))
def w_X8_twoRefusal (x1 : Int32) (x2 : Int32) (st : St) (K : Int32 → St → Prop) : Prop :=
  w_X1_areTwo 11 x1 x2 st (fun r6 st6 => (r6 = 0 → K (-1) st6) ∧ (¬ r6 = 0 → K 0 st6))
def w_X8_hate (x1 : Int32) (x2 : Int32) (st : St) (K : Int32 → St → Prop) : Prop :=
  w_X8_twoRefusal x1 x2 st (fun r3 st3 => (r3 = 0 → w_X1_hateOf 11 x1 x2 st3 (fun r25 st25 => K r25 st25)) ∧ (¬ r3 = 0 → w_X8_refused r3 st3 (fun r13 st13 => K r13 st13)))
def w_X8_count (x1 : Int32) (st : St) (K : Int32 → St → Prop) : Prop :=
  (x1 = 0 → w_X1_keeperCount 11 st (fun r52 st52 => K r52 st52)) ∧ (¬ x1 = 0 → (x1 = 1 → w_X1_letterCount 11 st (fun r60 st60 => K r60 st60)) ∧ (¬ x1 = 1 → (x1 = 2 → w_X1_weekNow 11 st (fun r68 st68 => K r68 st68)) ∧ (¬ x1 = 2 → (x1 = 3 → w_X1_openBits 11 st (fun r76 st76 => K r76 st76)) ∧ (¬ x1 = 3 → (x1 = 4 → w_X1_allHate 11 st (fun r84 st84 => K r84 st84)) ∧ (¬ x1 = 4 → (x1 = 5 → w_X7_size  st (fun r92 st92 => K r92 st92)) ∧ (¬ x1 = 5 → (x1 = 6 → w_X6_size  st (fun r100 st100 => K r100 st100)) ∧ (¬ x1 = 6 → (x1 = 7 → w_X5_size  st (fun r108 st108 => K r108 st108)) ∧ (¬ x1 = 7 → (x1 < 11 → K (-9) st) ∧ (¬ x1 < 11 → (16 < x1 → K (-9) st) ∧ (¬ 16 < x1 → w_X8_at 1 7 (x1 - 10) st (fun r132 st132 => K r132 st132)))))))))))
def w_X8_townRefusal (x0 : Int32) (st : St) (K : Int32 → St → Prop) : Prop :=
  w_X8_isTown x0 st (fun r1 st1 => (r1 = 0 → K (-1) st1) ∧ (¬ r1 = 0 → K 0 st1))
def w_X8_keeper_b34 (x1 : Int32) (x2 : Int32) (x3 : Int32)  (K : Int32 → St → Prop) (v4 : Int32) (s0 : Int32) (st : St) : Prop :=
  w_X8_range x2 0 9 st (fun r38 st38 => w_X8_firstOf s0 r38 v4 st38 (fun r43 st43 => w_X8_townRefusal x3 st43 (fun r51 st51 => w_X8_firstOf r43 r51 0 st51 (fun r55 st55 => (r55 = 0 → w_X5_forget  st55 (fun st76 => w_X1_addKeeper 11 x1 x2 x3 st76 (fun r86 st86 => K r86 st86))) ∧ (¬ r55 = 0 → w_X8_refused r55 st55 (fun r68 st68 => K r68 st68))))))
def w_X8_keeper_b28 (x1 : Int32) (x2 : Int32) (x3 : Int32)  (K : Int32 → St → Prop) (v4 : Int32) (st : St) : Prop :=
  w_X8_keeper_b34 x1 x2 x3  K v4 (-2) st
def w_X8_keeper_b16 (x1 : Int32) (x2 : Int32) (x3 : Int32)  (K : Int32 → St → Prop) (s0 : Int32) (st : St) : Prop :=
  (x1 < 0 → w_X8_keeper_b28 x1 x2 x3  K s0 st) ∧ (¬ x1 < 0 → (x1 < 6 → w_X8_keeper_b34 x1 x2 x3  K s0 0 st) ∧ (¬ x1 < 6 → w_X8_keeper_b28 x1 x2 x3  K s0 st))
def w_X8_keeper (x1 : Int32) (x2 : Int32) (x3 : Int32) (st : St) (K : Int32 → St → Prop) : Prop :=
  w_X1_hasKeeperRoom 11 st (fun r4 st4 => (r4 = 0 → w_X8_keeper_b16 x1 x2 x3  K (-6) st4) ∧ (¬ r4 = 0 → w_X8_keeper_b16 x1 x2 x3  K 0 st4))
def w_X8_letter_b16 (x1 : Int32) (x2 : Int32)  (K : Int32 → St → Prop) (s0 : Int32) (st : St) : Prop :=
  w_X8_townRefusal x1 st (fun r18 st18 => w_X8_range x2 0 99 st18 (fun r25 st25 => w_X8_firstOf r18 r25 s0 st25 (fun r29 st29 => (r29 = 0 → w_X5_forget  st29 (fun st50 => w_X1_addLetter 11 x1 x2 st50 (fun r59 st59 => K r59 st59))) ∧ (¬ r29 = 0 → w_X8_refused r29 st29 (fun r42 st42 => K r42 st42)))))
def w_X8_letter (x1 : Int32) (x2 : Int32) (st : St) (K : Int32 → St → Prop) : Prop :=
  w_X1_hasLetterRoom 11 st (fun r4 st4 => (r4 = 0 → w_X8_letter_b16 x1 x2  K (-6) st4) ∧ (¬ r4 = 0 → w_X8_letter_b16 x1 x2  K 0 st4))
def w_X8_hates (x1 : Int32) (x2 : Int32) (x3 : Int32) (st : St) (K : Int32 → St → Prop) : Prop :=
  w_X8_twoRefusal x1 x2 st (fun r3 st3 => w_X8_range x3 0 99 st3 (fun r10 st10 => w_X8_firstOf r3 r10 0 st10 (fun r14 st14 => (r14 = 0 → w_X5_remember 11 st14 (fun st39 => w_X1_hateOf 11 x1 x2 st39 (fun r48 st48 => w_X1_setHate 11 x1 x2 x3 st48 (fun st60 => K r48 st60)))) ∧ (¬ r14 = 0 → w_X8_refused r14 st14 (fun r27 st27 => K r27 st27)))))
def w_X8_goes (x1 : Int32) (x2 : Int32) (st : St) (K : Int32 → St → Prop) : Prop :=
  w_X8_keeperRefusal x1 st (fun r2 st2 => w_X8_townRefusal x2 st2 (fun r6 st6 => w_X8_firstOf r2 r6 0 st6 (fun r10 st10 => (r10 = 0 → w_X5_remember 11 st10 (fun st32 => w_X1_townOf 11 x1 st32 (fun r40 st40 => w_X1_move 11 x1 x2 st40 (fun st51 => K r40 st51)))) ∧ (¬ r10 = 0 → w_X8_refused r10 st10 (fun r20 st20 => K r20 st20)))))
def w_X8_seals (x1 : Int32) (st : St) (K : Int32 → St → Prop) : Prop :=
  w_X8_letterRefusal x1 st (fun r2 st2 => (r2 = 0 → w_X5_remember 11 st2 (fun st24 => w_X1_turnSeal 11 x1 st24 (fun st32 => w_X1_isOpen 11 x1 st32 (fun r40 st40 => (r40 = 0 → K 0 st40) ∧ (¬ r40 = 0 → K 1 st40))))) ∧ (¬ r2 = 0 → w_X8_refused r2 st2 (fun r12 st12 => K r12 st12)))
def w_X8_weeks_b28 (x1 : Int32)  (K : Int32 → St → Prop) (s0 : Int32) (s1 : Int32) (st : St) : Prop :=
  w_X8_firstOf s1 s0 0 st (fun r29 st29 => (r29 = 0 → w_X5_remember 11 st29 (fun st51 => w_X1_passWeeks 11 x1 st51 (fun r59 st59 => K r59 st59))) ∧ (¬ r29 = 0 → w_X8_refused r29 st29 (fun r39 st39 => K r39 st39)))
def w_X8_weeks (x1 : Int32) (st : St) (K : Int32 → St → Prop) : Prop :=
  w_X8_range x1 1 60 st (fun r4 st4 => w_X1_weekNow 11 st4 (fun r15 st15 => (x1 ≤ (999 - r15) → w_X8_weeks_b28 x1  K 0 r4 st15) ∧ (¬ x1 ≤ (999 - r15) → w_X8_weeks_b28 x1  K (-6) r4 st15)))
def w_X8_back  (st : St) (K : Int32 → St → Prop) : Prop :=
  w_X5_size  st (fun r4 st4 => (¬ r4 = 0 → w_X5_takeBack 11 st4 (fun st25 => w_X5_size  st25 (fun r32 st32 => K r32 st32))) ∧ (r4 = 0 → w_X8_refused (-3) st4 (fun r13 st13 => K r13 st13)))
def w_X8_image  (st : St) (K : Int32 → St → Prop) : Prop :=
  w_X1_become 27 11 st (fun st8 => w_X1_weekNow 11 (u2 st8 0 3 1) (fun r20 st20 => K r20 st20))
def w_X8_restore  (st : St) (K : Int32 → St → Prop) : Prop :=
  (¬ (st 0 3) = 0 → w_X1_become 11 27 st (fun st22 => w_X5_forget  st22 (fun st29 => w_X1_weekNow 11 st29 (fun r36 st36 => K r36 st36)))) ∧ ((st 0 3) = 0 → w_X8_refused (-3) st (fun r10 st10 => K r10 st10))
def w_X8_row_b23 (x1 : Int32)  (K : Int32 → St → Prop) (s0 : Int32) (s1 : Int32) (st : St) : Prop :=
  w_X8_firstOf s1 s0 0 st (fun r24 st24 => (r24 = 0 → w_X6_add x1 st24 (fun r45 st45 => K r45 st45)) ∧ (¬ r24 = 0 → w_X8_refused r24 st24 (fun r34 st34 => K r34 st34)))
def w_X8_row (x1 : Int32) (st : St) (K : Int32 → St → Prop) : Prop :=
  w_X8_range x1 0 99 st (fun r4 st4 => w_X6_isFull  st4 (fun r11 st11 => (r11 = 0 → w_X8_row_b23 x1  K 0 r4 st11) ∧ (¬ r11 = 0 → w_X8_row_b23 x1  K (-6) r4 st11)))
def w_X8_judge (x1 : Int32) (st : St) (K : Int32 → St → Prop) : Prop :=
  w_X8_keeperRefusal x1 st (fun r2 st2 => (r2 = 0 → w_X3_firstMisjudged x1 st2 (fun r25 st25 => w_X6_empty  st25 (fun st33 => K r25 st33))) ∧ (¬ r2 = 0 → w_X8_refused r2 st2 (fun r12 st12 => K r12 st12)))
def w_X8_clear  (st : St) (K : Int32 → St → Prop) : Prop :=
  w_X6_size  st (fun r4 st4 => w_X6_empty  st4 (fun st12 => K r4 st12))
def w_X8_behind (x1 : Int32) (x2 : Int32) (x3 : Int32) (st : St) (K : Int32 → St → Prop) : Prop :=
  w_X8_twoRefusal x1 x2 st (fun r3 st3 => w_X8_range x3 0 60 st3 (fun r10 st10 => w_X8_firstOf r3 r10 0 st10 (fun r14 st14 => (r14 = 0 → w_X4_hateAfter x1 x2 x3 st14 (fun r40 st40 => K r40 st40)) ∧ (¬ r14 = 0 → w_X8_refused r14 st14 (fun r27 st27 => K r27 st27)))))
def w_X8_then (x1 : Int32) (x2 : Int32) (st : St) (K : Int32 → St → Prop) : Prop :=
  w_X8_range x1 0 60 st (fun r4 st4 => w_X8_choice x2 1 st4 (fun r9 st9 => w_X8_firstOf r4 r9 0 st9 (fun r13 st13 => (r13 = 0 → (¬ x2 = 0 → w_X4_allHateAfter x1 st13 (fun r47 st47 => K r47 st47)) ∧ (x2 = 0 → w_X4_openBitsAfter x1 st13 (fun r36 st36 => K r36 st36))) ∧ (¬ r13 = 0 → w_X8_refused r13 st13 (fun r23 st23 => K r23 st23)))))
def w_X8_when (x1 : Int32) (x2 : Int32) (st : St) (K : Int32 → St → Prop) : Prop :=
  w_X8_letterRefusal x1 st (fun r2 st2 => w_X8_choice x2 1 st2 (fun r7 st7 => w_X8_firstOf r2 r7 0 st7 (fun r11 st11 => (r11 = 0 → (¬ x2 = 0 → w_X4_openedBy x1 st11 (fun r45 st45 => K r45 st45)) ∧ (x2 = 0 → w_X4_weekOpened x1 st11 (fun r34 st34 => K r34 st34))) ∧ (¬ r11 = 0 → w_X8_refused r11 st11 (fun r21 st21 => K r21 st21)))))
def w_X8_lasts (x1 : Int32) (x2 : Int32) (x3 : Int32) (st : St) (K : Int32 → St → Prop) : Prop :=
  w_X8_twoRefusal x1 x2 st (fun r3 st3 => w_X8_range x3 0 99 st3 (fun r10 st10 => w_X8_firstOf r3 r10 0 st10 (fun r14 st14 => (r14 = 0 → w_X4_weekBelow x1 x2 x3 st14 (fun r40 st40 => K r40 st40)) ∧ (¬ r14 = 0 → w_X8_refused r14 st14 (fun r27 st27 => K r27 st27)))))
def w_X8_never (x1 : Int32) (st : St) (K : Int32 → St → Prop) : Prop :=
  w_X8_choice x1 1 st (fun r2 st2 => (r2 = 0 → (¬ x1 = 0 → w_X4_firstOpened  st2 (fun r34 st34 => K r34 st34)) ∧ (x1 = 0 → w_X4_sealedFar  st2 (fun r24 st24 => K r24 st24))) ∧ (¬ r2 = 0 → w_X8_refused r2 st2 (fun r12 st12 => K r12 st12)))
def w_X8_insult_b17 (x1 : Int32) (x2 : Int32) (x3 : Int32)  (K : Int32 → St → Prop) (s0 : Int32) (st : St) : Prop :=
  w_X8_twoRefusal x1 x2 st (fun r22 st22 => w_X8_letterRefusal x3 st22 (fun r27 st27 => w_X8_firstOf r22 r27 s0 st27 (fun r32 st32 => (r32 = 0 → w_X4_leastInsult x1 x2 x3 st32 (fun r58 st58 => K r58 st58)) ∧ (¬ r32 = 0 → w_X8_refused r32 st32 (fun r45 st45 => K r45 st45)))))
def w_X8_insult (x1 : Int32) (x2 : Int32) (x3 : Int32) (st : St) (K : Int32 → St → Prop) : Prop :=
  w_X1_isOpen 11 x3 st (fun r5 st5 => (r5 = 0 → w_X8_insult_b17 x1 x2 x3  K 0 st5) ∧ (¬ r5 = 0 → w_X8_insult_b17 x1 x2 x3  K (-3) st5))
def w_X8_used (x1 : Int32) (x2 : Int32) (x3 : Int32) (st : St) (K : Int32 → St → Prop) : Prop :=
  w_X8_twoRefusal x1 x2 st (fun r3 st3 => w_X8_range x3 0 60 st3 (fun r10 st10 => w_X8_firstOf r3 r10 0 st10 (fun r14 st14 => (r14 = 0 → w_X1_hateOf 11 x1 x2 st14 (fun r40 st40 => w_X4_hateAfter x1 x2 x3 st40 (fun r50 st50 => K (r40 - r50) st50))) ∧ (¬ r14 = 0 → w_X8_refused r14 st14 (fun r29 st29 => K (1000000000 - r29) st29)))))
def w_X8_apart (x1 : Int32) (st : St) (K : Int32 → St → Prop) : Prop :=
  w_X8_range x1 0 60 st (fun r4 st4 => (r4 = 0 → w_X4_idleWeeks x1 st4 (fun r25 st25 => K r25 st25)) ∧ (¬ r4 = 0 → w_X8_refused r4 st4 (fun r14 st14 => K r14 st14)))
def w_X8_two (x1 : Int32) (x2 : Int32) (st : St) (K : Int32 → St → Prop) : Prop :=
  w_X8_twoRefusal x1 x2 st (fun r3 st3 => (r3 = 0 → w_X4_settled x1 x2 st3 (fun r25 st25 => K r25 st25)) ∧ (¬ r3 = 0 → w_X8_refused r3 st3 (fun r13 st13 => K r13 st13)))
def w_X8_send (x1 : Int32) (st : St) (K : Int32 → St → Prop) : Prop :=
  w_X8_range x1 0 60 st (fun r4 st4 => (r4 = 0 → w_X4_bestSending x1 st4 (fun r25 st25 => K r25 st25)) ∧ (¬ r4 = 0 → w_X8_refused r4 st4 (fun r14 st14 => K r14 st14)))
def w_X8_swap (x1 : Int32) (st : St) (K : Int32 → St → Prop) : Prop :=
  w_X8_range x1 0 60 st (fun r4 st4 => (r4 = 0 → w_X4_bestSwap x1 st4 (fun r25 st25 => K r25 st25)) ∧ (¬ r4 = 0 → w_X8_refused r4 st4 (fun r14 st14 => K r14 st14)))
def w_X8_places (x1 : Int32) (x2 : Int32) (x3 : Int32) (x4 : Int32) (x5 : Int32) (st : St) (K : Int32 → St → Prop) : Prop :=
  w_X8_twoRefusal x1 x2 st (fun r3 st3 => w_X8_twoRefusal x1 x3 st3 (fun r9 st9 => w_X8_twoRefusal x2 x3 st9 (fun r15 st15 => w_X8_firstOf r3 r9 r15 st15 (fun r18 st18 => w_X8_range x4 0 60 st18 (fun r30 st30 => w_X8_choice x5 1 st30 (fun r36 st36 => w_X8_firstOf r18 r30 r36 st36 (fun r39 st39 => (r39 = 0 → w_X4_bestPlaces x1 x2 x3 x4 st39 (fun r65 st65 => (¬ x5 = 0 → w_X4_openPlaced x1 x2 x3 x4 r65 st65 (fun r91 st91 => K r91 st91)) ∧ (x5 = 0 → K r65 st65))) ∧ (¬ r39 = 0 → w_X8_refused r39 st39 (fun r52 st52 => K r52 st52)))))))))
def w_X8_fewest (x1 : Int32) (x2 : Int32) (st : St) (K : Int32 → St → Prop) : Prop :=
  w_X8_range x1 0 60 st (fun r4 st4 => w_X8_choice x2 1 st4 (fun r9 st9 => w_X8_firstOf r4 r9 0 st9 (fun r13 st13 => (r13 = 0 → w_X4_fewestKept x1 st13 (fun r32 st32 => (¬ x2 = 0 → w_X3_wages r32 st32 (fun r52 st52 => K r52 st52)) ∧ (x2 = 0 → K r32 st32))) ∧ (¬ r13 = 0 → w_X8_refused r13 st13 (fun r23 st23 => K r23 st23)))))
def w_X8_pay_b13 (x1 : Int32) (x2 : Int32)  (K : Int32 → St → Prop) (s0 : Int32) (st : St) : Prop :=
  w_X8_range x2 0 60 st (fun r17 st17 => w_X8_firstOf s0 r17 0 st17 (fun r21 st21 => (r21 = 0 → w_X3_keepersIn x1 st21 (fun r46 st46 => w_X3_wages r46 st46 (fun r49 st49 => K (r49 * x2) st49))) ∧ (¬ r21 = 0 → w_X8_refused r21 st21 (fun r31 st31 => K r31 st31))))
def w_X8_pay (x1 : Int32) (x2 : Int32) (st : St) (K : Int32 → St → Prop) : Prop :=
  (¬ x1 = (-1) → w_X8_townRefusal x1 st (fun r10 st10 => w_X8_pay_b13 x1 x2  K r10 st10)) ∧ (x1 = (-1) → w_X8_pay_b13 x1 x2  K 0 st)
def w_X8_whoHates (x1 : Int32) (x2 : Int32) (x3 : Int32) (st : St) (K : Int32 → St → Prop) : Prop :=
  w_X8_twoRefusal x1 x2 st (fun r3 st3 => w_X8_choice x3 2 st3 (fun r8 st8 => w_X8_firstOf r3 r8 0 st8 (fun r12 st12 => (r12 = 0 → w_X4_fittingHate x1 x2 x3 st12 (fun r42 st42 => K r42 st42)) ∧ (¬ r12 = 0 → w_X8_refused r12 st12 (fun r25 st25 => K r25 st25)))))
def w_X8_whatKind (x1 : Int32) (x2 : Int32) (x3 : Int32) (st : St) (K : Int32 → St → Prop) : Prop :=
  w_X8_twoRefusal x1 x2 st (fun r3 st3 => w_X8_choice x3 1 st3 (fun r8 st8 => w_X8_firstOf r3 r8 0 st8 (fun r12 st12 => (r12 = 0 → (¬ x3 = 0 → w_X4_fittingFigures x1 x2 st12 (fun r59 st59 => K r59 st59)) ∧ (x3 = 0 → w_X4_fittingKinds x1 x2 st12 (fun r43 st43 => K r43 st43))) ∧ (¬ r12 = 0 → w_X8_refused r12 st12 (fun r25 st25 => K r25 st25)))))
def w_X8_jug_b45 (x1 : Int32) (x2 : Int32) (x3 : Int32) (x4 : Int32)  (K : Int64 → St → Prop) (v5 : Int32) (s0 : Int32) (st : St) : Prop :=
  w_X8_choice x4 1 st (fun r54 st54 => w_X8_firstOf v5 s0 r54 st54 (fun r57 st57 => (r57 = 0 → w_X0_ways x1 x2 x3 st57 (fun r82 st82 => w_X0_power x3 x1 st82 (fun r87 st87 => w_X0_part r82 r87 x4 st87 (fun r92 st92 => K r92 st92)))) ∧ (¬ r57 = 0 → w_X8_refused r57 st57 (fun r73 st73 => K (4000000000000000000 - ((r73).toInt64)) st73))))
def w_X8_jug_b39 (x1 : Int32) (x2 : Int32) (x3 : Int32) (x4 : Int32)  (K : Int64 → St → Prop) (v5 : Int32) (st : St) : Prop :=
  w_X8_jug_b45 x1 x2 x3 x4  K v5 (-6) st
def w_X8_jug_b19 (x1 : Int32) (x2 : Int32) (x3 : Int32) (x4 : Int32)  (K : Int64 → St → Prop) (s0 : Int32) (st : St) : Prop :=
  (8 < x1 → w_X8_jug_b39 x1 x2 x3 x4  K s0 st) ∧ (¬ 8 < x1 → (8 < x2 → w_X8_jug_b39 x1 x2 x3 x4  K s0 st) ∧ (¬ 8 < x2 → (x3 ≤ 20 → w_X8_jug_b45 x1 x2 x3 x4  K s0 0 st) ∧ (¬ x3 ≤ 20 → w_X8_jug_b39 x1 x2 x3 x4  K s0 st)))
def w_X8_jug_b13 (x1 : Int32) (x2 : Int32) (x3 : Int32) (x4 : Int32)  (K : Int64 → St → Prop)  (st : St) : Prop :=
  w_X8_jug_b19 x1 x2 x3 x4  K (-4) st
def w_X8_jug (x1 : Int32) (x2 : Int32) (x3 : Int32) (x4 : Int32) (st : St) (K : Int64 → St → Prop) : Prop :=
  (x1 < 0 → w_X8_jug_b13 x1 x2 x3 x4  K st) ∧ (¬ x1 < 0 → (x2 < 0 → w_X8_jug_b13 x1 x2 x3 x4  K st) ∧ (¬ x2 < 0 → (2 ≤ x3 → w_X8_jug_b19 x1 x2 x3 x4  K 0 st) ∧ (¬ 2 ≤ x3 → w_X8_jug_b13 x1 x2 x3 x4  K st)))
def w_X8_meetings_b56 (x1 : Int32) (x2 : Int32) (x3 : Int32) (x4 : Int32) (x5 : Int32) (x6 : Int32)  (K : Int64 → St → Prop) (v7 : Int32) (v8 : Int32) (s0 : Int32) (st : St) : Prop :=
  w_X8_firstOf v7 v8 s0 st (fun r64 st64 => w_X8_choice x6 1 st64 (fun r70 st70 => w_X8_firstOf r64 r70 0 st70 (fun r74 st74 => (r74 = 0 → w_X4_meetingWays x1 x2 x3 x4 x5 st74 (fun r107 st107 => w_X0_power x5 x4 st107 (fun r114 st114 => w_X0_part r107 r114 x6 st114 (fun r119 st119 => K r119 st119)))) ∧ (¬ r74 = 0 → w_X8_refused r74 st74 (fun r90 st90 => K (4000000000000000000 - ((r90).toInt64)) st90)))))
def w_X8_meetings_b50 (x1 : Int32) (x2 : Int32) (x3 : Int32) (x4 : Int32) (x5 : Int32) (x6 : Int32)  (K : Int64 → St → Prop) (v7 : Int32) (v8 : Int32) (st : St) : Prop :=
  w_X8_meetings_b56 x1 x2 x3 x4 x5 x6  K v7 v8 (-6) st
def w_X8_meetings_b34 (x1 : Int32) (x2 : Int32) (x3 : Int32) (x4 : Int32) (x5 : Int32) (x6 : Int32)  (K : Int64 → St → Prop) (v7 : Int32) (s0 : Int32) (st : St) : Prop :=
  (7 < x4 → w_X8_meetings_b50 x1 x2 x3 x4 x5 x6  K v7 s0 st) ∧ (¬ 7 < x4 → (x5 ≤ 20 → w_X8_meetings_b56 x1 x2 x3 x4 x5 x6  K v7 s0 0 st) ∧ (¬ x5 ≤ 20 → w_X8_meetings_b50 x1 x2 x3 x4 x5 x6  K v7 s0 st))
def w_X8_meetings_b28 (x1 : Int32) (x2 : Int32) (x3 : Int32) (x4 : Int32) (x5 : Int32) (x6 : Int32)  (K : Int64 → St → Prop) (v7 : Int32) (st : St) : Prop :=
  w_X8_meetings_b34 x1 x2 x3 x4 x5 x6  K v7 (-4) st
def w_X8_meetings (x1 : Int32) (x2 : Int32) (x3 : Int32) (x4 : Int32) (x5 : Int32) (x6 : Int32) (st : St) (K : Int64 → St → Prop) : Prop :=
  w_X8_twoRefusal x1 x2 st (fun r3 st3 => w_X8_letterRefusal x3 st3 (fun r8 st8 => w_X8_firstOf r3 r8 0 st8 (fun r12 st12 => (x4 < 0 → w_X8_meetings_b28 x1 x2 x3 x4 x5 x6  K r12 st12) ∧ (¬ x4 < 0 → (2 ≤ x5 → w_X8_meetings_b34 x1 x2 x3 x4 x5 x6  K r12 0 st12) ∧ (¬ 2 ≤ x5 → w_X8_meetings_b28 x1 x2 x3 x4 x5 x6  K r12 st12)))))
def w_X8_lots (x1 : Int32) (x2 : Int32) (x3 : Int32) (st : St) (K : Int32 → St → Prop) : Prop :=
  w_X8_range x1 1 20 st (fun r4 st4 => w_X8_choice x3 1 st4 (fun r9 st9 => w_X8_firstOf r4 r9 0 st9 (fun r13 st13 => (r13 = 0 → w_X4_byLot x1 x2 x3 st13 (fun r39 st39 => K r39 st39)) ∧ (¬ r13 = 0 → w_X8_refused r13 st13 (fun r26 st26 => K r26 st26)))))
def w_X8_deepest (x1 : Int32) (st : St) (K : Int32 → St → Prop) : Prop :=
  w_X8_townRefusal x1 st (fun r1 st1 => (r1 = 0 → w_X3_mostHateIn x1 st1 (fun r22 st22 => K r22 st22)) ∧ (¬ r1 = 0 → w_X8_refused r1 st1 (fun r11 st11 => K r11 st11)))
def w_X8_can (x1 : Int32) (st : St) (K : Int32 → St → Prop) : Prop :=
  w_X8_range x1 0 99 st (fun r4 st4 => (r4 = 0 → w_X3_townsThatOpen x1 st4 (fun r25 st25 => K r25 st25)) ∧ (¬ r4 = 0 → w_X8_refused r4 st4 (fun r14 st14 => K r14 st14)))
def w_X8_pairs (x1 : Int32) (st : St) (K : Int32 → St → Prop) : Prop :=
  w_X8_range x1 0 99 st (fun r4 st4 => (r4 = 0 → w_X3_mostTwos x1 st4 (fun r25 st25 => K r25 st25)) ∧ (¬ r4 = 0 → w_X8_refused r4 st4 (fun r14 st14 => K r14 st14)))
def w_X8_worst_b44 (x1 : Int32)  (K : Int32 → St → Prop) (s0 : Int32) (st : St) : Prop :=
  w_X3_worstTwo s0 st (fun r44 st44 => K r44 st44)
def w_X8_worst (x1 : Int32) (st : St) (K : Int32 → St → Prop) : Prop :=
  w_X8_choice x1 2 st (fun r2 st2 => (r2 = 0 → (¬ x1 = 2 → (¬ x1 = 0 → w_X8_worst_b44 x1  K 0 st2) ∧ (x1 = 0 → w_X8_worst_b44 x1  K 1 st2)) ∧ (x1 = 2 → w_X3_friends  st2 (fun r25 st25 => K r25 st25))) ∧ (¬ r2 = 0 → w_X8_refused r2 st2 (fun r12 st12 => K r12 st12)))
def w_X8_fullest (x1 : Int32) (st : St) (K : Int32 → St → Prop) : Prop :=
  w_X8_choice x1 1 st (fun r2 st2 => (r2 = 0 → w_X3_townOfMost  st2 (fun r20 st20 => (¬ x1 = 0 → w_X3_crowd r20 st20 (fun r37 st37 => K r37 st37)) ∧ (x1 = 0 → K r20 st20))) ∧ (¬ r2 = 0 → w_X8_refused r2 st2 (fun r12 st12 => K r12 st12)))
def w_X8_thickest  (st : St) (K : Int32 → St → Prop) : Prop :=
  w_X3_deepestSealed  st (fun r4 st4 => K r4 st4)
def w_X8_mildest  (st : St) (K : Int32 → St → Prop) : Prop :=
  w_X3_leastHating  st (fun r4 st4 => K r4 st4)
def w_X8_bare  (st : St) (K : Int32 → St → Prop) : Prop :=
  w_X3_bareTowns  st (fun r4 st4 => K r4 st4)
def w_X8_enemy (x1 : Int32) (st : St) (K : Int32 → St → Prop) : Prop :=
  w_X8_keeperRefusal x1 st (fun r2 st2 => (r2 = 0 → w_X3_mostHated x1 st2 (fun r23 st23 => K r23 st23)) ∧ (¬ r2 = 0 → w_X8_refused r2 st2 (fun r12 st12 => K r12 st12)))
def w_X8_mean (x1 : Int32) (st : St) (K : Int64 → St → Prop) : Prop :=
  w_X8_choice x1 1 st (fun r2 st2 => (r2 = 0 → w_X1_keeperCount 11 st2 (fun r25 st25 => w_X1_allHate 11 st25 (fun r33 st33 => w_X0_part ((r33).toInt64) (((if 1 < ((r25 * (r25 - 1)) / 2) then ((r25 * (r25 - 1)) / 2) else 1)).toInt64) x1 st33 (fun r50 st50 => K r50 st50)))) ∧ (¬ r2 = 0 → w_X8_refused r2 st2 (fun r15 st15 => K (4000000000000000000 - ((r15).toInt64)) st15)))
