def w_X9_no (x1 : Int32) (st : St) (K : Int32 → St → Prop) : Prop :=
  vp_in (-x1) 7 ∧ (vp_in (-x1) 7 ∧ (K x1 (u2 st 1 ((-x1)).toNatClampNeg ((st 1 ((-x1)).toNatClampNeg) + 1))))
def w_X9_lower (x1 : Int32) (st : St) (K : Int32 → St → Prop) : Prop :=
  vp_in (-x1) 7 ∧ (vp_in (-x1) 7 ∧ (K (1000000000 - x1) (u2 st 1 ((-x1)).toNatClampNeg ((st 1 ((-x1)).toNatClampNeg) + 1))))
def w_X9_lowestOf (x1 : Int32) (st : St) (K : Int64 → St → Prop) : Prop :=
  vp_in (-x1) 7 ∧ (vp_in (-x1) 7 ∧ (K (4000000000000000000 - ((x1).toInt64)) (u2 st 1 ((-x1)).toNatClampNeg ((st 1 ((-x1)).toNatClampNeg) + 1))))
def w_X9_isIn (x0 : Int32) (x1 : Int32) (x2 : Int32) (st : St) (K : Int32 → St → Prop) : Prop :=
  (x0 < x1 → K 0 st) ∧ (¬ x0 < x1 → (x2 < x0 → K 0 st) ∧ (¬ x2 < x0 → K 1 st))
def w_X9_bound (x0 : Int32) (x1 : Int32) (x2 : Int32) (st : St) (K : Int32 → St → Prop) : Prop :=
  (x1 ≤ x0 → (x0 ≤ x2 → K 0 st) ∧ (¬ x0 ≤ x2 → K (-6) st)) ∧ (¬ x1 ≤ x0 → K (-4) st)
def w_X9_held (x0 : Int32) (x1 : Int32) (x2 : Int32) (st : St) (K : Int32 → St → Prop) : Prop :=
  (x1 ≤ x0 → (x0 ≤ x2 → K x0 st) ∧ (¬ x0 ≤ x2 → K x2 st)) ∧ (¬ x1 ≤ x0 → K x1 st)
def w_X9_has (x0 : Int32) (x1 : Int32) (st : St) (K : Int32 → St → Prop) : Prop :=
  (¬ ((x0 >>> (x1 &&& 31)) &&& 1) = 1 → K 0 st) ∧ (((x0 >>> (x1 &&& 31)) &&& 1) = 1 → K 1 st)
def w_X9_bits_L4q (x0 : Int32)  (K : Int32 → St → Prop) (c4 : Int32 → Int32 → St → Prop) (v1 : Int32) (v2 : Int32) (st : St) : Prop :=
  (31 ≤ v2 → K v1 st) ∧ (¬ 31 ≤ v2 → c4 (v1 + ((x0 >>> (v2 &&& 31)) &&& 1)) (v2 + 1) st)
def w_X9_bits_L4 (x0 : Int32)  (K : Int32 → St → Prop) : Nat → Int32 → Int32 → St → Prop
  | 0, _, _, _ => False
  | n + 1, v1, v2, st => w_X9_bits_L4q x0  K (fun v1 v2 st => w_X9_bits_L4 x0  K n v1 v2 st) v1 v2 st
def w_X9_bits (x0 : Int32) (st : St) (K : Int32 → St → Prop) : Prop :=
  ∃ n, w_X9_bits_L4 x0  K n 0 0 st
def w_X9_isKeeper (x1 : Int32) (st : St) (K : Int32 → St → Prop) : Prop :=
  (x1 < 0 → K 0 st) ∧ (¬ x1 < 0 → ((st 0 8) ≤ x1 → K 0 st) ∧ (¬ (st 0 8) ≤ x1 → K 1 st))
def w_X9_areTwo (x1 : Int32) (x2 : Int32) (st : St) (K : Int32 → St → Prop) : Prop :=
  w_X9_isKeeper x1 st (fun r2 st2 => (r2 = 0 → K 0 st2) ∧ (¬ r2 = 0 → w_X9_isKeeper x2 st2 (fun r10 st10 => (r10 = 0 → K 0 st10) ∧ (¬ r10 = 0 → (x1 = x2 → K 0 st10) ∧ (¬ x1 = x2 → K 1 st10)))))
def w_X9_isLetter (x1 : Int32) (st : St) (K : Int32 → St → Prop) : Prop :=
  (x1 < 0 → K 0 st) ∧ (¬ x1 < 0 → ((st 0 9) ≤ x1 → K 0 st) ∧ (¬ (st 0 9) ≤ x1 → K 1 st))
def w_X9_isTown (x0 : Int32) (st : St) (K : Int32 → St → Prop) : Prop :=
  (x0 < 0 → K 0 st) ∧ (¬ x0 < 0 → (4 ≤ x0 → K 0 st) ∧ (¬ 4 ≤ x0 → K 1 st))
def w_X9_hateOf (x1 : Int32) (x2 : Int32) (st : St) (K : Int32 → St → Prop) : Prop :=
  vp_in ((6 * x1) + x2) 36 ∧ (K (st 5 (((6 * x1) + x2)).toNatClampNeg) st)
def w_X9_sets (x1 : Int32) (x2 : Int32) (x3 : Int32) (st : St) (K : St → Prop) : Prop :=
  vp_in ((6 * x1) + x2) 36 ∧ (vp_in ((6 * x2) + x1) 36 ∧ (K (u2 (u2 st 5 (((6 * x1) + x2)).toNatClampNeg x3) 5 (((6 * x2) + x1)).toNatClampNeg x3)))
def w_X9_feed_b25 (x1 : Int32)  (K : Int32 → St → Prop) (v2 : Int32) (st : St) : Prop :=
  (v2 = 0 → vp_in (st 0 16) 96 ∧ (K ((u2 (u2 st 9 ((st 0 16)).toNatClampNeg x1) 0 16 (((u2 st 9 ((st 0 16)).toNatClampNeg x1) 0 16) + 1)) 0 16) (u2 (u2 st 9 ((st 0 16)).toNatClampNeg x1) 0 16 (((u2 st 9 ((st 0 16)).toNatClampNeg x1) 0 16) + 1)))) ∧ (¬ v2 = 0 → w_X9_no v2 st (fun r31 st31 => K r31 st31))
def w_X9_feed (x1 : Int32) (st : St) (K : Int32 → St → Prop) : Prop :=
  w_X9_bound x1 0 255 st (fun r5 st5 => (¬ r5 = 0 → w_X9_feed_b25 x1  K r5 st5) ∧ (r5 = 0 → (¬ (st5 0 16) = 96 → w_X9_feed_b25 x1  K r5 st5) ∧ ((st5 0 16) = 96 → w_X9_feed_b25 x1  K (-6) st5)))
def w_X9_next  (st : St) (K : Int32 → St → Prop) : Prop :=
  ((st 0 16) ≤ (st 0 17) → K (-1) st) ∧ (¬ (st 0 16) ≤ (st 0 17) → vp_in (st 0 17) 96 ∧ (K (st 9 ((st 0 17)).toNatClampNeg) st))
def w_X9_readsDigits_b56 (x1 : Int32) (x2 : Int32)  (K : Int32 → St → Prop) (v3 : Int32) (st : St) : Prop :=
  vp_in x1 144 ∧ (K 1 (u2 st 12 (x1).toNatClampNeg v3))
def w_X9_readsDigits_L5q (x1 : Int32) (x2 : Int32)  (K : Int32 → St → Prop) (c5 : Int32 → Int32 → St → Prop) (v3 : Int32) (v4 : Int32) (st : St) : Prop :=
  (x2 ≤ v4 → w_X9_readsDigits_b56 x1 x2  K v3 st) ∧ (¬ x2 ≤ v4 → w_X9_next  st (fun r12 st12 => w_X9_isIn r12 48 57 st12 (fun r19 st19 => (¬ r19 = 0 → w_X9_next  st19 (fun r32 st32 => c5 (((10 * v3) + r32) - 48) (v4 + 1) (u2 st32 0 17 ((st32 0 17) + 1)))) ∧ (r19 = 0 → K 0 st19))))
def w_X9_readsDigits_L5 (x1 : Int32) (x2 : Int32)  (K : Int32 → St → Prop) : Nat → Int32 → Int32 → St → Prop
  | 0, _, _, _ => False
  | n + 1, v3, v4, st => w_X9_readsDigits_L5q x1 x2  K (fun v3 v4 st => w_X9_readsDigits_L5 x1 x2  K n v3 v4 st) v3 v4 st
def w_X9_readsDigits (x1 : Int32) (x2 : Int32) (st : St) (K : Int32 → St → Prop) : Prop :=
  ∃ n, w_X9_readsDigits_L5 x1 x2  K n 0 0 st
def w_X9_readsAll (x1 : Int32) (x2 : Int32) (st : St) (K : Int32 → St → Prop) : Prop :=
  (x1 = 103 → w_X9_readsDigits x2 1 st (fun r171 st171 => (r171 = 0 → K 0 st171) ∧ (¬ r171 = 0 → w_X9_readsDigits (x2 + 1) 1 st171 (fun r182 st182 => (r182 = 0 → K 0 st182) ∧ (¬ r182 = 0 → K 1 st182))))) ∧ (¬ x1 = 103 → (x1 = 104 → w_X9_readsDigits x2 1 st (fun r108 st108 => (r108 = 0 → K 0 st108) ∧ (¬ r108 = 0 → w_X9_readsDigits (x2 + 1) 1 st108 (fun r119 st119 => (r119 = 0 → K 0 st119) ∧ (¬ r119 = 0 → w_X9_readsDigits (x2 + 2) 2 st119 (fun r130 st130 => (r130 = 0 → K 0 st130) ∧ (¬ r130 = 0 → K 1 st130))))))) ∧ (¬ x1 = 104 → (x1 = 107 → w_X9_readsDigits x2 1 st (fun r71 st71 => (r71 = 0 → K 0 st71) ∧ (¬ r71 = 0 → w_X9_readsDigits (x2 + 1) 1 st71 (fun r82 st82 => (r82 = 0 → K 0 st82) ∧ (¬ r82 = 0 → w_X9_readsDigits (x2 + 2) 1 st82 (fun r93 st93 => (r93 = 0 → K 0 st93) ∧ (¬ r93 = 0 → K 1 st93))))))) ∧ (¬ x1 = 107 → (x1 = 108 → w_X9_readsDigits x2 2 st (fun r145 st145 => (r145 = 0 → K 0 st145) ∧ (¬ r145 = 0 → w_X9_readsDigits (x2 + 1) 1 st145 (fun r156 st156 => (r156 = 0 → K 0 st156) ∧ (¬ r156 = 0 → K 1 st156))))) ∧ (¬ x1 = 108 → (x1 = 115 → w_X9_readsDigits x2 1 st (fun r197 st197 => (r197 = 0 ∨ r197 = 1) ∧ K r197 st197)) ∧ (¬ x1 = 115 → w_X9_readsDigits x2 2 st (fun r204 st204 => (r204 = 0 ∨ r204 = 1) ∧ K r204 st204))))))
def w_X9_statement_b43   (K : Int32 → St → Prop) (v1 : Int32) (st : St) : Prop :=
  vp_in (st 0 18) 48 ∧ (vp_in ((u2 st 10 ((st 0 18)).toNatClampNeg v1) 0 18) 48 ∧ (w_X9_readsAll v1 (3 * ((u2 (u2 (u2 st 10 ((st 0 18)).toNatClampNeg v1) 11 (((u2 st 10 ((st 0 18)).toNatClampNeg v1) 0 18)).toNatClampNeg ((u2 st 10 ((st 0 18)).toNatClampNeg v1) 0 17)) 0 17 (((u2 (u2 st 10 ((st 0 18)).toNatClampNeg v1) 11 (((u2 st 10 ((st 0 18)).toNatClampNeg v1) 0 18)).toNatClampNeg ((u2 st 10 ((st 0 18)).toNatClampNeg v1) 0 17)) 0 17) + 1)) 0 18)) (u2 (u2 (u2 st 10 ((st 0 18)).toNatClampNeg v1) 11 (((u2 st 10 ((st 0 18)).toNatClampNeg v1) 0 18)).toNatClampNeg ((u2 st 10 ((st 0 18)).toNatClampNeg v1) 0 17)) 0 17 (((u2 (u2 st 10 ((st 0 18)).toNatClampNeg v1) 11 (((u2 st 10 ((st 0 18)).toNatClampNeg v1) 0 18)).toNatClampNeg ((u2 st 10 ((st 0 18)).toNatClampNeg v1) 0 17)) 0 17) + 1)) (fun r84 st84 => (r84 = 0 → K 0 st84) ∧ (¬ r84 = 0 → w_X9_next  st84 (fun r91 st91 => (r91 = 59 → K 1 (u2 st91 0 17 ((st91 0 17) + 1))) ∧ (¬ r91 = 59 → K 0 st91))))))
def w_X9_statement  (st : St) (K : Int32 → St → Prop) : Prop :=
  w_X9_next  st (fun r1 st1 => (r1 = 107 → w_X9_statement_b43   K r1 st1) ∧ (¬ r1 = 107 → (r1 = 104 → w_X9_statement_b43   K r1 st1) ∧ (¬ r1 = 104 → (r1 = 108 → w_X9_statement_b43   K r1 st1) ∧ (¬ r1 = 108 → (r1 = 103 → w_X9_statement_b43   K r1 st1) ∧ (¬ r1 = 103 → (r1 = 115 → w_X9_statement_b43   K r1 st1) ∧ (¬ r1 = 115 → (r1 = 119 → w_X9_statement_b43   K r1 st1) ∧ (¬ r1 = 119 → K 0 st1)))))))
def w_X9_addsKeeper_b60 (x1 : Int32) (x2 : Int32) (x3 : Int32)  (K : St → Prop)  (st : St) : Prop :=
  K (u2 st 0 8 ((st 0 8) + 1))
def w_X9_addsKeeper_L33q (x1 : Int32) (x2 : Int32) (x3 : Int32)  (K : St → Prop) (c33 : Int32 → St → Prop) (v4 : Int32) (st : St) : Prop :=
  ((st 0 8) ≤ v4 → w_X9_addsKeeper_b60 x1 x2 x3  K st) ∧ (¬ (st 0 8) ≤ v4 → w_X9_sets v4 (st 0 8) 20 st (fun st51 => c33 (v4 + 1) st51))
def w_X9_addsKeeper_L33 (x1 : Int32) (x2 : Int32) (x3 : Int32)  (K : St → Prop) : Nat → Int32 → St → Prop
  | 0, _, _ => False
  | n + 1, v4, st => w_X9_addsKeeper_L33q x1 x2 x3  K (fun v4 st => w_X9_addsKeeper_L33 x1 x2 x3  K n v4 st) v4 st
def w_X9_addsKeeper (x1 : Int32) (x2 : Int32) (x3 : Int32) (st : St) (K : St → Prop) : Prop :=
  vp_in (st 0 8) 6 ∧ (vp_in ((u2 st 2 ((st 0 8)).toNatClampNeg x1) 0 8) 6 ∧ (vp_in ((u2 (u2 st 2 ((st 0 8)).toNatClampNeg x1) 3 (((u2 st 2 ((st 0 8)).toNatClampNeg x1) 0 8)).toNatClampNeg x2) 0 8) 6 ∧ (∃ n, w_X9_addsKeeper_L33 x1 x2 x3  K n 0 (u2 (u2 (u2 st 2 ((st 0 8)).toNatClampNeg x1) 3 (((u2 st 2 ((st 0 8)).toNatClampNeg x1) 0 8)).toNatClampNeg x2) 4 (((u2 (u2 st 2 ((st 0 8)).toNatClampNeg x1) 3 (((u2 st 2 ((st 0 8)).toNatClampNeg x1) 0 8)).toNatClampNeg x2) 0 8)).toNatClampNeg x3))))
def w_X9_comesKeeper (x1 : Int32) (x2 : Int32) (x3 : Int32) (st : St) (K : Int32 → St → Prop) : Prop :=
  (5 < x1 → K 0 st) ∧ (¬ 5 < x1 → w_X9_isTown x3 st (fun r6 st6 => (r6 = 0 → K 0 st6) ∧ (¬ r6 = 0 → (¬ (st6 0 8) = 6 → w_X9_addsKeeper x1 x2 x3 st6 (fun st27 => K 1 st27)) ∧ ((st6 0 8) = 6 → K 0 st6))))
def w_X9_addsLetter (x1 : Int32) (x2 : Int32) (st : St) (K : St → Prop) : Prop :=
  vp_in (st 0 9) 6 ∧ (vp_in ((u2 st 6 ((st 0 9)).toNatClampNeg x2) 0 9) 6 ∧ (vp_in ((u2 (u2 st 6 ((st 0 9)).toNatClampNeg x2) 7 (((u2 st 6 ((st 0 9)).toNatClampNeg x2) 0 9)).toNatClampNeg x1) 0 9) 6 ∧ (K (u2 (u2 (u2 (u2 st 6 ((st 0 9)).toNatClampNeg x2) 7 (((u2 st 6 ((st 0 9)).toNatClampNeg x2) 0 9)).toNatClampNeg x1) 8 (((u2 (u2 st 6 ((st 0 9)).toNatClampNeg x2) 7 (((u2 st 6 ((st 0 9)).toNatClampNeg x2) 0 9)).toNatClampNeg x1) 0 9)).toNatClampNeg 0) 0 9 (((u2 (u2 (u2 st 6 ((st 0 9)).toNatClampNeg x2) 7 (((u2 st 6 ((st 0 9)).toNatClampNeg x2) 0 9)).toNatClampNeg x1) 8 (((u2 (u2 st 6 ((st 0 9)).toNatClampNeg x2) 7 (((u2 st 6 ((st 0 9)).toNatClampNeg x2) 0 9)).toNatClampNeg x1) 0 9)).toNatClampNeg 0) 0 9) + 1)))))
def w_X9_comesLetter (x1 : Int32) (x2 : Int32) (st : St) (K : Int32 → St → Prop) : Prop :=
  w_X9_isTown x2 st (fun r1 st1 => (r1 = 0 → K 0 st1) ∧ (¬ r1 = 0 → (¬ (st1 0 9) = 6 → w_X9_addsLetter x2 x1 st1 (fun st21 => K 1 st21)) ∧ ((st1 0 9) = 6 → K 0 st1)))
def w_X9_fadesOf (x1 : Int32) (st : St) (K : Int32 → St → Prop) : Prop :=
  vp_in x1 6 ∧ (((st 2 (x1).toNatClampNeg) = 1 → K 0 st) ∧ (¬ (st 2 (x1).toNatClampNeg) = 1 → ((st 2 (x1).toNatClampNeg) = 2 → K 2 st) ∧ (¬ (st 2 (x1).toNatClampNeg) = 2 → ((st 2 (x1).toNatClampNeg) = 3 → vp_in x1 6 ∧ (K (((st 3 (x1).toNatClampNeg) / 2) + 1) st)) ∧ (¬ (st 2 (x1).toNatClampNeg) = 3 → ((st 2 (x1).toNatClampNeg) = 4 → K 0 st) ∧ (¬ (st 2 (x1).toNatClampNeg) = 4 → ((st 2 (x1).toNatClampNeg) = 5 → K 3 st) ∧ (¬ (st 2 (x1).toNatClampNeg) = 5 → K 1 st))))))
def w_X9_stirsOf (x1 : Int32) (st : St) (K : Int32 → St → Prop) : Prop :=
  vp_in x1 6 ∧ ((¬ (st 2 (x1).toNatClampNeg) = 1 → vp_in x1 6 ∧ ((¬ (st 2 (x1).toNatClampNeg) = 4 → K 0 st) ∧ ((st 2 (x1).toNatClampNeg) = 4 → vp_in x1 6 ∧ (K (((st 3 (x1).toNatClampNeg) / 4) + 1) st)))) ∧ ((st 2 (x1).toNatClampNeg) = 1 → K 1 st))
def w_X9_fadesTwo_b89 (x1 : Int32) (x2 : Int32)  (K : St → Prop) (s0 : Int32) (s1 : Int32) (s2 : Int32) (st : St) : Prop :=
  w_X9_sets s2 s1 s0 st (fun st89 => K st89)
def w_X9_fadesTwo (x1 : Int32) (x2 : Int32) (st : St) (K : St → Prop) : Prop :=
  w_X9_has (st 0 11) x1 st (fun r5 st5 => (¬ r5 = 0 → K st5) ∧ (r5 = 0 → w_X9_has (st5 0 11) x2 st5 (fun r16 st16 => (r16 = 0 → w_X9_hateOf x1 x2 st16 (fun r26 st26 => vp_in x1 6 ∧ (vp_in x2 6 ∧ ((¬ (st26 4 (x1).toNatClampNeg) = (st26 4 (x2).toNatClampNeg) → w_X9_stirsOf x1 st26 (fun r73 st73 => w_X9_stirsOf x2 st73 (fun r79 st79 => w_X9_held ((r26 + r73) + r79) 0 99 st79 (fun r86 st86 => w_X9_fadesTwo_b89 x1 x2  K r86 x2 x1 st86)))) ∧ ((st26 4 (x1).toNatClampNeg) = (st26 4 (x2).toNatClampNeg) → w_X9_fadesOf x1 st26 (fun r51 st51 => w_X9_fadesOf x2 st51 (fun r57 st57 => w_X9_held ((r26 - r51) - r57) 0 99 st57 (fun r64 st64 => w_X9_fadesTwo_b89 x1 x2  K r64 x2 x1 st64)))))))) ∧ (¬ r16 = 0 → K st16))))
def w_X9_areThere (x1 : Int32) (x2 : Int32) (x3 : Int32) (st : St) (K : Int32 → St → Prop) : Prop :=
  vp_in x1 6 ∧ ((¬ (st 4 (x1).toNatClampNeg) = x3 → K 0 st) ∧ ((st 4 (x1).toNatClampNeg) = x3 → vp_in x2 6 ∧ ((¬ (st 4 (x2).toNatClampNeg) = x3 → K 0 st) ∧ ((st 4 (x2).toNatClampNeg) = x3 → w_X9_has (st 0 11) x1 st (fun r25 st25 => (¬ r25 = 0 → K 0 st25) ∧ (r25 = 0 → w_X9_has (st25 0 11) x2 st25 (fun r36 st36 => (¬ r36 = 0 → K 0 st36) ∧ (r36 = 0 → K 1 st36))))))))
def w_X9_opensAt_b93 (x1 : Int32) (x2 : Int32) (c10 : Int32 → Int32 → Int32 → St → Prop) (c25 : Int32 → Int32 → Int32 → Int32 → St → Prop) (K : Int32 → St → Prop) (v3 : Int32) (v4 : Int32) (v5 : Int32) (v6 : Int32) (st : St) : Prop :=
  c25 v3 v4 v5 (v6 + 1) st
def w_X9_opensAt_b99 (x1 : Int32) (x2 : Int32) (c10 : Int32 → Int32 → Int32 → St → Prop) (K : Int32 → St → Prop) (v3 : Int32) (v4 : Int32) (v5 : Int32) (st : St) : Prop :=
  c10 v3 v4 (v5 + 1) st
def w_X9_opensAt_L25q (x1 : Int32) (x2 : Int32) (c10 : Int32 → Int32 → Int32 → St → Prop) (K : Int32 → St → Prop) (c25 : Int32 → Int32 → Int32 → Int32 → St → Prop) (v3 : Int32) (v4 : Int32) (v5 : Int32) (v6 : Int32) (st : St) : Prop :=
  ((st 0 8) ≤ v6 → w_X9_opensAt_b99 x1 x2 c10 K v3 v4 v5 st) ∧ (¬ (st 0 8) ≤ v6 → w_X9_areThere v5 v6 x1 st (fun r40 st40 => (r40 = 0 → w_X9_opensAt_b93 x1 x2 c10 c25 K v3 v4 v5 v6 st40) ∧ (¬ r40 = 0 → w_X9_hateOf v5 v6 st40 (fun r51 st51 => (r51 < x2 → w_X9_opensAt_b93 x1 x2 c10 c25 K v3 v4 v5 v6 st51) ∧ (¬ r51 < x2 → w_X9_hateOf v5 v6 st51 (fun r63 st63 => (r63 < v4 → w_X9_hateOf v5 v6 st63 (fun r88 st88 => w_X9_opensAt_b93 x1 x2 c10 c25 K ((10 * v5) + v6) r88 v5 v6 st88)) ∧ (¬ r63 < v4 → w_X9_opensAt_b93 x1 x2 c10 c25 K v3 v4 v5 v6 st63)))))))
def w_X9_opensAt_L25 (x1 : Int32) (x2 : Int32) (c10 : Int32 → Int32 → Int32 → St → Prop) (K : Int32 → St → Prop) : Nat → Int32 → Int32 → Int32 → Int32 → St → Prop
  | 0, _, _, _, _, _ => False
  | n + 1, v3, v4, v5, v6, st => w_X9_opensAt_L25q x1 x2 c10 K (fun v3 v4 v5 v6 st => w_X9_opensAt_L25 x1 x2 c10 K n v3 v4 v5 v6 st) v3 v4 v5 v6 st
def w_X9_opensAt_L10q (x1 : Int32) (x2 : Int32)  (K : Int32 → St → Prop) (c10 : Int32 → Int32 → Int32 → St → Prop) (v3 : Int32) (v4 : Int32) (v5 : Int32) (st : St) : Prop :=
  ((st 0 8) ≤ v5 → K v3 st) ∧ (¬ (st 0 8) ≤ v5 → ∃ n, w_X9_opensAt_L25 x1 x2 c10 K n v3 v4 v5 (v5 + 1) st)
def w_X9_opensAt_L10 (x1 : Int32) (x2 : Int32)  (K : Int32 → St → Prop) : Nat → Int32 → Int32 → Int32 → St → Prop
  | 0, _, _, _, _ => False
  | n + 1, v3, v4, v5, st => w_X9_opensAt_L10q x1 x2  K (fun v3 v4 v5 st => w_X9_opensAt_L10 x1 x2  K n v3 v4 v5 st) v3 v4 v5 st
def w_X9_opensAt (x1 : Int32) (x2 : Int32) (st : St) (K : Int32 → St → Prop) : Prop :=
  ∃ n, w_X9_opensAt_L10 x1 x2  K n (-9) 100 0 st
def w_X9_goesWeek_b49  (c17 : Int32 → St → Prop) (K : St → Prop) (v1 : Int32) (st : St) : Prop :=
  c17 (v1 + 1) st
def w_X9_goesWeek_L29q  (c17 : Int32 → St → Prop) (K : St → Prop) (c29 : Int32 → Int32 → St → Prop) (v1 : Int32) (v2 : Int32) (st : St) : Prop :=
  ((st 0 8) ≤ v2 → w_X9_goesWeek_b49  c17 K v1 st) ∧ (¬ (st 0 8) ≤ v2 → w_X9_fadesTwo v1 v2 st (fun st40 => c29 v1 (v2 + 1) st40))
def w_X9_goesWeek_L29  (c17 : Int32 → St → Prop) (K : St → Prop) : Nat → Int32 → Int32 → St → Prop
  | 0, _, _, _ => False
  | n + 1, v1, v2, st => w_X9_goesWeek_L29q  c17 K (fun v1 v2 st => w_X9_goesWeek_L29  c17 K n v1 v2 st) v1 v2 st
def w_X9_goesWeek_b171  (c57 : Int32 → St → Prop) (K : St → Prop) (v1 : Int32) (st : St) : Prop :=
  c57 (v1 + 1) st
def w_X9_goesWeek_b101  (c57 : Int32 → St → Prop) (K : St → Prop) (v1 : Int32) (s0 : Int32) (s1 : Int32) (st : St) : Prop :=
  vp_in s1 6 ∧ (vp_in v1 6 ∧ ((0 ≤ ((u2 st 14 (s1).toNatClampNeg s0) 14 (v1).toNatClampNeg) → vp_in v1 6 ∧ (vp_in v1 6 ∧ (vp_in v1 6 ∧ (w_X9_hateOf (((u2 st 14 (s1).toNatClampNeg s0) 14 (v1).toNatClampNeg) / 10) (((u2 st 14 (s1).toNatClampNeg s0) 14 (v1).toNatClampNeg) - ((u2 st 14 (s1).toNatClampNeg s0) 14 (v1).toNatClampNeg) / 10 * 10) (u2 (u2 (u2 st 14 (s1).toNatClampNeg s0) 8 (v1).toNatClampNeg 1) 0 25 (((u2 (u2 st 14 (s1).toNatClampNeg s0) 8 (v1).toNatClampNeg 1) 0 25) + 1)) (fun r157 st157 => w_X9_held (r157 - 5) 0 99 st157 (fun r165 st165 => w_X9_sets (((u2 st 14 (s1).toNatClampNeg s0) 14 (v1).toNatClampNeg) / 10) (((u2 st 14 (s1).toNatClampNeg s0) 14 (v1).toNatClampNeg) - ((u2 st 14 (s1).toNatClampNeg s0) 14 (v1).toNatClampNeg) / 10 * 10) r165 st165 (fun st168 => w_X9_goesWeek_b171  c57 K v1 st168))))))) ∧ (¬ 0 ≤ ((u2 st 14 (s1).toNatClampNeg s0) 14 (v1).toNatClampNeg) → w_X9_goesWeek_b171  c57 K v1 (u2 st 14 (s1).toNatClampNeg s0))))
def w_X9_goesWeek_L57q   (K : St → Prop) (c57 : Int32 → St → Prop) (v1 : Int32) (st : St) : Prop :=
  ((st 0 9) ≤ v1 → K st) ∧ (¬ (st 0 9) ≤ v1 → vp_in v1 6 ∧ ((¬ (st 8 (v1).toNatClampNeg) = 1 → vp_in v1 6 ∧ (vp_in v1 6 ∧ (w_X9_opensAt (st 7 (v1).toNatClampNeg) (st 6 (v1).toNatClampNeg) st (fun r98 st98 => w_X9_goesWeek_b101  c57 K v1 r98 v1 st98)))) ∧ ((st 8 (v1).toNatClampNeg) = 1 → w_X9_goesWeek_b101  c57 K v1 (-9) v1 st)))
def w_X9_goesWeek_L57   (K : St → Prop) : Nat → Int32 → St → Prop
  | 0, _, _ => False
  | n + 1, v1, st => w_X9_goesWeek_L57q   K (fun v1 st => w_X9_goesWeek_L57   K n v1 st) v1 st
def w_X9_goesWeek_b55   (K : St → Prop)  (st : St) : Prop :=
  ∃ n, w_X9_goesWeek_L57   K n 0 st
def w_X9_goesWeek_L17q   (K : St → Prop) (c17 : Int32 → St → Prop) (v1 : Int32) (st : St) : Prop :=
  ((st 0 8) ≤ v1 → w_X9_goesWeek_b55   K st) ∧ (¬ (st 0 8) ≤ v1 → ∃ n, w_X9_goesWeek_L29  c17 K n v1 (v1 + 1) st)
def w_X9_goesWeek_L17   (K : St → Prop) : Nat → Int32 → St → Prop
  | 0, _, _ => False
  | n + 1, v1, st => w_X9_goesWeek_L17q   K (fun v1 st => w_X9_goesWeek_L17   K n v1 st) v1 st
def w_X9_goesWeek  (st : St) (K : St → Prop) : Prop :=
  ∃ n, w_X9_goesWeek_L17   K n 0 (u2 (u2 st 0 10 ((st 0 10) + 1)) 0 25 0)
def w_X9_goesOn_L2q (x1 : Int32)  (K : St → Prop) (c2 : Int32 → St → Prop) (v2 : Int32) (st : St) : Prop :=
  (x1 ≤ v2 → K st) ∧ (¬ x1 ≤ v2 → w_X9_goesWeek  st (fun st8 => c2 (v2 + 1) st8))
def w_X9_goesOn_L2 (x1 : Int32)  (K : St → Prop) : Nat → Int32 → St → Prop
  | 0, _, _ => False
  | n + 1, v2, st => w_X9_goesOn_L2q x1  K (fun v2 st => w_X9_goesOn_L2 x1  K n v2 st) v2 st
def w_X9_goesOn (x1 : Int32) (st : St) (K : St → Prop) : Prop :=
  ∃ n, w_X9_goesOn_L2 x1  K n 0 st
def w_X9_comesWeeks (x1 : Int32) (st : St) (K : Int32 → St → Prop) : Prop :=
  w_X9_isIn x1 1 60 st (fun r4 st4 => (r4 = 0 → K 0 st4) ∧ (¬ r4 = 0 → (((st4 0 10) + x1) ≤ 999 → w_X9_goesOn x1 st4 (fun st26 => K 1 st26)) ∧ (¬ ((st4 0 10) + x1) ≤ 999 → K 0 st4)))
def w_X9_comes (x1 : Int32) (st : St) (K : Int32 → St → Prop) : Prop :=
  vp_in x1 48 ∧ (((st 10 (x1).toNatClampNeg) = 103 → vp_in (3 * x1) 144 ∧ (w_X9_isKeeper (st 12 ((3 * x1)).toNatClampNeg) st (fun r180 st180 => (r180 = 0 → K 0 st180) ∧ (¬ r180 = 0 → vp_in ((3 * x1) + 1) 144 ∧ (w_X9_isTown (st180 12 (((3 * x1) + 1)).toNatClampNeg) st180 (fun r194 st194 => (¬ r194 = 0 → vp_in (3 * x1) 144 ∧ (vp_in ((3 * x1) + 1) 144 ∧ (vp_in (st194 12 ((3 * x1)).toNatClampNeg) 6 ∧ (K 1 (u2 st194 4 ((st194 12 ((3 * x1)).toNatClampNeg)).toNatClampNeg (st194 12 (((3 * x1) + 1)).toNatClampNeg)))))) ∧ (r194 = 0 → K 0 st194))))))) ∧ (¬ (st 10 (x1).toNatClampNeg) = 103 → ((st 10 (x1).toNatClampNeg) = 104 → vp_in (3 * x1) 144 ∧ (vp_in ((3 * x1) + 1) 144 ∧ (w_X9_areTwo (st 12 ((3 * x1)).toNatClampNeg) (st 12 (((3 * x1) + 1)).toNatClampNeg) st (fun r118 st118 => (¬ r118 = 0 → vp_in (3 * x1) 144 ∧ (vp_in ((3 * x1) + 1) 144 ∧ (vp_in ((3 * x1) + 2) 144 ∧ (w_X9_sets (st118 12 ((3 * x1)).toNatClampNeg) (st118 12 (((3 * x1) + 1)).toNatClampNeg) (st118 12 (((3 * x1) + 2)).toNatClampNeg) st118 (fun st149 => K 1 st149))))) ∧ (r118 = 0 → K 0 st118))))) ∧ (¬ (st 10 (x1).toNatClampNeg) = 104 → ((st 10 (x1).toNatClampNeg) = 107 → vp_in (3 * x1) 144 ∧ (vp_in ((3 * x1) + 1) 144 ∧ (vp_in ((3 * x1) + 2) 144 ∧ (w_X9_comesKeeper (st 12 ((3 * x1)).toNatClampNeg) (st 12 (((3 * x1) + 1)).toNatClampNeg) (st 12 (((3 * x1) + 2)).toNatClampNeg) st (fun r99 st99 => (r99 = 0 ∨ r99 = 1) ∧ K r99 st99))))) ∧ (¬ (st 10 (x1).toNatClampNeg) = 107 → ((st 10 (x1).toNatClampNeg) = 108 → vp_in (3 * x1) 144 ∧ (vp_in ((3 * x1) + 1) 144 ∧ (w_X9_comesLetter (st 12 ((3 * x1)).toNatClampNeg) (st 12 (((3 * x1) + 1)).toNatClampNeg) st (fun r169 st169 => (r169 = 0 ∨ r169 = 1) ∧ K r169 st169)))) ∧ (¬ (st 10 (x1).toNatClampNeg) = 108 → ((st 10 (x1).toNatClampNeg) = 115 → vp_in (3 * x1) 144 ∧ (w_X9_isLetter (st 12 ((3 * x1)).toNatClampNeg) st (fun r230 st230 => (¬ r230 = 0 → vp_in (3 * x1) 144 ∧ (vp_in (3 * x1) 144 ∧ (vp_in (st230 12 ((3 * x1)).toNatClampNeg) 6 ∧ (vp_in (st230 12 ((3 * x1)).toNatClampNeg) 6 ∧ (K 1 (u2 st230 8 ((st230 12 ((3 * x1)).toNatClampNeg)).toNatClampNeg (1 - (st230 8 ((st230 12 ((3 * x1)).toNatClampNeg)).toNatClampNeg)))))))) ∧ (r230 = 0 → K 0 st230)))) ∧ (¬ (st 10 (x1).toNatClampNeg) = 115 → vp_in (3 * x1) 144 ∧ (w_X9_comesWeeks (st 12 ((3 * x1)).toNatClampNeg) st (fun r271 st271 => (r271 = 0 ∨ r271 = 1) ∧ K r271 st271))))))))
def w_X9_passes_b42 (k1 : Nat) (n1 : Nat) (c2 : Int32 → St → Prop) (K : St → Prop) (v2 : Int32) (st : St) : Prop :=
  c2 (v2 + 1) (u2 st 0 22 ((st 0 22) + 1))
def w_X9_passes_L2q (k1 : Nat) (n1 : Nat)  (K : St → Prop) (c2 : Int32 → St → Prop) (v2 : Int32) (st : St) : Prop :=
  ((nI n1) ≤ v2 → K st) ∧ (¬ (nI n1) ≤ v2 → ((st 0 21) = 0 → vp_in (st 0 22) 825 ∧ (vp_in v2 n1 ∧ (w_X9_passes_b42 k1 n1 c2 K v2 (u2 st k1 (v2).toNatClampNeg (st 13 ((st 0 22)).toNatClampNeg))))) ∧ (¬ (st 0 21) = 0 → vp_in v2 n1 ∧ (vp_in (st 0 22) 825 ∧ (w_X9_passes_b42 k1 n1 c2 K v2 (u2 st 13 ((st 0 22)).toNatClampNeg (st k1 (v2).toNatClampNeg))))))
def w_X9_passes_L2 (k1 : Nat) (n1 : Nat)  (K : St → Prop) : Nat → Int32 → St → Prop
  | 0, _, _ => False
  | n + 1, v2, st => w_X9_passes_L2q k1 n1  K (fun v2 st => w_X9_passes_L2 k1 n1  K n v2 st) v2 st
def w_X9_passes (k1 : Nat) (n1 : Nat) (st : St) (K : St → Prop) : Prop :=
  ∃ n, w_X9_passes_L2 k1 n1  K n 0 st
def w_X9_passOne_b38 (x1 : Int32)  (K : Int32 → St → Prop) (v2 : Int32) (st : St) : Prop :=
  K v2 (u2 st 0 22 ((st 0 22) + 1))
def w_X9_passOne_b20 (x1 : Int32)  (K : Int32 → St → Prop) (s0 : Int32) (st : St) : Prop :=
  ((st 0 21) = 0 → w_X9_passOne_b38 x1  K s0 st) ∧ (¬ (st 0 21) = 0 → vp_in (st 0 22) 825 ∧ (w_X9_passOne_b38 x1  K s0 (u2 st 13 ((st 0 22)).toNatClampNeg x1)))
def w_X9_passOne (x1 : Int32) (st : St) (K : Int32 → St → Prop) : Prop :=
  ((st 0 21) = 0 → vp_in (st 0 22) 825 ∧ (w_X9_passOne_b20 x1  K (st 13 ((st 0 22)).toNatClampNeg) st)) ∧ (¬ (st 0 21) = 0 → w_X9_passOne_b20 x1  K x1 st)
def w_X9_passesAll (x1 : Int32) (x2 : Int32) (st : St) (K : St → Prop) : Prop :=
  (x2 = 0 ∨ x2 = 1) ∧ (w_X9_passes 2 6 (u2 (u2 st 0 22 (75 * x1)) 0 21 x2) (fun st18 => w_X9_passes 3 6 st18 (fun st26 => w_X9_passes 4 6 st26 (fun st34 => w_X9_passes 5 36 st34 (fun st42 => w_X9_passes 6 6 st42 (fun st50 => w_X9_passes 7 6 st50 (fun st58 => w_X9_passes 8 6 st58 (fun st66 => w_X9_passOne (st66 0 8) st66 (fun r75 st75 => w_X9_passOne ((u2 st75 0 8 r75) 0 9) (u2 st75 0 8 r75) (fun r87 st87 => w_X9_passOne ((u2 st87 0 9 r87) 0 10) (u2 st87 0 9 r87) (fun r99 st99 => K (u2 st99 0 10 r99))))))))))))
def w_X9_land_b53  (c12 : Int32 → St → Prop) (K : Int32 → St → Prop) (v1 : Int32) (s0 : Int32) (s1 : Int32) (st : St) : Prop :=
  c12 v1 (u2 st 0 18 (s1 + s0))
def w_X9_land_b34  (c12 : Int32 → St → Prop) (K : Int32 → St → Prop)  (st : St) : Prop :=
  w_X9_statement  st (fun r35 st35 => (r35 = 0 → w_X9_land_b53  c12 K r35 0 (st35 0 18) st35) ∧ (¬ r35 = 0 → w_X9_land_b53  c12 K r35 1 (st35 0 18) st35))
def w_X9_land_b105   (K : Int32 → St → Prop) (v2 : Int32) (st : St) : Prop :=
  w_X9_passesAll 1 0 st (fun st108 => vp_in v2 48 ∧ (K ((-2000) - (st108 11 (v2).toNatClampNeg)) st108))
def w_X9_land_b128   (K : Int32 → St → Prop)  (st : St) : Prop :=
  K ((u2 st 0 23 0) 0 18) (u2 st 0 23 0)
def w_X9_land_L86q   (K : Int32 → St → Prop) (c86 : Int32 → St → Prop) (v2 : Int32) (st : St) : Prop :=
  ((st 0 18) ≤ v2 → w_X9_land_b128   K st) ∧ (¬ (st 0 18) ≤ v2 → w_X9_comes v2 st (fun r96 st96 => (r96 = 0 → w_X9_land_b105   K v2 st96) ∧ (¬ r96 = 0 → c86 (v2 + 1) st96)))
def w_X9_land_L86   (K : Int32 → St → Prop) : Nat → Int32 → St → Prop
  | 0, _, _ => False
  | n + 1, v2, st => w_X9_land_L86q   K (fun v2 st => w_X9_land_L86   K n v2 st) v2 st
def w_X9_land_b60   (K : Int32 → St → Prop) (v1 : Int32) (st : St) : Prop :=
  (¬ v1 = 0 → w_X9_passesAll 1 1 (u2 st 0 16 0) (fun st81 => ∃ n, w_X9_land_L86   K n 0 st81)) ∧ (v1 = 0 → K ((-1000) - ((u2 st 0 16 0) 0 17)) (u2 st 0 16 0))
def w_X9_land_L12q   (K : Int32 → St → Prop) (c12 : Int32 → St → Prop) (v1 : Int32) (st : St) : Prop :=
  (v1 = 0 → w_X9_land_b60   K v1 st) ∧ (¬ v1 = 0 → ((st 0 17) < (st 0 16) → w_X9_land_b34  c12 K st) ∧ (¬ (st 0 17) < (st 0 16) → (¬ (st 0 18) = 0 → w_X9_land_b60   K v1 st) ∧ ((st 0 18) = 0 → w_X9_land_b34  c12 K st)))
def w_X9_land_L12   (K : Int32 → St → Prop) : Nat → Int32 → St → Prop
  | 0, _, _ => False
  | n + 1, v1, st => w_X9_land_L12q   K (fun v1 st => w_X9_land_L12   K n v1 st) v1 st
def w_X9_land  (st : St) (K : Int32 → St → Prop) : Prop :=
  ∃ n, w_X9_land_L12   K n 1 (u2 (u2 st 0 17 0) 0 18 0)
def w_X9_thinks  (st : St) (K : St → Prop) : Prop :=
  w_X9_passesAll 2 1 st (fun st3 => K st3)
def w_X9_forgets  (st : St) (K : St → Prop) : Prop :=
  w_X9_passesAll 2 0 st (fun st3 => K st3)
def w_X9_changes  (st : St) (K : St → Prop) : Prop :=
  w_X9_passesAll 1 1 st (fun st3 => K st3)
def w_X9_changesBack  (st : St) (K : St → Prop) : Prop :=
  w_X9_passesAll 1 0 st (fun st3 => K st3)
def w_X9_keepsBack_b51   (K : St → Prop)  (st : St) : Prop :=
  w_X9_passesAll (3 + (st 0 23)) 1 st (fun st59 => K (u2 st59 0 23 ((st59 0 23) + 1)))
def w_X9_keepsBack_b41   (K : St → Prop)  (st : St) : Prop :=
  w_X9_keepsBack_b51   K (u2 st 0 23 ((st 0 23) - 1))
def w_X9_keepsBack_L13q   (K : St → Prop) (c13 : Int32 → St → Prop) (v1 : Int32) (st : St) : Prop :=
  (750 ≤ v1 → w_X9_keepsBack_b41   K st) ∧ (¬ 750 ≤ v1 → vp_in (v1 + 75) 825 ∧ (vp_in v1 825 ∧ (c13 (v1 + 1) (u2 st 13 (v1).toNatClampNeg (st 13 ((v1 + 75)).toNatClampNeg)))))
def w_X9_keepsBack_L13   (K : St → Prop) : Nat → Int32 → St → Prop
  | 0, _, _ => False
  | n + 1, v1, st => w_X9_keepsBack_L13q   K (fun v1 st => w_X9_keepsBack_L13   K n v1 st) v1 st
def w_X9_keepsBack  (st : St) (K : St → Prop) : Prop :=
  (¬ (st 0 23) = 8 → w_X9_keepsBack_b51   K st) ∧ ((st 0 23) = 8 → ∃ n, w_X9_keepsBack_L13   K n 225 st)
def w_X9_back  (st : St) (K : Int32 → St → Prop) : Prop :=
  (¬ (st 0 23) = 0 → w_X9_passesAll (3 + ((u2 st 0 23 ((st 0 23) - 1)) 0 23)) 0 (u2 st 0 23 ((st 0 23) - 1)) (fun st32 => K (st32 0 23) st32)) ∧ ((st 0 23) = 0 → w_X9_no (-3) st (fun r10 st10 => K r10 st10))
def w_X9_image  (st : St) (K : Int32 → St → Prop) : Prop :=
  w_X9_passesAll 0 1 (u2 st 0 20 1) (fun st8 => K (st8 0 10) st8)
def w_X9_restore  (st : St) (K : Int32 → St → Prop) : Prop :=
  (¬ (st 0 20) = 0 → w_X9_passesAll 0 0 st (fun st17 => K ((u2 st17 0 23 0) 0 10) (u2 st17 0 23 0))) ∧ ((st 0 20) = 0 → w_X9_no (-3) st (fun r10 st10 => K r10 st10))
def w_X9_payOf (x1 : Int32) (st : St) (K : Int32 → St → Prop) : Prop :=
  vp_in x1 6 ∧ (((st 2 (x1).toNatClampNeg) = 1 → vp_in x1 6 ∧ (K ((2 * (st 3 (x1).toNatClampNeg)) + 2) st)) ∧ (¬ (st 2 (x1).toNatClampNeg) = 1 → ((st 2 (x1).toNatClampNeg) = 2 → K 5 st) ∧ (¬ (st 2 (x1).toNatClampNeg) = 2 → ((st 2 (x1).toNatClampNeg) = 3 → K 0 st) ∧ (¬ (st 2 (x1).toNatClampNeg) = 3 → ((st 2 (x1).toNatClampNeg) = 4 → vp_in x1 6 ∧ (K ((2 * (st 3 (x1).toNatClampNeg)) + 1) st)) ∧ (¬ (st 2 (x1).toNatClampNeg) = 4 → ((st 2 (x1).toNatClampNeg) = 5 → K 2 st) ∧ (¬ (st 2 (x1).toNatClampNeg) = 5 → vp_in x1 6 ∧ (K ((st 3 (x1).toNatClampNeg) + 1) st)))))))
def w_X9_openOnes_L4q   (K : Int32 → St → Prop) (c4 : Int32 → Int32 → St → Prop) (v1 : Int32) (v2 : Int32) (st : St) : Prop :=
  ((st 0 9) ≤ v2 → K v1 st) ∧ (¬ (st 0 9) ≤ v2 → vp_in v2 6 ∧ (c4 (v1 ||| ((st 8 (v2).toNatClampNeg) <<< (v2 &&& 31))) (v2 + 1) st))
def w_X9_openOnes_L4   (K : Int32 → St → Prop) : Nat → Int32 → Int32 → St → Prop
  | 0, _, _, _ => False
  | n + 1, v1, v2, st => w_X9_openOnes_L4q   K (fun v1 v2 st => w_X9_openOnes_L4   K n v1 v2 st) v1 v2 st
def w_X9_openOnes  (st : St) (K : Int32 → St → Prop) : Prop :=
  ∃ n, w_X9_openOnes_L4   K n 0 0 st
def w_X9_allHate_b39  (c4 : Int32 → Int32 → St → Prop) (K : Int32 → St → Prop) (v1 : Int32) (v2 : Int32) (st : St) : Prop :=
  c4 v1 (v2 + 1) st
def w_X9_allHate_L16q  (c4 : Int32 → Int32 → St → Prop) (K : Int32 → St → Prop) (c16 : Int32 → Int32 → Int32 → St → Prop) (v1 : Int32) (v2 : Int32) (v3 : Int32) (st : St) : Prop :=
  ((st 0 8) ≤ v3 → w_X9_allHate_b39  c4 K v1 v2 st) ∧ (¬ (st 0 8) ≤ v3 → w_X9_hateOf v2 v3 st (fun r28 st28 => c16 (v1 + r28) v2 (v3 + 1) st28))
def w_X9_allHate_L16  (c4 : Int32 → Int32 → St → Prop) (K : Int32 → St → Prop) : Nat → Int32 → Int32 → Int32 → St → Prop
  | 0, _, _, _, _ => False
  | n + 1, v1, v2, v3, st => w_X9_allHate_L16q  c4 K (fun v1 v2 v3 st => w_X9_allHate_L16  c4 K n v1 v2 v3 st) v1 v2 v3 st
def w_X9_allHate_L4q   (K : Int32 → St → Prop) (c4 : Int32 → Int32 → St → Prop) (v1 : Int32) (v2 : Int32) (st : St) : Prop :=
  ((st 0 8) ≤ v2 → K v1 st) ∧ (¬ (st 0 8) ≤ v2 → ∃ n, w_X9_allHate_L16  c4 K n v1 v2 (v2 + 1) st)
def w_X9_allHate_L4   (K : Int32 → St → Prop) : Nat → Int32 → Int32 → St → Prop
  | 0, _, _, _ => False
  | n + 1, v1, v2, st => w_X9_allHate_L4q   K (fun v1 v2 st => w_X9_allHate_L4   K n v1 v2 st) v1 v2 st
def w_X9_allHate  (st : St) (K : Int32 → St → Prop) : Prop :=
  ∃ n, w_X9_allHate_L4   K n 0 0 st
def w_X9_keeperOf (x1 : Int32) (x2 : Int32) (st : St) (K : Int32 → St → Prop) : Prop :=
  w_X9_isKeeper x1 st (fun r2 st2 => (¬ r2 = 0 → (x2 = 0 → vp_in x1 6 ∧ (K (st2 2 (x1).toNatClampNeg) st2)) ∧ (¬ x2 = 0 → (x2 = 1 → vp_in x1 6 ∧ (K (st2 3 (x1).toNatClampNeg) st2)) ∧ (¬ x2 = 1 → (x2 = 2 → vp_in x1 6 ∧ (K (st2 4 (x1).toNatClampNeg) st2)) ∧ (¬ x2 = 2 → (x2 = 3 → w_X9_fadesOf x1 st2 (fun r75 st75 => K r75 st75)) ∧ (¬ x2 = 3 → (x2 = 4 → w_X9_stirsOf x1 st2 (fun r81 st81 => K r81 st81)) ∧ (¬ x2 = 4 → (x2 = 5 → w_X9_payOf x1 st2 (fun r87 st87 => K r87 st87)) ∧ (¬ x2 = 5 → w_X9_no (-2) st2 (fun r94 st94 => K r94 st94)))))))) ∧ (r2 = 0 → w_X9_no (-1) st2 (fun r10 st10 => K r10 st10)))
def w_X9_letterOf (x1 : Int32) (x2 : Int32) (st : St) (K : Int32 → St → Prop) : Prop :=
  w_X9_isLetter x1 st (fun r2 st2 => (¬ r2 = 0 → (x2 = 0 → vp_in x1 6 ∧ (K (st2 6 (x1).toNatClampNeg) st2)) ∧ (¬ x2 = 0 → (x2 = 1 → vp_in x1 6 ∧ (K (st2 7 (x1).toNatClampNeg) st2)) ∧ (¬ x2 = 1 → (x2 = 2 → vp_in x1 6 ∧ (K (st2 8 (x1).toNatClampNeg) st2)) ∧ (¬ x2 = 2 → (x2 = 3 → vp_in x1 6 ∧ (vp_in x1 6 ∧ (w_X9_opensAt (st2 7 (x1).toNatClampNeg) (st2 6 (x1).toNatClampNeg) st2 (fun r78 st78 => K r78 st78)))) ∧ (¬ x2 = 3 → w_X9_no (-2) st2 (fun r85 st85 => K r85 st85)))))) ∧ (r2 = 0 → w_X9_no (-1) st2 (fun r10 st10 => K r10 st10)))
def w_X9_hate (x1 : Int32) (x2 : Int32) (st : St) (K : Int32 → St → Prop) : Prop :=
  w_X9_areTwo x1 x2 st (fun r3 st3 => (r3 = 0 → w_X9_no (-1) st3 (fun r20 st20 => K r20 st20)) ∧ (¬ r3 = 0 → w_X9_hateOf x1 x2 st3 (fun r12 st12 => K r12 st12)))
def w_X9_keeper_b56 (x1 : Int32) (x2 : Int32) (x3 : Int32)  (K : Int32 → St → Prop) (v4 : Int32) (st : St) : Prop :=
  (v4 = 0 → w_X9_addsKeeper x1 x2 x3 (u2 st 0 23 0) (fun st77 => K ((st77 0 8) - 1) st77)) ∧ (¬ v4 = 0 → w_X9_no v4 st (fun r64 st64 => K r64 st64))
def w_X9_keeper_b41 (x1 : Int32) (x2 : Int32) (x3 : Int32)  (K : Int32 → St → Prop) (v4 : Int32) (st : St) : Prop :=
  (¬ v4 = 0 → w_X9_keeper_b56 x1 x2 x3  K v4 st) ∧ (v4 = 0 → w_X9_isTown x3 st (fun r47 st47 => (¬ r47 = 0 → w_X9_keeper_b56 x1 x2 x3  K v4 st47) ∧ (r47 = 0 → w_X9_keeper_b56 x1 x2 x3  K (-1) st47)))
def w_X9_keeper_b21 (x1 : Int32) (x2 : Int32) (x3 : Int32)  (K : Int32 → St → Prop) (s0 : Int32) (st : St) : Prop :=
  (¬ s0 = 0 → w_X9_keeper_b41 x1 x2 x3  K s0 st) ∧ (s0 = 0 → (¬ (st 0 8) = 6 → w_X9_keeper_b41 x1 x2 x3  K s0 st) ∧ ((st 0 8) = 6 → w_X9_keeper_b41 x1 x2 x3  K (-6) st))
def w_X9_keeper (x1 : Int32) (x2 : Int32) (x3 : Int32) (st : St) (K : Int32 → St → Prop) : Prop :=
  w_X9_isIn x1 0 5 st (fun r3 st3 => (¬ r3 = 0 → w_X9_bound x2 0 9 st3 (fun r18 st18 => w_X9_keeper_b21 x1 x2 x3  K r18 st18)) ∧ (r3 = 0 → w_X9_keeper_b21 x1 x2 x3  K (-2) st3))
def w_X9_letter_b35 (x1 : Int32) (x2 : Int32)  (K : Int32 → St → Prop) (v3 : Int32) (st : St) : Prop :=
  (v3 = 0 → w_X9_addsLetter x1 x2 (u2 st 0 23 0) (fun st53 => K ((st53 0 9) - 1) st53)) ∧ (¬ v3 = 0 → w_X9_no v3 st (fun r41 st41 => K r41 st41))
def w_X9_letter_b18 (x1 : Int32) (x2 : Int32)  (K : Int32 → St → Prop) (s0 : Int32) (st : St) : Prop :=
  (¬ s0 = 0 → w_X9_letter_b35 x1 x2  K s0 st) ∧ (s0 = 0 → (¬ (st 0 9) = 6 → w_X9_letter_b35 x1 x2  K s0 st) ∧ ((st 0 9) = 6 → w_X9_letter_b35 x1 x2  K (-6) st))
def w_X9_letter (x1 : Int32) (x2 : Int32) (st : St) (K : Int32 → St → Prop) : Prop :=
  w_X9_isTown x1 st (fun r1 st1 => (¬ r1 = 0 → w_X9_bound x2 0 99 st1 (fun r15 st15 => w_X9_letter_b18 x1 x2  K r15 st15)) ∧ (r1 = 0 → w_X9_letter_b18 x1 x2  K (-1) st1))
def w_X9_hates_b20 (x1 : Int32) (x2 : Int32) (x3 : Int32)  (K : Int32 → St → Prop) (s0 : Int32) (st : St) : Prop :=
  (s0 = 0 → w_X9_keepsBack  st (fun st35 => w_X9_hateOf x1 x2 st35 (fun r41 st41 => w_X9_sets x1 x2 x3 st41 (fun st50 => K r41 st50)))) ∧ (¬ s0 = 0 → w_X9_no s0 st (fun r30 st30 => K r30 st30))
def w_X9_hates (x1 : Int32) (x2 : Int32) (x3 : Int32) (st : St) (K : Int32 → St → Prop) : Prop :=
  w_X9_areTwo x1 x2 st (fun r3 st3 => (¬ r3 = 0 → w_X9_bound x3 0 99 st3 (fun r17 st17 => w_X9_hates_b20 x1 x2 x3  K r17 st17)) ∧ (r3 = 0 → w_X9_hates_b20 x1 x2 x3  K (-1) st3))
def w_X9_goes_b15 (x1 : Int32) (x2 : Int32)  (K : Int32 → St → Prop)  (st : St) : Prop :=
  w_X9_no (-1) st (fun r17 st17 => K r17 st17)
def w_X9_goes (x1 : Int32) (x2 : Int32) (st : St) (K : Int32 → St → Prop) : Prop :=
  w_X9_isKeeper x1 st (fun r2 st2 => (r2 = 0 → w_X9_goes_b15 x1 x2  K st2) ∧ (¬ r2 = 0 → w_X9_isTown x2 st2 (fun r9 st9 => (¬ r9 = 0 → w_X9_keepsBack  st9 (fun st22 => vp_in x1 6 ∧ (vp_in x1 6 ∧ (K (st22 4 (x1).toNatClampNeg) (u2 st22 4 (x1).toNatClampNeg x2))))) ∧ (r9 = 0 → w_X9_goes_b15 x1 x2  K st9))))
def w_X9_seals (x1 : Int32) (st : St) (K : Int32 → St → Prop) : Prop :=
  w_X9_isLetter x1 st (fun r2 st2 => (¬ r2 = 0 → w_X9_keepsBack  st2 (fun st15 => vp_in x1 6 ∧ (vp_in x1 6 ∧ (vp_in x1 6 ∧ (K ((u2 st15 8 (x1).toNatClampNeg (1 - (st15 8 (x1).toNatClampNeg))) 8 (x1).toNatClampNeg) (u2 st15 8 (x1).toNatClampNeg (1 - (st15 8 (x1).toNatClampNeg)))))))) ∧ (r2 = 0 → w_X9_no (-1) st2 (fun r10 st10 => K r10 st10)))
def w_X9_weeks_b27 (x1 : Int32)  (K : Int32 → St → Prop) (v2 : Int32) (st : St) : Prop :=
  (v2 = 0 → w_X9_keepsBack  st (fun st38 => w_X9_goesOn x1 st38 (fun st43 => w_X9_openOnes  st43 (fun r47 st47 => w_X9_bits r47 st47 (fun r50 st50 => K r50 st50))))) ∧ (¬ v2 = 0 → w_X9_no v2 st (fun r33 st33 => K r33 st33))
def w_X9_weeks (x1 : Int32) (st : St) (K : Int32 → St → Prop) : Prop :=
  w_X9_bound x1 1 60 st (fun r4 st4 => (¬ r4 = 0 → w_X9_weeks_b27 x1  K r4 st4) ∧ (r4 = 0 → (((st4 0 10) + x1) ≤ 999 → w_X9_weeks_b27 x1  K r4 st4) ∧ (¬ ((st4 0 10) + x1) ≤ 999 → w_X9_weeks_b27 x1  K (-6) st4)))
def w_X9_notWeeks (x0 : Int32) (st : St) (K : Int32 → St → Prop) : Prop :=
  w_X9_bound x0 0 60 st (fun r4 st4 => K r4 st4)
def w_X9_hateIn (x1 : Int32) (x2 : Int32) (x3 : Int32) (st : St) (K : Int32 → St → Prop) : Prop :=
  w_X9_thinks  st (fun st1 => w_X9_goesOn x3 st1 (fun st6 => w_X9_hateOf x1 x2 st6 (fun r12 st12 => w_X9_forgets  st12 (fun st18 => K r12 st18))))
def w_X9_openIn (x1 : Int32) (st : St) (K : Int32 → St → Prop) : Prop :=
  w_X9_thinks  st (fun st1 => w_X9_goesOn x1 st1 (fun st6 => w_X9_openOnes  st6 (fun r10 st10 => w_X9_forgets  st10 (fun st15 => K r10 st15))))
def w_X9_behind_b17 (x1 : Int32) (x2 : Int32) (x3 : Int32)  (K : Int32 → St → Prop) (s0 : Int32) (st : St) : Prop :=
  (s0 = 0 → w_X9_hateIn x1 x2 x3 st (fun r37 st37 => K r37 st37)) ∧ (¬ s0 = 0 → w_X9_no s0 st (fun r27 st27 => K r27 st27))
def w_X9_behind (x1 : Int32) (x2 : Int32) (x3 : Int32) (st : St) (K : Int32 → St → Prop) : Prop :=
  w_X9_areTwo x1 x2 st (fun r3 st3 => (¬ r3 = 0 → w_X9_notWeeks x3 st3 (fun r14 st14 => w_X9_behind_b17 x1 x2 x3  K r14 st14)) ∧ (r3 = 0 → w_X9_behind_b17 x1 x2 x3  K (-1) st3))
def w_X9_then_b21 (x1 : Int32) (x2 : Int32)  (K : Int32 → St → Prop) (v3 : Int32) (st : St) : Prop :=
  (v3 = 0 → (¬ x2 = 0 → w_X9_thinks  st (fun st42 => w_X9_goesOn x1 st42 (fun st47 => w_X9_allHate  st47 (fun r51 st51 => w_X9_forgets  st51 (fun st57 => K r51 st57))))) ∧ (x2 = 0 → w_X9_openIn x1 st (fun r37 st37 => K r37 st37))) ∧ (¬ v3 = 0 → w_X9_no v3 st (fun r27 st27 => K r27 st27))
def w_X9_then (x1 : Int32) (x2 : Int32) (st : St) (K : Int32 → St → Prop) : Prop :=
  w_X9_notWeeks x1 st (fun r1 st1 => (¬ r1 = 0 → w_X9_then_b21 x1 x2  K r1 st1) ∧ (r1 = 0 → w_X9_isIn x2 0 1 st1 (fun r12 st12 => (¬ r12 = 0 → w_X9_then_b21 x1 x2  K r1 st12) ∧ (r12 = 0 → w_X9_then_b21 x1 x2  K (-2) st12))))
def w_X9_whenOf_b65 (x1 : Int32) (c27 : Int32 → Int32 → St → Prop) (K : Int32 → St → Prop) (v2 : Int32) (v3 : Int32) (st : St) : Prop :=
  c27 v2 (v3 + 1) st
def w_X9_whenOf_b71 (x1 : Int32)  (K : Int32 → St → Prop) (v2 : Int32) (st : St) : Prop :=
  w_X9_forgets  st (fun st72 => K v2 st72)
def w_X9_whenOf_L27q (x1 : Int32)  (K : Int32 → St → Prop) (c27 : Int32 → Int32 → St → Prop) (v2 : Int32) (v3 : Int32) (st : St) : Prop :=
  (60 < v3 → w_X9_whenOf_b71 x1  K v2 st) ∧ (¬ 60 < v3 → (0 ≤ v2 → w_X9_whenOf_b71 x1  K v2 st) ∧ (¬ 0 ≤ v2 → w_X9_goesWeek  st (fun st38 => vp_in x1 6 ∧ ((¬ (st38 8 (x1).toNatClampNeg) = 0 → vp_in x1 6 ∧ (w_X9_whenOf_b65 x1 c27 K v3 v3 (u2 st38 0 26 (st38 14 (x1).toNatClampNeg)))) ∧ ((st38 8 (x1).toNatClampNeg) = 0 → w_X9_whenOf_b65 x1 c27 K v2 v3 st38)))))
def w_X9_whenOf_L27 (x1 : Int32)  (K : Int32 → St → Prop) : Nat → Int32 → Int32 → St → Prop
  | 0, _, _, _ => False
  | n + 1, v2, v3, st => w_X9_whenOf_L27q x1  K (fun v2 v3 st => w_X9_whenOf_L27 x1  K n v2 v3 st) v2 v3 st
def w_X9_whenOf (x1 : Int32) (st : St) (K : Int32 → St → Prop) : Prop :=
  vp_in x1 6 ∧ ((¬ ((u2 st 0 26 (-9)) 8 (x1).toNatClampNeg) = 1 → w_X9_thinks  (u2 st 0 26 (-9)) (fun st19 => ∃ n, w_X9_whenOf_L27 x1  K n (-9) 1 st19)) ∧ (((u2 st 0 26 (-9)) 8 (x1).toNatClampNeg) = 1 → K 0 (u2 st 0 26 (-9))))
def w_X9_when_b27 (x1 : Int32) (x2 : Int32)  (K : Int32 → St → Prop) (s0 : Int32) (st : St) : Prop :=
  (s0 = 0 → w_X9_whenOf x1 st (fun r40 st40 => (¬ x2 = 0 → K (st40 0 26) st40) ∧ (x2 = 0 → K r40 st40))) ∧ (¬ s0 = 0 → w_X9_no s0 st (fun r34 st34 => K r34 st34))
def w_X9_when (x1 : Int32) (x2 : Int32) (st : St) (K : Int32 → St → Prop) : Prop :=
  w_X9_isLetter x1 st (fun r2 st2 => (¬ r2 = 0 → w_X9_isIn x2 0 1 st2 (fun r15 st15 => (¬ r15 = 0 → w_X9_when_b27 x1 x2  K 0 st15) ∧ (r15 = 0 → w_X9_when_b27 x1 x2  K (-2) st15))) ∧ (r2 = 0 → w_X9_when_b27 x1 x2  K (-1) st2))
def w_X9_lasts_b74 (x1 : Int32) (x2 : Int32) (x3 : Int32) (c45 : Int32 → Int32 → St → Prop) (K : Int32 → St → Prop) (v6 : Int32) (s0 : Int32) (st : St) : Prop :=
  w_X9_goesWeek  st (fun st77 => c45 s0 (v6 + 1) st77)
def w_X9_lasts_b86 (x1 : Int32) (x2 : Int32) (x3 : Int32)  (K : Int32 → St → Prop) (v5 : Int32) (st : St) : Prop :=
  w_X9_forgets  st (fun st87 => K v5 st87)
def w_X9_lasts_L45q (x1 : Int32) (x2 : Int32) (x3 : Int32)  (K : Int32 → St → Prop) (c45 : Int32 → Int32 → St → Prop) (v5 : Int32) (v6 : Int32) (st : St) : Prop :=
  (60 < v6 → w_X9_lasts_b86 x1 x2 x3  K v5 st) ∧ (¬ 60 < v6 → (0 ≤ v5 → w_X9_lasts_b86 x1 x2 x3  K v5 st) ∧ (¬ 0 ≤ v5 → w_X9_hateOf x1 x2 st (fun r60 st60 => (x3 ≤ r60 → w_X9_lasts_b74 x1 x2 x3 c45 K v6 (-9) st60) ∧ (¬ x3 ≤ r60 → w_X9_lasts_b74 x1 x2 x3 c45 K v6 v6 st60))))
def w_X9_lasts_L45 (x1 : Int32) (x2 : Int32) (x3 : Int32)  (K : Int32 → St → Prop) : Nat → Int32 → Int32 → St → Prop
  | 0, _, _, _ => False
  | n + 1, v5, v6, st => w_X9_lasts_L45q x1 x2 x3  K (fun v5 v6 st => w_X9_lasts_L45 x1 x2 x3  K n v5 v6 st) v5 v6 st
def w_X9_lasts_b20 (x1 : Int32) (x2 : Int32) (x3 : Int32)  (K : Int32 → St → Prop) (s0 : Int32) (st : St) : Prop :=
  (s0 = 0 → w_X9_thinks  st (fun st35 => ∃ n, w_X9_lasts_L45 x1 x2 x3  K n (-9) 0 st35)) ∧ (¬ s0 = 0 → w_X9_no s0 st (fun r30 st30 => K r30 st30))
def w_X9_lasts (x1 : Int32) (x2 : Int32) (x3 : Int32) (st : St) (K : Int32 → St → Prop) : Prop :=
  w_X9_areTwo x1 x2 st (fun r3 st3 => (¬ r3 = 0 → w_X9_bound x3 0 99 st3 (fun r17 st17 => w_X9_lasts_b20 x1 x2 x3  K r17 st17)) ∧ (r3 = 0 → w_X9_lasts_b20 x1 x2 x3  K (-1) st3))
def w_X9_firstOne_b42  (c8 : Int32 → Int32 → Int32 → St → Prop) (K : Int32 → St → Prop) (v1 : Int32) (v2 : Int32) (v3 : Int32) (st : St) : Prop :=
  c8 v1 v2 (v3 + 1) st
def w_X9_firstOne_L8q   (K : Int32 → St → Prop) (c8 : Int32 → Int32 → Int32 → St → Prop) (v1 : Int32) (v2 : Int32) (v3 : Int32) (st : St) : Prop :=
  ((st 0 9) ≤ v3 → K v1 st) ∧ (¬ (st 0 9) ≤ v3 → w_X9_whenOf v3 st (fun r18 st18 => (r18 ≤ 0 → w_X9_firstOne_b42  c8 K v1 v2 v3 st18) ∧ (¬ r18 ≤ 0 → (r18 < v2 → w_X9_firstOne_b42  c8 K v3 r18 v3 st18) ∧ (¬ r18 < v2 → w_X9_firstOne_b42  c8 K v1 v2 v3 st18))))
def w_X9_firstOne_L8   (K : Int32 → St → Prop) : Nat → Int32 → Int32 → Int32 → St → Prop
  | 0, _, _, _, _ => False
  | n + 1, v1, v2, v3, st => w_X9_firstOne_L8q   K (fun v1 v2 v3 st => w_X9_firstOne_L8   K n v1 v2 v3 st) v1 v2 v3 st
def w_X9_firstOne  (st : St) (K : Int32 → St → Prop) : Prop :=
  ∃ n, w_X9_firstOne_L8   K n (-9) 61 0 st
def w_X9_never (x1 : Int32) (st : St) (K : Int32 → St → Prop) : Prop :=
  w_X9_isIn x1 0 1 st (fun r3 st3 => (¬ r3 = 0 → (¬ x1 = 0 → w_X9_firstOne  st3 (fun r41 st41 => K r41 st41)) ∧ (x1 = 0 → w_X9_openIn 60 st3 (fun r31 st31 => K ((((1 : Int32) <<< ((st3 0 9) &&& 31)) - 1) &&& (r31 ^^^ (-1))) st31))) ∧ (r3 = 0 → w_X9_no (-2) st3 (fun r12 st12 => K r12 st12)))
def w_X9_isOpenedBy_b52 (x1 : Int32) (x2 : Int32) (x3 : Int32)  (K : Int32 → St → Prop) (s0 : Int32) (st : St) : Prop :=
  w_X9_forgets  st (fun st55 => (s0 = 0 ∨ s0 = 1) ∧ K s0 st55)
def w_X9_isOpenedBy_b51 (x1 : Int32) (x2 : Int32) (x3 : Int32)  (K : Int32 → St → Prop)  (st : St) : Prop :=
  w_X9_isOpenedBy_b52 x1 x2 x3  K 0 st
def w_X9_isOpenedBy_b44 (x1 : Int32) (x2 : Int32) (x3 : Int32)  (K : Int32 → St → Prop) (s0 : Int32) (s1 : Int32) (st : St) : Prop :=
  (¬ s1 = s0 → w_X9_isOpenedBy_b51 x1 x2 x3  K st) ∧ (s1 = s0 → w_X9_isOpenedBy_b52 x1 x2 x3  K 1 st)
def w_X9_isOpenedBy (x1 : Int32) (x2 : Int32) (x3 : Int32) (st : St) (K : Int32 → St → Prop) : Prop :=
  w_X9_thinks  st (fun st1 => w_X9_goesWeek  st1 (fun st5 => vp_in x3 6 ∧ ((¬ (st5 8 (x3).toNatClampNeg) = 1 → w_X9_isOpenedBy_b51 x1 x2 x3  K st5) ∧ ((st5 8 (x3).toNatClampNeg) = 1 → vp_in x3 6 ∧ ((x2 ≤ x1 → w_X9_isOpenedBy_b44 x1 x2 x3  K ((10 * x2) + x1) (st5 14 (x3).toNatClampNeg) st5) ∧ (¬ x2 ≤ x1 → w_X9_isOpenedBy_b44 x1 x2 x3  K ((10 * x1) + x2) (st5 14 (x3).toNatClampNeg) st5))))))
def w_X9_insult_b112 (x1 : Int32) (x2 : Int32) (x3 : Int32) (c66 : Int32 → Int32 → Int32 → St → Prop) (K : Int32 → St → Prop) (v5 : Int32) (v7 : Int32) (s0 : Int32) (st : St) : Prop :=
  c66 v5 s0 (v7 + 1) st
def w_X9_insult_b120 (x1 : Int32) (x2 : Int32) (x3 : Int32)  (K : Int32 → St → Prop) (v5 : Int32) (v6 : Int32) (st : St) : Prop :=
  w_X9_sets x1 x2 v5 st (fun st125 => K v6 st125)
def w_X9_insult_L66q (x1 : Int32) (x2 : Int32) (x3 : Int32)  (K : Int32 → St → Prop) (c66 : Int32 → Int32 → Int32 → St → Prop) (v5 : Int32) (v6 : Int32) (v7 : Int32) (st : St) : Prop :=
  (99 < v7 → w_X9_insult_b120 x1 x2 x3  K v5 v6 st) ∧ (¬ 99 < v7 → (0 ≤ v6 → w_X9_insult_b120 x1 x2 x3  K v5 v6 st) ∧ (¬ 0 ≤ v6 → w_X9_held (v5 + v7) 0 99 st (fun r89 st89 => w_X9_sets x1 x2 r89 st89 (fun st92 => w_X9_isOpenedBy x1 x2 x3 st92 (fun r99 st99 => (r99 = 0 → w_X9_insult_b112 x1 x2 x3 c66 K v5 v7 (-9) st99) ∧ (¬ r99 = 0 → w_X9_insult_b112 x1 x2 x3 c66 K v5 v7 v7 st99))))))
def w_X9_insult_L66 (x1 : Int32) (x2 : Int32) (x3 : Int32)  (K : Int32 → St → Prop) : Nat → Int32 → Int32 → Int32 → St → Prop
  | 0, _, _, _, _ => False
  | n + 1, v5, v6, v7, st => w_X9_insult_L66q x1 x2 x3  K (fun v5 v6 v7 st => w_X9_insult_L66 x1 x2 x3  K n v5 v6 v7 st) v5 v6 v7 st
def w_X9_insult_b37 (x1 : Int32) (x2 : Int32) (x3 : Int32)  (K : Int32 → St → Prop) (s0 : Int32) (st : St) : Prop :=
  (s0 = 0 → w_X9_hateOf x1 x2 st (fun r54 st54 => ∃ n, w_X9_insult_L66 x1 x2 x3  K n r54 (-9) 0 st54)) ∧ (¬ s0 = 0 → w_X9_no s0 st (fun r47 st47 => K r47 st47))
def w_X9_insult_b17 (x1 : Int32) (x2 : Int32) (x3 : Int32)  (K : Int32 → St → Prop)  (st : St) : Prop :=
  w_X9_insult_b37 x1 x2 x3  K (-1) st
def w_X9_insult (x1 : Int32) (x2 : Int32) (x3 : Int32) (st : St) (K : Int32 → St → Prop) : Prop :=
  w_X9_areTwo x1 x2 st (fun r3 st3 => (r3 = 0 → w_X9_insult_b17 x1 x2 x3  K st3) ∧ (¬ r3 = 0 → w_X9_isLetter x3 st3 (fun r11 st11 => (¬ r11 = 0 → vp_in x3 6 ∧ ((¬ (st11 8 (x3).toNatClampNeg) = 1 → w_X9_insult_b37 x1 x2 x3  K 0 st11) ∧ ((st11 8 (x3).toNatClampNeg) = 1 → w_X9_insult_b37 x1 x2 x3  K (-3) st11))) ∧ (r11 = 0 → w_X9_insult_b17 x1 x2 x3  K st11))))
def w_X9_manyAt (x1 : Int32) (x2 : Int32) (x3 : Int32) (st : St) (K : Int32 → St → Prop) : Prop :=
  vp_in x1 6 ∧ (vp_in x1 6 ∧ (w_X9_openIn x3 (u2 st 4 (x1).toNatClampNeg x2) (fun r17 st17 => w_X9_bits r17 st17 (fun r20 st20 => vp_in x1 6 ∧ (K r20 (u2 st20 4 (x1).toNatClampNeg (st 4 (x1).toNatClampNeg)))))))
def w_X9_send_b100 (x1 : Int32) (c31 : Int32 → Int32 → Int32 → St → Prop) (c43 : Int32 → Int32 → Int32 → Int32 → St → Prop) (K : Int32 → St → Prop) (v3 : Int32) (v4 : Int32) (v5 : Int32) (v6 : Int32) (st : St) : Prop :=
  c43 v3 v4 v5 (v6 + 1) st
def w_X9_send_b75 (x1 : Int32) (c31 : Int32 → Int32 → Int32 → St → Prop) (c43 : Int32 → Int32 → Int32 → Int32 → St → Prop) (K : Int32 → St → Prop) (v3 : Int32) (v4 : Int32) (v5 : Int32) (v6 : Int32) (s0 : Int32) (st : St) : Prop :=
  (v4 < s0 → w_X9_send_b100 x1 c31 c43 K ((10 * v5) + v6) s0 v5 v6 st) ∧ (¬ v4 < s0 → w_X9_send_b100 x1 c31 c43 K v3 v4 v5 v6 st)
def w_X9_send_b106 (x1 : Int32) (c31 : Int32 → Int32 → Int32 → St → Prop) (K : Int32 → St → Prop) (v3 : Int32) (v4 : Int32) (v5 : Int32) (st : St) : Prop :=
  c31 v3 v4 (v5 + 1) st
def w_X9_send_L43q (x1 : Int32) (c31 : Int32 → Int32 → Int32 → St → Prop) (K : Int32 → St → Prop) (c43 : Int32 → Int32 → Int32 → Int32 → St → Prop) (v3 : Int32) (v4 : Int32) (v5 : Int32) (v6 : Int32) (st : St) : Prop :=
  (4 ≤ v6 → w_X9_send_b106 x1 c31 K v3 v4 v5 st) ∧ (¬ 4 ≤ v6 → vp_in v5 6 ∧ ((¬ v6 = (st 4 (v5).toNatClampNeg) → w_X9_manyAt v5 v6 x1 st (fun r72 st72 => w_X9_send_b75 x1 c31 c43 K v3 v4 v5 v6 r72 st72)) ∧ (v6 = (st 4 (v5).toNatClampNeg) → w_X9_send_b75 x1 c31 c43 K v3 v4 v5 v6 (-9) st)))
def w_X9_send_L43 (x1 : Int32) (c31 : Int32 → Int32 → Int32 → St → Prop) (K : Int32 → St → Prop) : Nat → Int32 → Int32 → Int32 → Int32 → St → Prop
  | 0, _, _, _, _, _ => False
  | n + 1, v3, v4, v5, v6, st => w_X9_send_L43q x1 c31 K (fun v3 v4 v5 v6 st => w_X9_send_L43 x1 c31 K n v3 v4 v5 v6 st) v3 v4 v5 v6 st
def w_X9_send_L31q (x1 : Int32)  (K : Int32 → St → Prop) (c31 : Int32 → Int32 → Int32 → St → Prop) (v3 : Int32) (v4 : Int32) (v5 : Int32) (st : St) : Prop :=
  ((st 0 8) ≤ v5 → K v3 st) ∧ (¬ (st 0 8) ≤ v5 → ∃ n, w_X9_send_L43 x1 c31 K n v3 v4 v5 0 st)
def w_X9_send_L31 (x1 : Int32)  (K : Int32 → St → Prop) : Nat → Int32 → Int32 → Int32 → St → Prop
  | 0, _, _, _, _ => False
  | n + 1, v3, v4, v5, st => w_X9_send_L31q x1  K (fun v3 v4 v5 st => w_X9_send_L31 x1  K n v3 v4 v5 st) v3 v4 v5 st
def w_X9_send (x1 : Int32) (st : St) (K : Int32 → St → Prop) : Prop :=
  w_X9_notWeeks x1 st (fun r1 st1 => (r1 = 0 → w_X9_openIn x1 st1 (fun r20 st20 => w_X9_bits r20 st20 (fun r23 st23 => ∃ n, w_X9_send_L31 x1  K n (-9) r23 0 st23))) ∧ (¬ r1 = 0 → w_X9_no r1 st1 (fun r11 st11 => K r11 st11)))
def w_X9_places_b174 (x1 : Int32) (x2 : Int32) (x3 : Int32) (x4 : Int32) (x5 : Int32) (c84 : Int32 → Int32 → Int32 → St → Prop) (K : Int32 → St → Prop) (v7 : Int32) (v8 : Int32) (v9 : Int32) (st : St) : Prop :=
  c84 v7 v8 (v9 + 1) st
def w_X9_places_b180 (x1 : Int32) (x2 : Int32) (x3 : Int32) (x4 : Int32) (x5 : Int32)  (K : Int32 → St → Prop) (v7 : Int32) (v8 : Int32) (st : St) : Prop :=
  w_X9_changesBack  st (fun st181 => (¬ x5 = 0 → K v8 st181) ∧ (x5 = 0 → K v7 st181))
def w_X9_places_L84q (x1 : Int32) (x2 : Int32) (x3 : Int32) (x4 : Int32) (x5 : Int32)  (K : Int32 → St → Prop) (c84 : Int32 → Int32 → Int32 → St → Prop) (v7 : Int32) (v8 : Int32) (v9 : Int32) (st : St) : Prop :=
  (64 ≤ v9 → w_X9_places_b180 x1 x2 x3 x4 x5  K v7 v8 st) ∧ (¬ 64 ≤ v9 → vp_in x1 6 ∧ (vp_in x2 6 ∧ (vp_in x3 6 ∧ (w_X9_openIn x4 (u2 (u2 (u2 st 4 (x1).toNatClampNeg (v9 / 16)) 4 (x2).toNatClampNeg ((v9 / 4) - (v9 / 4) / 4 * 4)) 4 (x3).toNatClampNeg (v9 - v9 / 4 * 4)) (fun r127 st127 => w_X9_bits r127 st127 (fun r130 st130 => (v8 < r130 → w_X9_places_b174 x1 x2 x3 x4 x5 c84 K (((100 * (v9 / 16)) + (10 * ((v9 / 4) - (v9 / 4) / 4 * 4))) + (v9 - v9 / 4 * 4)) r130 v9 st130) ∧ (¬ v8 < r130 → w_X9_places_b174 x1 x2 x3 x4 x5 c84 K v7 v8 v9 st130)))))))
def w_X9_places_L84 (x1 : Int32) (x2 : Int32) (x3 : Int32) (x4 : Int32) (x5 : Int32)  (K : Int32 → St → Prop) : Nat → Int32 → Int32 → Int32 → St → Prop
  | 0, _, _, _, _ => False
  | n + 1, v7, v8, v9, st => w_X9_places_L84q x1 x2 x3 x4 x5  K (fun v7 v8 v9 st => w_X9_places_L84 x1 x2 x3 x4 x5  K n v7 v8 v9 st) v7 v8 v9 st
def w_X9_places_b57 (x1 : Int32) (x2 : Int32) (x3 : Int32) (x4 : Int32) (x5 : Int32)  (K : Int32 → St → Prop) (v6 : Int32) (st : St) : Prop :=
  (v6 = 0 → w_X9_changes  st (fun st78 => ∃ n, w_X9_places_L84 x1 x2 x3 x4 x5  K n (-9) (-9) 0 st78)) ∧ (¬ v6 = 0 → w_X9_no v6 st (fun r65 st65 => K r65 st65))
def w_X9_places_b36 (x1 : Int32) (x2 : Int32) (x3 : Int32) (x4 : Int32) (x5 : Int32)  (K : Int32 → St → Prop) (s0 : Int32) (st : St) : Prop :=
  (¬ s0 = 0 → w_X9_places_b57 x1 x2 x3 x4 x5  K s0 st) ∧ (s0 = 0 → w_X9_isIn x5 0 1 st (fun r47 st47 => (¬ r47 = 0 → w_X9_places_b57 x1 x2 x3 x4 x5  K s0 st47) ∧ (r47 = 0 → w_X9_places_b57 x1 x2 x3 x4 x5  K (-2) st47)))
def w_X9_places_b27 (x1 : Int32) (x2 : Int32) (x3 : Int32) (x4 : Int32) (x5 : Int32)  (K : Int32 → St → Prop)  (st : St) : Prop :=
  w_X9_places_b36 x1 x2 x3 x4 x5  K (-1) st
def w_X9_places (x1 : Int32) (x2 : Int32) (x3 : Int32) (x4 : Int32) (x5 : Int32) (st : St) (K : Int32 → St → Prop) : Prop :=
  w_X9_areTwo x1 x2 st (fun r3 st3 => (r3 = 0 → w_X9_places_b27 x1 x2 x3 x4 x5  K st3) ∧ (¬ r3 = 0 → w_X9_areTwo x1 x3 st3 (fun r12 st12 => (r12 = 0 → w_X9_places_b27 x1 x2 x3 x4 x5  K st12) ∧ (¬ r12 = 0 → w_X9_areTwo x2 x3 st12 (fun r21 st21 => (¬ r21 = 0 → w_X9_notWeeks x4 st21 (fun r33 st33 => w_X9_places_b36 x1 x2 x3 x4 x5  K r33 st33)) ∧ (r21 = 0 → w_X9_places_b27 x1 x2 x3 x4 x5  K st21))))))
def w_X9_manyBy (x1 : Int32) (x2 : Int32) (st : St) (K : Int32 → St → Prop) : Prop :=
  w_X9_openIn x2 (u2 st 0 11 (x1 ^^^ (-1))) (fun r9 st9 => w_X9_bits r9 st9 (fun r12 st12 => K r12 (u2 st12 0 11 0)))
def w_X9_payOfAll_b30 (x1 : Int32) (c4 : Int32 → Int32 → St → Prop) (K : Int32 → St → Prop) (v3 : Int32) (s0 : Int32) (s1 : Int32) (st : St) : Prop :=
  c4 (s1 + s0) (v3 + 1) st
def w_X9_payOfAll_L4q (x1 : Int32)  (K : Int32 → St → Prop) (c4 : Int32 → Int32 → St → Prop) (v2 : Int32) (v3 : Int32) (st : St) : Prop :=
  ((st 0 8) ≤ v3 → K v2 st) ∧ (¬ (st 0 8) ≤ v3 → w_X9_has x1 v3 st (fun r15 st15 => (r15 = 0 → w_X9_payOfAll_b30 x1 c4 K v3 0 v2 st15) ∧ (¬ r15 = 0 → w_X9_payOf v3 st15 (fun r23 st23 => w_X9_payOfAll_b30 x1 c4 K v3 r23 v2 st23))))
def w_X9_payOfAll_L4 (x1 : Int32)  (K : Int32 → St → Prop) : Nat → Int32 → Int32 → St → Prop
  | 0, _, _, _ => False
  | n + 1, v2, v3, st => w_X9_payOfAll_L4q x1  K (fun v2 v3 st => w_X9_payOfAll_L4 x1  K n v2 v3 st) v2 v3 st
def w_X9_payOfAll (x1 : Int32) (st : St) (K : Int32 → St → Prop) : Prop :=
  ∃ n, w_X9_payOfAll_L4 x1  K n 0 0 st
def w_X9_fewest_b89 (x1 : Int32) (x2 : Int32) (c55 : Int32 → Int32 → Int32 → St → Prop) (K : Int32 → St → Prop) (v4 : Int32) (v5 : Int32) (v6 : Int32) (st : St) : Prop :=
  c55 v4 v5 (v6 + (-1)) st
def w_X9_fewest_b95 (x1 : Int32) (x2 : Int32)  (K : Int32 → St → Prop) (v5 : Int32) (st : St) : Prop :=
  (¬ x2 = 0 → w_X9_payOfAll v5 st (fun r107 st107 => K r107 st107)) ∧ (x2 = 0 → K v5 st)
def w_X9_fewest_L55q (x1 : Int32) (x2 : Int32)  (K : Int32 → St → Prop) (c55 : Int32 → Int32 → Int32 → St → Prop) (v4 : Int32) (v5 : Int32) (v6 : Int32) (st : St) : Prop :=
  (v6 < 0 → w_X9_fewest_b95 x1 x2  K v5 st) ∧ (¬ v6 < 0 → w_X9_bits v6 st (fun r62 st62 => w_X9_bits v5 st62 (fun r67 st67 => (r67 < r62 → w_X9_fewest_b89 x1 x2 c55 K v4 v5 v6 st67) ∧ (¬ r67 < r62 → w_X9_manyBy v6 x1 st67 (fun r77 st77 => (r77 < v4 → w_X9_fewest_b89 x1 x2 c55 K v4 v5 v6 st77) ∧ (¬ r77 < v4 → w_X9_fewest_b89 x1 x2 c55 K v4 v6 v6 st77))))))
def w_X9_fewest_L55 (x1 : Int32) (x2 : Int32)  (K : Int32 → St → Prop) : Nat → Int32 → Int32 → Int32 → St → Prop
  | 0, _, _, _, _ => False
  | n + 1, v4, v5, v6, st => w_X9_fewest_L55q x1 x2  K (fun v4 v5 v6 st => w_X9_fewest_L55 x1 x2  K n v4 v5 v6 st) v4 v5 v6 st
def w_X9_fewest_b21 (x1 : Int32) (x2 : Int32)  (K : Int32 → St → Prop) (v3 : Int32) (st : St) : Prop :=
  (v3 = 0 → w_X9_openIn x1 st (fun r33 st33 => w_X9_bits r33 st33 (fun r36 st36 => ∃ n, w_X9_fewest_L55 x1 x2  K n r36 (((1 : Int32) <<< ((st36 0 8) &&& 31)) - 1) (((1 : Int32) <<< ((st36 0 8) &&& 31)) - 1) st36))) ∧ (¬ v3 = 0 → w_X9_no v3 st (fun r27 st27 => K r27 st27))
def w_X9_fewest (x1 : Int32) (x2 : Int32) (st : St) (K : Int32 → St → Prop) : Prop :=
  w_X9_notWeeks x1 st (fun r1 st1 => (¬ r1 = 0 → w_X9_fewest_b21 x1 x2  K r1 st1) ∧ (r1 = 0 → w_X9_isIn x2 0 1 st1 (fun r12 st12 => (¬ r12 = 0 → w_X9_fewest_b21 x1 x2  K r1 st12) ∧ (r12 = 0 → w_X9_fewest_b21 x1 x2  K (-2) st12))))
def w_X9_keepersIn_b30 (x1 : Int32) (c4 : Int32 → Int32 → St → Prop) (K : Int32 → St → Prop) (v3 : Int32) (s0 : Int32) (s1 : Int32) (st : St) : Prop :=
  c4 (s1 ||| s0) (v3 + 1) st
def w_X9_keepersIn_L4q (x1 : Int32)  (K : Int32 → St → Prop) (c4 : Int32 → Int32 → St → Prop) (v2 : Int32) (v3 : Int32) (st : St) : Prop :=
  ((st 0 8) ≤ v3 → K v2 st) ∧ (¬ (st 0 8) ≤ v3 → vp_in v3 6 ∧ ((¬ (st 4 (v3).toNatClampNeg) = x1 → w_X9_keepersIn_b30 x1 c4 K v3 0 v2 st) ∧ ((st 4 (v3).toNatClampNeg) = x1 → w_X9_keepersIn_b30 x1 c4 K v3 ((1 : Int32) <<< (v3 &&& 31)) v2 st)))
def w_X9_keepersIn_L4 (x1 : Int32)  (K : Int32 → St → Prop) : Nat → Int32 → Int32 → St → Prop
  | 0, _, _, _ => False
  | n + 1, v2, v3, st => w_X9_keepersIn_L4q x1  K (fun v2 v3 st => w_X9_keepersIn_L4 x1  K n v2 v3 st) v2 v3 st
def w_X9_keepersIn (x1 : Int32) (st : St) (K : Int32 → St → Prop) : Prop :=
  ∃ n, w_X9_keepersIn_L4 x1  K n 0 0 st
def w_X9_pay_b47 (x1 : Int32) (x2 : Int32)  (K : Int32 → St → Prop) (s0 : Int32) (s2 : Int32) (st : St) : Prop :=
  w_X9_payOfAll s0 st (fun r47 st47 => K (s2 * r47) st47)
def w_X9_pay_b20 (x1 : Int32) (x2 : Int32)  (K : Int32 → St → Prop) (s0 : Int32) (st : St) : Prop :=
  (s0 = 0 → (0 ≤ x1 → w_X9_keepersIn x1 st (fun r44 st44 => w_X9_pay_b47 x1 x2  K r44 x2 st44)) ∧ (¬ 0 ≤ x1 → w_X9_pay_b47 x1 x2  K 63 x2 st)) ∧ (¬ s0 = 0 → w_X9_no s0 st (fun r27 st27 => K r27 st27))
def w_X9_pay_b16 (x1 : Int32) (x2 : Int32)  (K : Int32 → St → Prop)  (st : St) : Prop :=
  w_X9_notWeeks x2 st (fun r17 st17 => w_X9_pay_b20 x1 x2  K r17 st17)
def w_X9_pay (x1 : Int32) (x2 : Int32) (st : St) (K : Int32 → St → Prop) : Prop :=
  (x1 = (-1) → w_X9_pay_b16 x1 x2  K st) ∧ (¬ x1 = (-1) → w_X9_isTown x1 st (fun r6 st6 => (¬ r6 = 0 → w_X9_pay_b16 x1 x2  K st6) ∧ (r6 = 0 → w_X9_pay_b20 x1 x2  K (-1) st6)))
def w_X9_deepest_b73 (x1 : Int32) (c18 : Int32 → Int32 → St → Prop) (c31 : Int32 → Int32 → Int32 → St → Prop) (K : Int32 → St → Prop) (v3 : Int32) (v4 : Int32) (s0 : Int32) (st : St) : Prop :=
  c31 s0 v3 (v4 + 1) st
def w_X9_deepest_b72 (x1 : Int32) (c18 : Int32 → Int32 → St → Prop) (c31 : Int32 → Int32 → Int32 → St → Prop) (K : Int32 → St → Prop) (v2 : Int32) (v3 : Int32) (v4 : Int32) (st : St) : Prop :=
  w_X9_deepest_b73 x1 c18 c31 K v3 v4 v2 st
def w_X9_deepest_b80 (x1 : Int32) (c18 : Int32 → Int32 → St → Prop) (K : Int32 → St → Prop) (v2 : Int32) (v3 : Int32) (st : St) : Prop :=
  c18 v2 (v3 + 1) st
def w_X9_deepest_L31q (x1 : Int32) (c18 : Int32 → Int32 → St → Prop) (K : Int32 → St → Prop) (c31 : Int32 → Int32 → Int32 → St → Prop) (v2 : Int32) (v3 : Int32) (v4 : Int32) (st : St) : Prop :=
  ((st 0 8) ≤ v4 → w_X9_deepest_b80 x1 c18 K v2 v3 st) ∧ (¬ (st 0 8) ≤ v4 → w_X9_areThere v3 v4 x1 st (fun r45 st45 => (r45 = 0 → w_X9_deepest_b72 x1 c18 c31 K v2 v3 v4 st45) ∧ (¬ r45 = 0 → w_X9_hateOf v3 v4 st45 (fun r55 st55 => (r55 ≤ v2 → w_X9_deepest_b72 x1 c18 c31 K v2 v3 v4 st55) ∧ (¬ r55 ≤ v2 → w_X9_hateOf v3 v4 st55 (fun r66 st66 => w_X9_deepest_b73 x1 c18 c31 K v3 v4 r66 st66))))))
def w_X9_deepest_L31 (x1 : Int32) (c18 : Int32 → Int32 → St → Prop) (K : Int32 → St → Prop) : Nat → Int32 → Int32 → Int32 → St → Prop
  | 0, _, _, _, _ => False
  | n + 1, v2, v3, v4, st => w_X9_deepest_L31q x1 c18 K (fun v2 v3 v4 st => w_X9_deepest_L31 x1 c18 K n v2 v3 v4 st) v2 v3 v4 st
def w_X9_deepest_L18q (x1 : Int32)  (K : Int32 → St → Prop) (c18 : Int32 → Int32 → St → Prop) (v2 : Int32) (v3 : Int32) (st : St) : Prop :=
  ((st 0 8) ≤ v3 → K v2 st) ∧ (¬ (st 0 8) ≤ v3 → ∃ n, w_X9_deepest_L31 x1 c18 K n v2 v3 (v3 + 1) st)
def w_X9_deepest_L18 (x1 : Int32)  (K : Int32 → St → Prop) : Nat → Int32 → Int32 → St → Prop
  | 0, _, _, _ => False
  | n + 1, v2, v3, st => w_X9_deepest_L18q x1  K (fun v2 v3 st => w_X9_deepest_L18 x1  K n v2 v3 st) v2 v3 st
def w_X9_deepest (x1 : Int32) (st : St) (K : Int32 → St → Prop) : Prop :=
  w_X9_isTown x1 st (fun r1 st1 => (¬ r1 = 0 → ∃ n, w_X9_deepest_L18 x1  K n (-9) 0 st1) ∧ (r1 = 0 → w_X9_no (-1) st1 (fun r9 st9 => K r9 st9)))
def w_X9_findTwos_b121 (x1 : Int32) (x2 : Int32) (c39 : Int32 → Int32 → Int32 → Int32 → St → Prop) (K : St → Prop) (v3 : Int32) (v4 : Int32) (v5 : Int32) (v6 : Int32) (st : St) : Prop :=
  c39 v3 v4 v5 (v6 + 1) st
def w_X9_findTwos_b119 (x1 : Int32) (x2 : Int32) (c39 : Int32 → Int32 → Int32 → Int32 → St → Prop) (K : St → Prop) (v3 : Int32) (v4 : Int32) (v6 : Int32) (s0 : Int32) (st : St) : Prop :=
  w_X9_findTwos_b121 x1 x2 c39 K v3 v4 s0 v6 st
def w_X9_findTwos_b127 (x1 : Int32) (x2 : Int32)  (K : St → Prop) (v5 : Int32) (st : St) : Prop :=
  vp_in x1 64 ∧ (K (u2 st 15 (x1).toNatClampNeg v5))
def w_X9_findTwos_L39q (x1 : Int32) (x2 : Int32)  (K : St → Prop) (c39 : Int32 → Int32 → Int32 → Int32 → St → Prop) (v3 : Int32) (v4 : Int32) (v5 : Int32) (v6 : Int32) (st : St) : Prop :=
  ((st 0 8) ≤ v6 → w_X9_findTwos_b127 x1 x2  K v5 st) ∧ (¬ (st 0 8) ≤ v6 → w_X9_has x1 v6 st (fun r51 st51 => (r51 = 0 → w_X9_findTwos_b121 x1 x2 c39 K v3 v4 v5 v6 st51) ∧ (¬ r51 = 0 → vp_in v3 6 ∧ (vp_in v6 6 ∧ ((¬ (st51 4 (v3).toNatClampNeg) = (st51 4 (v6).toNatClampNeg) → w_X9_findTwos_b121 x1 x2 c39 K v3 v4 v5 v6 st51) ∧ ((st51 4 (v3).toNatClampNeg) = (st51 4 (v6).toNatClampNeg) → w_X9_hateOf v3 v6 st51 (fun r77 st77 => (x2 ≤ r77 → vp_in (v4 &&& (((1 : Int32) <<< (v6 &&& 31)) ^^^ (-1))) 64 ∧ (((1 + (st77 15 ((v4 &&& (((1 : Int32) <<< (v6 &&& 31)) ^^^ (-1)))).toNatClampNeg)) ≤ v5 → w_X9_findTwos_b119 x1 x2 c39 K v3 v4 v6 v5 st77) ∧ (¬ (1 + (st77 15 ((v4 &&& (((1 : Int32) <<< (v6 &&& 31)) ^^^ (-1)))).toNatClampNeg)) ≤ v5 → w_X9_findTwos_b119 x1 x2 c39 K v3 v4 v6 (1 + (st77 15 ((v4 &&& (((1 : Int32) <<< (v6 &&& 31)) ^^^ (-1)))).toNatClampNeg)) st77))) ∧ (¬ x2 ≤ r77 → w_X9_findTwos_b121 x1 x2 c39 K v3 v4 v5 v6 st77))))))))
def w_X9_findTwos_L39 (x1 : Int32) (x2 : Int32)  (K : St → Prop) : Nat → Int32 → Int32 → Int32 → Int32 → St → Prop
  | 0, _, _, _, _, _ => False
  | n + 1, v3, v4, v5, v6, st => w_X9_findTwos_L39q x1 x2  K (fun v3 v4 v5 v6 st => w_X9_findTwos_L39 x1 x2  K n v3 v4 v5 v6 st) v3 v4 v5 v6 st
def w_X9_findTwos_b16 (x1 : Int32) (x2 : Int32)  (K : St → Prop) (v3 : Int32) (st : St) : Prop :=
  vp_in (x1 &&& (((1 : Int32) <<< (v3 &&& 31)) ^^^ (-1))) 64 ∧ (∃ n, w_X9_findTwos_L39 x1 x2  K n v3 (x1 &&& (((1 : Int32) <<< (v3 &&& 31)) ^^^ (-1))) (st 15 ((x1 &&& (((1 : Int32) <<< (v3 &&& 31)) ^^^ (-1)))).toNatClampNeg) (v3 + 1) st)
def w_X9_findTwos_L2q (x1 : Int32) (x2 : Int32)  (K : St → Prop) (c2 : Int32 → St → Prop) (v3 : Int32) (st : St) : Prop :=
  w_X9_has x1 v3 st (fun r4 st4 => (¬ r4 = 0 → w_X9_findTwos_b16 x1 x2  K v3 st4) ∧ (r4 = 0 → c2 (v3 + 1) st4))
def w_X9_findTwos_L2 (x1 : Int32) (x2 : Int32)  (K : St → Prop) : Nat → Int32 → St → Prop
  | 0, _, _ => False
  | n + 1, v3, st => w_X9_findTwos_L2q x1 x2  K (fun v3 st => w_X9_findTwos_L2 x1 x2  K n v3 st) v3 st
def w_X9_findTwos (x1 : Int32) (x2 : Int32) (st : St) (K : St → Prop) : Prop :=
  ∃ n, w_X9_findTwos_L2 x1 x2  K n 0 st
def w_X9_pairs_b49 (x1 : Int32)  (K : Int32 → St → Prop)  (st : St) : Prop :=
  vp_in (((1 : Int32) <<< ((st 0 8) &&& 31)) - 1) 64 ∧ (K (st 15 ((((1 : Int32) <<< ((st 0 8) &&& 31)) - 1)).toNatClampNeg) st)
def w_X9_pairs_L27q (x1 : Int32)  (K : Int32 → St → Prop) (c27 : Int32 → St → Prop) (v3 : Int32) (st : St) : Prop :=
  (((1 : Int32) <<< ((st 0 8) &&& 31)) ≤ v3 → w_X9_pairs_b49 x1  K st) ∧ (¬ ((1 : Int32) <<< ((st 0 8) &&& 31)) ≤ v3 → w_X9_findTwos v3 x1 st (fun st40 => c27 (v3 + 1) st40))
def w_X9_pairs_L27 (x1 : Int32)  (K : Int32 → St → Prop) : Nat → Int32 → St → Prop
  | 0, _, _ => False
  | n + 1, v3, st => w_X9_pairs_L27q x1  K (fun v3 st => w_X9_pairs_L27 x1  K n v3 st) v3 st
def w_X9_pairs (x1 : Int32) (st : St) (K : Int32 → St → Prop) : Prop :=
  w_X9_bound x1 0 99 st (fun r4 st4 => (r4 = 0 → vp_in 0 64 ∧ (∃ n, w_X9_pairs_L27 x1  K n 1 (u2 st4 15 (0 : Int32).toNatClampNeg 0))) ∧ (¬ r4 = 0 → w_X9_no r4 st4 (fun r14 st14 => K r14 st14)))
def w_X9_worst_b116 (x1 : Int32) (c28 : Int32 → Int32 → Int32 → Int32 → St → Prop) (K : Int32 → St → Prop) (v2 : Int32) (v3 : Int32) (v4 : Int32) (v5 : Int32) (st : St) : Prop :=
  c28 v2 v3 v4 (v5 + 1) st
def w_X9_worst_b86 (x1 : Int32) (c28 : Int32 → Int32 → Int32 → Int32 → St → Prop) (K : Int32 → St → Prop) (v2 : Int32) (v3 : Int32) (v5 : Int32) (v6 : Int32) (v7 : Int32) (s0 : Int32) (s1 : Int32) (st : St) : Prop :=
  w_X9_hateOf v6 v7 st (fun r94 st94 => (v3 < r94 → w_X9_hateOf v6 v7 st94 (fun r112 st112 => w_X9_worst_b116 x1 c28 K v5 r112 (s1 + s0) v5 st112)) ∧ (¬ v3 < r94 → w_X9_worst_b116 x1 c28 K v2 v3 (s1 + s0) v5 st94))
def w_X9_worst_b122 (x1 : Int32)  (K : Int32 → St → Prop) (v2 : Int32) (v3 : Int32) (v4 : Int32) (st : St) : Prop :=
  (¬ x1 = 0 → (¬ x1 = 1 → K v4 st) ∧ (x1 = 1 → K v3 st)) ∧ (x1 = 0 → K v2 st)
def w_X9_worst_L28q (x1 : Int32)  (K : Int32 → St → Prop) (c28 : Int32 → Int32 → Int32 → Int32 → St → Prop) (v2 : Int32) (v3 : Int32) (v4 : Int32) (v5 : Int32) (st : St) : Prop :=
  (60 ≤ v5 → w_X9_worst_b122 x1  K v2 v3 v4 st) ∧ (¬ 60 ≤ v5 → ((v5 - v5 / 10 * 10) ≤ (v5 / 10) → w_X9_worst_b116 x1 c28 K v2 v3 v4 v5 st) ∧ (¬ (v5 - v5 / 10 * 10) ≤ (v5 / 10) → ((v5 - v5 / 10 * 10) < (st 0 8) → w_X9_hateOf (v5 / 10) (v5 - v5 / 10 * 10) st (fun r75 st75 => (¬ r75 = 0 → w_X9_worst_b86 x1 c28 K v2 v3 v5 (v5 / 10) (v5 - v5 / 10 * 10) 0 v4 st75) ∧ (r75 = 0 → w_X9_worst_b86 x1 c28 K v2 v3 v5 (v5 / 10) (v5 - v5 / 10 * 10) 1 v4 st75))) ∧ (¬ (v5 - v5 / 10 * 10) < (st 0 8) → w_X9_worst_b116 x1 c28 K v2 v3 v4 v5 st)))
def w_X9_worst_L28 (x1 : Int32)  (K : Int32 → St → Prop) : Nat → Int32 → Int32 → Int32 → Int32 → St → Prop
  | 0, _, _, _, _, _ => False
  | n + 1, v2, v3, v4, v5, st => w_X9_worst_L28q x1  K (fun v2 v3 v4 v5 st => w_X9_worst_L28 x1  K n v2 v3 v4 v5 st) v2 v3 v4 v5 st
def w_X9_worst (x1 : Int32) (st : St) (K : Int32 → St → Prop) : Prop :=
  w_X9_isIn x1 0 2 st (fun r3 st3 => (¬ r3 = 0 → ∃ n, w_X9_worst_L28 x1  K n (-9) (-9) 0 0 st3) ∧ (r3 = 0 → w_X9_no (-2) st3 (fun r12 st12 => K r12 st12)))
def w_X9_opensSo_b41  (c8 : Int32 → Int32 → St → Prop) (K : Int32 → St → Prop) (v2 : Int32) (s0 : Int32) (st : St) : Prop :=
  w_X9_goesWeek  st (fun st43 => c8 s0 (v2 + 1) st43)
def w_X9_opensSo_b52   (K : Int32 → St → Prop) (v1 : Int32) (st : St) : Prop :=
  w_X9_forgets  st (fun st53 => (v1 = 0 ∨ v1 = 1) ∧ K v1 st53)
def w_X9_opensSo_L8q   (K : Int32 → St → Prop) (c8 : Int32 → Int32 → St → Prop) (v1 : Int32) (v2 : Int32) (st : St) : Prop :=
  ((st 0 29) ≤ v2 → w_X9_opensSo_b52   K v1 st) ∧ (¬ (st 0 29) ≤ v2 → (v1 = 0 → w_X9_opensSo_b52   K v1 st) ∧ (¬ v1 = 0 → w_X9_openOnes  st (fun r21 st21 => w_X9_bits r21 st21 (fun r24 st24 => vp_in v2 12 ∧ ((¬ r24 = (st24 16 (v2).toNatClampNeg) → w_X9_opensSo_b41  c8 K v2 0 st24) ∧ (r24 = (st24 16 (v2).toNatClampNeg) → w_X9_opensSo_b41  c8 K v2 1 st24))))))
def w_X9_opensSo_L8   (K : Int32 → St → Prop) : Nat → Int32 → Int32 → St → Prop
  | 0, _, _, _ => False
  | n + 1, v1, v2, st => w_X9_opensSo_L8q   K (fun v1 v2 st => w_X9_opensSo_L8   K n v1 v2 st) v1 v2 st
def w_X9_opensSo  (st : St) (K : Int32 → St → Prop) : Prop :=
  w_X9_thinks  st (fun st1 => ∃ n, w_X9_opensSo_L8   K n 1 0 st1)
def w_X9_whoHates_b110 (x1 : Int32) (x2 : Int32) (x3 : Int32) (c64 : Int32 → Int32 → Int32 → Int32 → Int32 → St → Prop) (K : Int32 → St → Prop) (v5 : Int32) (v6 : Int32) (v7 : Int32) (v8 : Int32) (v9 : Int32) (st : St) : Prop :=
  c64 v5 v6 v7 v8 (v9 + 1) st
def w_X9_whoHates_b104 (x1 : Int32) (x2 : Int32) (x3 : Int32) (c64 : Int32 → Int32 → Int32 → Int32 → Int32 → St → Prop) (K : Int32 → St → Prop) (v5 : Int32) (v6 : Int32) (v9 : Int32) (s0 : Int32) (st : St) : Prop :=
  w_X9_whoHates_b110 x1 x2 x3 c64 K v5 v6 s0 v9 v9 st
def w_X9_whoHates_b116 (x1 : Int32) (x2 : Int32) (x3 : Int32)  (K : Int32 → St → Prop) (v5 : Int32) (v6 : Int32) (v7 : Int32) (v8 : Int32) (st : St) : Prop :=
  w_X9_sets x1 x2 v5 st (fun st121 => (¬ x3 = 0 → (¬ x3 = 1 → K v8 st121) ∧ (x3 = 1 → K v7 st121)) ∧ (x3 = 0 → K v6 st121))
def w_X9_whoHates_L64q (x1 : Int32) (x2 : Int32) (x3 : Int32)  (K : Int32 → St → Prop) (c64 : Int32 → Int32 → Int32 → Int32 → Int32 → St → Prop) (v5 : Int32) (v6 : Int32) (v7 : Int32) (v8 : Int32) (v9 : Int32) (st : St) : Prop :=
  (99 < v9 → w_X9_whoHates_b116 x1 x2 x3  K v5 v6 v7 v8 st) ∧ (¬ 99 < v9 → w_X9_sets x1 x2 v9 st (fun st76 => w_X9_opensSo  st76 (fun r80 st80 => (¬ r80 = 0 → (0 ≤ v7 → w_X9_whoHates_b104 x1 x2 x3 c64 K v5 (v6 + 1) v9 v7 st80) ∧ (¬ 0 ≤ v7 → w_X9_whoHates_b104 x1 x2 x3 c64 K v5 (v6 + 1) v9 v9 st80)) ∧ (r80 = 0 → w_X9_whoHates_b110 x1 x2 x3 c64 K v5 v6 v7 v8 v9 st80))))
def w_X9_whoHates_L64 (x1 : Int32) (x2 : Int32) (x3 : Int32)  (K : Int32 → St → Prop) : Nat → Int32 → Int32 → Int32 → Int32 → Int32 → St → Prop
  | 0, _, _, _, _, _, _ => False
  | n + 1, v5, v6, v7, v8, v9, st => w_X9_whoHates_L64q x1 x2 x3  K (fun v5 v6 v7 v8 v9 st => w_X9_whoHates_L64 x1 x2 x3  K n v5 v6 v7 v8 v9 st) v5 v6 v7 v8 v9 st
def w_X9_whoHates_b28 (x1 : Int32) (x2 : Int32) (x3 : Int32)  (K : Int32 → St → Prop) (s0 : Int32) (st : St) : Prop :=
  (s0 = 0 → w_X9_hateOf x1 x2 st (fun r45 st45 => ∃ n, w_X9_whoHates_L64 x1 x2 x3  K n r45 0 (-9) (-9) 0 st45)) ∧ (¬ s0 = 0 → w_X9_no s0 st (fun r38 st38 => K r38 st38))
def w_X9_whoHates (x1 : Int32) (x2 : Int32) (x3 : Int32) (st : St) (K : Int32 → St → Prop) : Prop :=
  w_X9_areTwo x1 x2 st (fun r3 st3 => (¬ r3 = 0 → w_X9_isIn x3 0 2 st3 (fun r16 st16 => (¬ r16 = 0 → w_X9_whoHates_b28 x1 x2 x3  K 0 st16) ∧ (r16 = 0 → w_X9_whoHates_b28 x1 x2 x3  K (-2) st16))) ∧ (r3 = 0 → w_X9_whoHates_b28 x1 x2 x3  K (-1) st3))
def w_X9_hatesSo_b43 (x1 : Int32) (x2 : Int32) (c9 : Int32 → Int32 → St → Prop) (K : Int32 → St → Prop) (v4 : Int32) (s0 : Int32) (st : St) : Prop :=
  w_X9_goesWeek  st (fun st45 => c9 s0 (v4 + 1) st45)
def w_X9_hatesSo_b54 (x1 : Int32) (x2 : Int32)  (K : Int32 → St → Prop) (v3 : Int32) (st : St) : Prop :=
  w_X9_forgets  st (fun st55 => (v3 = 0 ∨ v3 = 1) ∧ K v3 st55)
def w_X9_hatesSo_L9q (x1 : Int32) (x2 : Int32)  (K : Int32 → St → Prop) (c9 : Int32 → Int32 → St → Prop) (v3 : Int32) (v4 : Int32) (st : St) : Prop :=
  ((st 0 29) ≤ v4 → w_X9_hatesSo_b54 x1 x2  K v3 st) ∧ (¬ (st 0 29) ≤ v4 → (v3 = 0 → w_X9_hatesSo_b54 x1 x2  K v3 st) ∧ (¬ v3 = 0 → w_X9_hateOf x1 x2 st (fun r25 st25 => vp_in v4 12 ∧ ((¬ r25 = (st25 16 (v4).toNatClampNeg) → w_X9_hatesSo_b43 x1 x2 c9 K v4 0 st25) ∧ (r25 = (st25 16 (v4).toNatClampNeg) → w_X9_hatesSo_b43 x1 x2 c9 K v4 1 st25)))))
def w_X9_hatesSo_L9 (x1 : Int32) (x2 : Int32)  (K : Int32 → St → Prop) : Nat → Int32 → Int32 → St → Prop
  | 0, _, _, _ => False
  | n + 1, v3, v4, st => w_X9_hatesSo_L9q x1 x2  K (fun v3 v4 st => w_X9_hatesSo_L9 x1 x2  K n v3 v4 st) v3 v4 st
def w_X9_hatesSo (x1 : Int32) (x2 : Int32) (st : St) (K : Int32 → St → Prop) : Prop :=
  w_X9_thinks  st (fun st1 => ∃ n, w_X9_hatesSo_L9 x1 x2  K n 1 0 st1)
def w_X9_bitsFor_b42 (k1 : Nat) (n1 : Nat) (x2 : Int32) (x3 : Int32) (x4 : Int32) (c11 : Int32 → Int32 → Int32 → St → Prop) (K : Int32 → St → Prop) (v5 : Int32) (v7 : Int32) (s0 : Int32) (s1 : Int32) (st : St) : Prop :=
  c11 v5 (s1 ||| s0) (v7 + 1) st
def w_X9_bitsFor_b51 (k1 : Nat) (n1 : Nat) (x2 : Int32) (x3 : Int32) (x4 : Int32)  (K : Int32 → St → Prop) (v5 : Int32) (v6 : Int32) (st : St) : Prop :=
  vp_in x2 n1 ∧ (K v6 (u2 st k1 (x2).toNatClampNeg v5))
def w_X9_bitsFor_L11q (k1 : Nat) (n1 : Nat) (x2 : Int32) (x3 : Int32) (x4 : Int32)  (K : Int32 → St → Prop) (c11 : Int32 → Int32 → Int32 → St → Prop) (v5 : Int32) (v6 : Int32) (v7 : Int32) (st : St) : Prop :=
  (x4 ≤ v7 → w_X9_bitsFor_b51 k1 n1 x2 x3 x4  K v5 v6 st) ∧ (¬ x4 ≤ v7 → vp_in x2 n1 ∧ (w_X9_hatesSo x2 x3 (u2 st k1 (x2).toNatClampNeg v7) (fun r28 st28 => (r28 = 0 → w_X9_bitsFor_b42 k1 n1 x2 x3 x4 c11 K v5 v7 0 v6 st28) ∧ (¬ r28 = 0 → w_X9_bitsFor_b42 k1 n1 x2 x3 x4 c11 K v5 v7 ((1 : Int32) <<< (v7 &&& 31)) v6 st28))))
def w_X9_bitsFor_L11 (k1 : Nat) (n1 : Nat) (x2 : Int32) (x3 : Int32) (x4 : Int32)  (K : Int32 → St → Prop) : Nat → Int32 → Int32 → Int32 → St → Prop
  | 0, _, _, _, _ => False
  | n + 1, v5, v6, v7, st => w_X9_bitsFor_L11q k1 n1 x2 x3 x4  K (fun v5 v6 v7 st => w_X9_bitsFor_L11 k1 n1 x2 x3 x4  K n v5 v6 v7 st) v5 v6 v7 st
def w_X9_bitsFor (k1 : Nat) (n1 : Nat) (x2 : Int32) (x3 : Int32) (x4 : Int32) (st : St) (K : Int32 → St → Prop) : Prop :=
  vp_in x2 n1 ∧ (∃ n, w_X9_bitsFor_L11 k1 n1 x2 x3 x4  K n (st k1 (x2).toNatClampNeg) 0 0 st)
def w_X9_whatKind_b28 (x1 : Int32) (x2 : Int32) (x3 : Int32)  (K : Int32 → St → Prop) (s0 : Int32) (st : St) : Prop :=
  (s0 = 0 → (¬ x3 = 0 → w_X9_bitsFor 3 6 x1 x2 10 st (fun r70 st70 => K r70 st70)) ∧ (x3 = 0 → w_X9_bitsFor 2 6 x1 x2 6 st (fun r55 st55 => K r55 st55))) ∧ (¬ s0 = 0 → w_X9_no s0 st (fun r38 st38 => K r38 st38))
def w_X9_whatKind (x1 : Int32) (x2 : Int32) (x3 : Int32) (st : St) (K : Int32 → St → Prop) : Prop :=
  w_X9_areTwo x1 x2 st (fun r3 st3 => (¬ r3 = 0 → w_X9_isIn x3 0 1 st3 (fun r16 st16 => (¬ r16 = 0 → w_X9_whatKind_b28 x1 x2 x3  K 0 st16) ∧ (r16 = 0 → w_X9_whatKind_b28 x1 x2 x3  K (-2) st16))) ∧ (r3 = 0 → w_X9_whatKind_b28 x1 x2 x3  K (-1) st3))
def w_X9_divisor_L6q (x0 : Int64) (x2 : Int64)  (K : Int64 → St → Prop) (c6 : Int64 → Int64 → St → Prop) (v4 : Int64) (v6 : Int64) (st : St) : Prop :=
  ((lg_cmp v6 0) = 0 → K v4 st) ∧ (¬ (lg_cmp v6 0) = 0 → ¬ v6 = 0 ∧ (c6 v6 (v4 - v4 / v6 * v6) st))
def w_X9_divisor_L6 (x0 : Int64) (x2 : Int64)  (K : Int64 → St → Prop) : Nat → Int64 → Int64 → St → Prop
  | 0, _, _, _ => False
  | n + 1, v4, v6, st => w_X9_divisor_L6q x0 x2  K (fun v4 v6 st => w_X9_divisor_L6 x0 x2  K n v4 v6 st) v4 v6 st
def w_X9_divisor (x0 : Int64) (x2 : Int64) (st : St) (K : Int64 → St → Prop) : Prop :=
  ∃ n, w_X9_divisor_L6 x0 x2  K n x0 x2 st
def w_X9_partOf_b10 (x0 : Int64) (x2 : Int64) (x4 : Int32)  (K : Int64 → St → Prop) (s0 : Int64) (st : St) : Prop :=
  w_X9_divisor x0 x2 st (fun r12 st12 => ¬ r12 = 0 ∧ (K (s0 / r12) st12))
def w_X9_partOf (x0 : Int64) (x2 : Int64) (x4 : Int32) (st : St) (K : Int64 → St → Prop) : Prop :=
  (¬ x4 = 0 → w_X9_partOf_b10 x0 x2 x4  K x2 st) ∧ (x4 = 0 → w_X9_partOf_b10 x0 x2 x4  K x0 st)
def w_X9_partsOf_b29 (x0 : Int32) (x1 : Int32) (x2 : Int32) (c5 : Int64 → Int32 → St → Prop) (K : Int64 → St → Prop) (v5 : Int32) (s0 : Int64) (s1 : Int64) (st : St) : Prop :=
  c5 (s1 * s0) (v5 + 1) st
def w_X9_partsOf_L5q (x0 : Int32) (x1 : Int32) (x2 : Int32)  (K : Int64 → St → Prop) (c5 : Int64 → Int32 → St → Prop) (v3 : Int64) (v5 : Int32) (st : St) : Prop :=
  (x1 ≤ v5 → K v3 st) ∧ (¬ x1 ≤ v5 → w_X9_has x0 v5 st (fun r15 st15 => (r15 = 0 → w_X9_partsOf_b29 x0 x1 x2 c5 K v5 (((x2 - 1)).toInt64) v3 st15) ∧ (¬ r15 = 0 → w_X9_partsOf_b29 x0 x1 x2 c5 K v5 1 v3 st15)))
def w_X9_partsOf_L5 (x0 : Int32) (x1 : Int32) (x2 : Int32)  (K : Int64 → St → Prop) : Nat → Int64 → Int32 → St → Prop
  | 0, _, _, _ => False
  | n + 1, v3, v5, st => w_X9_partsOf_L5q x0 x1 x2  K (fun v3 v5 st => w_X9_partsOf_L5 x0 x1 x2  K n v3 v5 st) v3 v5 st
def w_X9_partsOf (x0 : Int32) (x1 : Int32) (x2 : Int32) (st : St) (K : Int64 → St → Prop) : Prop :=
  ∃ n, w_X9_partsOf_L5 x0 x1 x2  K n 1 0 st
def w_X9_power_L5q (x0 : Int32) (x1 : Int32)  (K : Int64 → St → Prop) (c5 : Int64 → Int32 → St → Prop) (v2 : Int64) (v4 : Int32) (st : St) : Prop :=
  (x1 ≤ v4 → K v2 st) ∧ (¬ x1 ≤ v4 → c5 (v2 * ((x0).toInt64)) (v4 + 1) st)
def w_X9_power_L5 (x0 : Int32) (x1 : Int32)  (K : Int64 → St → Prop) : Nat → Int64 → Int32 → St → Prop
  | 0, _, _, _ => False
  | n + 1, v2, v4, st => w_X9_power_L5q x0 x1  K (fun v2 v4 st => w_X9_power_L5 x0 x1  K n v2 v4 st) v2 v4 st
def w_X9_power (x0 : Int32) (x1 : Int32) (st : St) (K : Int64 → St → Prop) : Prop :=
  ∃ n, w_X9_power_L5 x0 x1  K n 1 0 st
def w_X9_jug_b107 (x1 : Int32) (x2 : Int32) (x3 : Int32) (x4 : Int32) (c77 : Int64 → Int32 → St → Prop) (K : Int64 → St → Prop) (v8 : Int32) (s0 : Int64) (s1 : Int64) (st : St) : Prop :=
  c77 (s1 + s0) (v8 + 1) st
def w_X9_jug_b116 (x1 : Int32) (x2 : Int32) (x3 : Int32) (x4 : Int32)  (K : Int64 → St → Prop) (v6 : Int64) (st : St) : Prop :=
  w_X9_power x3 x1 st (fun r120 st120 => w_X9_partOf v6 r120 x4 st120 (fun r125 st125 => K r125 st125))
def w_X9_jug_L77q (x1 : Int32) (x2 : Int32) (x3 : Int32) (x4 : Int32)  (K : Int64 → St → Prop) (c77 : Int64 → Int32 → St → Prop) (v6 : Int64) (v8 : Int32) (st : St) : Prop :=
  (((1 : Int32) <<< (x1 &&& 31)) ≤ v8 → w_X9_jug_b116 x1 x2 x3 x4  K v6 st) ∧ (¬ ((1 : Int32) <<< (x1 &&& 31)) ≤ v8 → w_X9_bits v8 st (fun r89 st89 => (r89 < x2 → w_X9_jug_b107 x1 x2 x3 x4 c77 K v8 0 v6 st89) ∧ (¬ r89 < x2 → w_X9_partsOf v8 x1 x3 st89 (fun r100 st100 => w_X9_jug_b107 x1 x2 x3 x4 c77 K v8 r100 v6 st100))))
def w_X9_jug_L77 (x1 : Int32) (x2 : Int32) (x3 : Int32) (x4 : Int32)  (K : Int64 → St → Prop) : Nat → Int64 → Int32 → St → Prop
  | 0, _, _, _ => False
  | n + 1, v6, v8, st => w_X9_jug_L77q x1 x2 x3 x4  K (fun v6 v8 st => w_X9_jug_L77 x1 x2 x3 x4  K n v6 v8 st) v6 v8 st
def w_X9_jug_b57 (x1 : Int32) (x2 : Int32) (x3 : Int32) (x4 : Int32)  (K : Int64 → St → Prop) (s0 : Int32) (st : St) : Prop :=
  (s0 = 0 → ∃ n, w_X9_jug_L77 x1 x2 x3 x4  K n 0 0 st) ∧ (¬ s0 = 0 → w_X9_lowestOf s0 st (fun r67 st67 => K r67 st67))
def w_X9_jug_b13 (x1 : Int32) (x2 : Int32) (x3 : Int32) (x4 : Int32)  (K : Int64 → St → Prop)  (st : St) : Prop :=
  w_X9_jug_b57 x1 x2 x3 x4  K (-4) st
def w_X9_jug_b36 (x1 : Int32) (x2 : Int32) (x3 : Int32) (x4 : Int32)  (K : Int64 → St → Prop)  (st : St) : Prop :=
  w_X9_jug_b57 x1 x2 x3 x4  K (-6) st
def w_X9_jug (x1 : Int32) (x2 : Int32) (x3 : Int32) (x4 : Int32) (st : St) (K : Int64 → St → Prop) : Prop :=
  (x1 < 0 → w_X9_jug_b13 x1 x2 x3 x4  K st) ∧ (¬ x1 < 0 → (x2 < 0 → w_X9_jug_b13 x1 x2 x3 x4  K st) ∧ (¬ x2 < 0 → (2 ≤ x3 → (8 < x1 → w_X9_jug_b36 x1 x2 x3 x4  K st) ∧ (¬ 8 < x1 → (8 < x2 → w_X9_jug_b36 x1 x2 x3 x4  K st) ∧ (¬ 8 < x2 → (x3 ≤ 20 → w_X9_isIn x4 0 1 st (fun r45 st45 => (¬ r45 = 0 → w_X9_jug_b57 x1 x2 x3 x4  K 0 st45) ∧ (r45 = 0 → w_X9_jug_b57 x1 x2 x3 x4  K (-2) st45))) ∧ (¬ x3 ≤ 20 → w_X9_jug_b36 x1 x2 x3 x4  K st)))) ∧ (¬ 2 ≤ x3 → w_X9_jug_b13 x1 x2 x3 x4  K st)))
def w_X9_getsOf_b66 (x1 : Int32) (x2 : Int32) (x3 : Int32) (x4 : Int32)  (K : Int32 → St → Prop) (v5 : Int32) (s0 : Int32) (s1 : Int32) (st : St) : Prop :=
  w_X9_sets x1 x2 v5 st (fun st74 => K (s1 - s0) st74)
def w_X9_getsOf_b65 (x1 : Int32) (x2 : Int32) (x3 : Int32) (x4 : Int32)  (K : Int32 → St → Prop) (v5 : Int32) (s0 : Int32) (st : St) : Prop :=
  w_X9_getsOf_b66 x1 x2 x3 x4  K v5 0 s0 st
def w_X9_getsOf_b31 (x1 : Int32) (x2 : Int32) (x3 : Int32) (x4 : Int32)  (K : Int32 → St → Prop) (v5 : Int32) (s0 : Int32) (s1 : Int32) (s2 : Int32) (st : St) : Prop :=
  w_X9_sets s2 s1 s0 st (fun st31 => w_X9_payOf x1 st31 (fun r37 st37 => w_X9_hateIn x1 x2 4 st37 (fun r45 st45 => (¬ x3 = 1 → w_X9_getsOf_b65 x1 x2 x3 x4  K v5 ((4 * r37) - (r45 / 2)) st45) ∧ (x3 = 1 → (¬ x4 = 0 → w_X9_getsOf_b65 x1 x2 x3 x4  K v5 ((4 * r37) - (r45 / 2)) st45) ∧ (x4 = 0 → w_X9_getsOf_b66 x1 x2 x3 x4  K v5 3 ((4 * r37) - (r45 / 2)) st45)))))
def w_X9_getsOf_b29 (x1 : Int32) (x2 : Int32) (x3 : Int32) (x4 : Int32)  (K : Int32 → St → Prop) (v5 : Int32) (s0 : Int32) (s1 : Int32) (st : St) : Prop :=
  w_X9_getsOf_b31 x1 x2 x3 x4  K v5 v5 s0 s1 st
def w_X9_getsOf (x1 : Int32) (x2 : Int32) (x3 : Int32) (x4 : Int32) (st : St) (K : Int32 → St → Prop) : Prop :=
  w_X9_hateOf x1 x2 st (fun r3 st3 => (¬ x3 = 1 → w_X9_getsOf_b29 x1 x2 x3 x4  K r3 x2 x1 st3) ∧ (x3 = 1 → (¬ x4 = 1 → w_X9_getsOf_b29 x1 x2 x3 x4  K r3 x2 x1 st3) ∧ (x4 = 1 → w_X9_getsOf_b31 x1 x2 x3 x4  K r3 (r3 / 2) x2 x1 st3)))
def w_X9_two_b82 (x1 : Int32) (x2 : Int32)  (K : Int32 → St → Prop) (v4 : Int32) (v5 : Int32) (st : St) : Prop :=
  K ((10 * v4) + v5) st
def w_X9_two_b91 (x1 : Int32) (x2 : Int32) (c17 : Int32 → St → Prop) (K : Int32 → St → Prop) (v3 : Int32) (st : St) : Prop :=
  c17 (v3 + 1) st
def w_X9_two_L17q (x1 : Int32) (x2 : Int32)  (K : Int32 → St → Prop) (c17 : Int32 → St → Prop) (v3 : Int32) (st : St) : Prop :=
  (4 ≤ v3 → K (-9) st) ∧ (¬ 4 ≤ v3 → w_X9_getsOf x1 x2 (1 - (v3 / 2)) (v3 - v3 / 2 * 2) st (fun r41 st41 => w_X9_getsOf x1 x2 (v3 / 2) (v3 - v3 / 2 * 2) st41 (fun r51 st51 => (r51 < r41 → w_X9_two_b91 x1 x2 c17 K v3 st51) ∧ (¬ r51 < r41 → w_X9_getsOf x2 x1 (1 - (v3 - v3 / 2 * 2)) (v3 / 2) st51 (fun r66 st66 => w_X9_getsOf x2 x1 (v3 - v3 / 2 * 2) (v3 / 2) st66 (fun r76 st76 => (r76 < r66 → w_X9_two_b91 x1 x2 c17 K v3 st76) ∧ (¬ r76 < r66 → w_X9_two_b82 x1 x2  K (v3 / 2) (v3 - v3 / 2 * 2) st76)))))))
def w_X9_two_L17 (x1 : Int32) (x2 : Int32)  (K : Int32 → St → Prop) : Nat → Int32 → St → Prop
  | 0, _, _ => False
  | n + 1, v3, st => w_X9_two_L17q x1 x2  K (fun v3 st => w_X9_two_L17 x1 x2  K n v3 st) v3 st
def w_X9_two (x1 : Int32) (x2 : Int32) (st : St) (K : Int32 → St → Prop) : Prop :=
  w_X9_areTwo x1 x2 st (fun r3 st3 => (¬ r3 = 0 → ∃ n, w_X9_two_L17 x1 x2  K n 0 st3) ∧ (r3 = 0 → w_X9_no (-1) st3 (fun r11 st11 => K r11 st11)))
def w_X9_isOpenMeeting_b45 (x1 : Int32) (x2 : Int32) (x3 : Int32) (x4 : Int32) (x5 : Int32) (c7 : Int32 → St → Prop) (K : Int32 → St → Prop) (v6 : Int32) (st : St) : Prop :=
  w_X9_goesWeek  st (fun st46 => c7 (v6 + 1) st46)
def w_X9_isOpenMeeting_b70 (x1 : Int32) (x2 : Int32) (x3 : Int32) (x4 : Int32) (x5 : Int32)  (K : Int32 → St → Prop) (s0 : Int32) (st : St) : Prop :=
  w_X9_forgets  st (fun st73 => (s0 = 0 ∨ s0 = 1) ∧ K s0 st73)
def w_X9_isOpenMeeting_b55 (x1 : Int32) (x2 : Int32) (x3 : Int32) (x4 : Int32) (x5 : Int32)  (K : Int32 → St → Prop)  (st : St) : Prop :=
  vp_in x3 6 ∧ ((¬ (st 8 (x3).toNatClampNeg) = 1 → w_X9_isOpenMeeting_b70 x1 x2 x3 x4 x5  K 0 st) ∧ ((st 8 (x3).toNatClampNeg) = 1 → w_X9_isOpenMeeting_b70 x1 x2 x3 x4 x5  K 1 st))
def w_X9_isOpenMeeting_L7q (x1 : Int32) (x2 : Int32) (x3 : Int32) (x4 : Int32) (x5 : Int32)  (K : Int32 → St → Prop) (c7 : Int32 → St → Prop) (v6 : Int32) (st : St) : Prop :=
  (x4 ≤ v6 → w_X9_isOpenMeeting_b55 x1 x2 x3 x4 x5  K st) ∧ (¬ x4 ≤ v6 → w_X9_has x5 v6 st (fun r18 st18 => (r18 = 0 → w_X9_isOpenMeeting_b45 x1 x2 x3 x4 x5 c7 K v6 st18) ∧ (¬ r18 = 0 → w_X9_hateOf x1 x2 st18 (fun r30 st30 => w_X9_held (r30 - 10) 0 99 st30 (fun r39 st39 => w_X9_sets x1 x2 r39 st39 (fun st42 => w_X9_isOpenMeeting_b45 x1 x2 x3 x4 x5 c7 K v6 st42))))))
def w_X9_isOpenMeeting_L7 (x1 : Int32) (x2 : Int32) (x3 : Int32) (x4 : Int32) (x5 : Int32)  (K : Int32 → St → Prop) : Nat → Int32 → St → Prop
  | 0, _, _ => False
  | n + 1, v6, st => w_X9_isOpenMeeting_L7q x1 x2 x3 x4 x5  K (fun v6 st => w_X9_isOpenMeeting_L7 x1 x2 x3 x4 x5  K n v6 st) v6 st
def w_X9_isOpenMeeting (x1 : Int32) (x2 : Int32) (x3 : Int32) (x4 : Int32) (x5 : Int32) (st : St) (K : Int32 → St → Prop) : Prop :=
  w_X9_thinks  st (fun st1 => ∃ n, w_X9_isOpenMeeting_L7 x1 x2 x3 x4 x5  K n 0 st1)
def w_X9_meetings_b130 (x1 : Int32) (x2 : Int32) (x3 : Int32) (x4 : Int32) (x5 : Int32) (x6 : Int32) (c92 : Int64 → Int32 → St → Prop) (K : Int64 → St → Prop) (v10 : Int32) (s0 : Int64) (s1 : Int64) (st : St) : Prop :=
  c92 (s1 + s0) (v10 + 1) st
def w_X9_meetings_b139 (x1 : Int32) (x2 : Int32) (x3 : Int32) (x4 : Int32) (x5 : Int32) (x6 : Int32)  (K : Int64 → St → Prop) (v8 : Int64) (st : St) : Prop :=
  w_X9_power x5 x4 st (fun r145 st145 => w_X9_partOf v8 r145 x6 st145 (fun r150 st150 => K r150 st150))
def w_X9_meetings_L92q (x1 : Int32) (x2 : Int32) (x3 : Int32) (x4 : Int32) (x5 : Int32) (x6 : Int32)  (K : Int64 → St → Prop) (c92 : Int64 → Int32 → St → Prop) (v8 : Int64) (v10 : Int32) (st : St) : Prop :=
  (((1 : Int32) <<< (x4 &&& 31)) ≤ v10 → w_X9_meetings_b139 x1 x2 x3 x4 x5 x6  K v8 st) ∧ (¬ ((1 : Int32) <<< (x4 &&& 31)) ≤ v10 → w_X9_isOpenMeeting x1 x2 x3 x4 v10 st (fun r111 st111 => (r111 = 0 → w_X9_meetings_b130 x1 x2 x3 x4 x5 x6 c92 K v10 0 v8 st111) ∧ (¬ r111 = 0 → w_X9_partsOf v10 x4 x5 st111 (fun r123 st123 => w_X9_meetings_b130 x1 x2 x3 x4 x5 x6 c92 K v10 r123 v8 st123))))
def w_X9_meetings_L92 (x1 : Int32) (x2 : Int32) (x3 : Int32) (x4 : Int32) (x5 : Int32) (x6 : Int32)  (K : Int64 → St → Prop) : Nat → Int64 → Int32 → St → Prop
  | 0, _, _, _ => False
  | n + 1, v8, v10, st => w_X9_meetings_L92q x1 x2 x3 x4 x5 x6  K (fun v8 v10 st => w_X9_meetings_L92 x1 x2 x3 x4 x5 x6  K n v8 v10 st) v8 v10 st
def w_X9_meetings_b72 (x1 : Int32) (x2 : Int32) (x3 : Int32) (x4 : Int32) (x5 : Int32) (x6 : Int32)  (K : Int64 → St → Prop) (s0 : Int32) (st : St) : Prop :=
  (s0 = 0 → ∃ n, w_X9_meetings_L92 x1 x2 x3 x4 x5 x6  K n 0 0 st) ∧ (¬ s0 = 0 → w_X9_lowestOf s0 st (fun r82 st82 => K r82 st82))
def w_X9_meetings_b17 (x1 : Int32) (x2 : Int32) (x3 : Int32) (x4 : Int32) (x5 : Int32) (x6 : Int32)  (K : Int64 → St → Prop)  (st : St) : Prop :=
  w_X9_meetings_b72 x1 x2 x3 x4 x5 x6  K (-1) st
def w_X9_meetings_b32 (x1 : Int32) (x2 : Int32) (x3 : Int32) (x4 : Int32) (x5 : Int32) (x6 : Int32)  (K : Int64 → St → Prop)  (st : St) : Prop :=
  w_X9_meetings_b72 x1 x2 x3 x4 x5 x6  K (-4) st
def w_X9_meetings_b51 (x1 : Int32) (x2 : Int32) (x3 : Int32) (x4 : Int32) (x5 : Int32) (x6 : Int32)  (K : Int64 → St → Prop)  (st : St) : Prop :=
  w_X9_meetings_b72 x1 x2 x3 x4 x5 x6  K (-6) st
def w_X9_meetings (x1 : Int32) (x2 : Int32) (x3 : Int32) (x4 : Int32) (x5 : Int32) (x6 : Int32) (st : St) (K : Int64 → St → Prop) : Prop :=
  w_X9_areTwo x1 x2 st (fun r3 st3 => (r3 = 0 → w_X9_meetings_b17 x1 x2 x3 x4 x5 x6  K st3) ∧ (¬ r3 = 0 → w_X9_isLetter x3 st3 (fun r11 st11 => (¬ r11 = 0 → (x4 < 0 → w_X9_meetings_b32 x1 x2 x3 x4 x5 x6  K st11) ∧ (¬ x4 < 0 → (2 ≤ x5 → (7 < x4 → w_X9_meetings_b51 x1 x2 x3 x4 x5 x6  K st11) ∧ (¬ 7 < x4 → (x5 ≤ 20 → w_X9_isIn x6 0 1 st11 (fun r60 st60 => (¬ r60 = 0 → w_X9_meetings_b72 x1 x2 x3 x4 x5 x6  K 0 st60) ∧ (r60 = 0 → w_X9_meetings_b72 x1 x2 x3 x4 x5 x6  K (-2) st60))) ∧ (¬ x5 ≤ 20 → w_X9_meetings_b51 x1 x2 x3 x4 x5 x6  K st11))) ∧ (¬ 2 ≤ x5 → w_X9_meetings_b32 x1 x2 x3 x4 x5 x6  K st11))) ∧ (r11 = 0 → w_X9_meetings_b17 x1 x2 x3 x4 x5 x6  K st11))))
def w_X9_fullest_b49 (x1 : Int32) (c20 : Int32 → Int32 → St → Prop) (K : Int32 → St → Prop) (v3 : Int32) (s0 : Int32) (st : St) : Prop :=
  c20 s0 (v3 + 1) st
def w_X9_fullest_b56 (x1 : Int32)  (K : Int32 → St → Prop) (v2 : Int32) (st : St) : Prop :=
  (¬ x1 = 0 → w_X9_keepersIn v2 st (fun r66 st66 => w_X9_bits r66 st66 (fun r69 st69 => K r69 st69))) ∧ (x1 = 0 → K v2 st)
def w_X9_fullest_L20q (x1 : Int32)  (K : Int32 → St → Prop) (c20 : Int32 → Int32 → St → Prop) (v2 : Int32) (v3 : Int32) (st : St) : Prop :=
  (4 ≤ v3 → w_X9_fullest_b56 x1  K v2 st) ∧ (¬ 4 ≤ v3 → w_X9_keepersIn v3 st (fun r27 st27 => w_X9_bits r27 st27 (fun r30 st30 => w_X9_keepersIn v2 st30 (fun r35 st35 => w_X9_bits r35 st35 (fun r38 st38 => (r30 ≤ r38 → w_X9_fullest_b49 x1 c20 K v3 v2 st38) ∧ (¬ r30 ≤ r38 → w_X9_fullest_b49 x1 c20 K v3 v3 st38))))))
def w_X9_fullest_L20 (x1 : Int32)  (K : Int32 → St → Prop) : Nat → Int32 → Int32 → St → Prop
  | 0, _, _, _ => False
  | n + 1, v2, v3, st => w_X9_fullest_L20q x1  K (fun v2 v3 st => w_X9_fullest_L20 x1  K n v2 v3 st) v2 v3 st
def w_X9_fullest (x1 : Int32) (st : St) (K : Int32 → St → Prop) : Prop :=
  w_X9_isIn x1 0 1 st (fun r3 st3 => (¬ r3 = 0 → ∃ n, w_X9_fullest_L20 x1  K n 0 1 st3) ∧ (r3 = 0 → w_X9_no (-2) st3 (fun r12 st12 => K r12 st12)))
def w_X9_thickest_b43  (c5 : Int32 → Int32 → St → Prop) (K : Int32 → St → Prop) (v1 : Int32) (v2 : Int32) (st : St) : Prop :=
  c5 v1 (v2 + 1) st
def w_X9_thickest_b41  (c5 : Int32 → Int32 → St → Prop) (K : Int32 → St → Prop) (v2 : Int32) (st : St) : Prop :=
  w_X9_thickest_b43  c5 K v2 v2 st
def w_X9_thickest_L5q   (K : Int32 → St → Prop) (c5 : Int32 → Int32 → St → Prop) (v1 : Int32) (v2 : Int32) (st : St) : Prop :=
  ((st 0 9) ≤ v2 → K v1 st) ∧ (¬ (st 0 9) ≤ v2 → vp_in v2 6 ∧ ((¬ (st 8 (v2).toNatClampNeg) = 0 → w_X9_thickest_b43  c5 K v1 v2 st) ∧ ((st 8 (v2).toNatClampNeg) = 0 → (v1 < 0 → w_X9_thickest_b41  c5 K v2 st) ∧ (¬ v1 < 0 → vp_in v2 6 ∧ (vp_in v1 6 ∧ (((st 6 (v2).toNatClampNeg) ≤ (st 6 (v1).toNatClampNeg) → w_X9_thickest_b43  c5 K v1 v2 st) ∧ (¬ (st 6 (v2).toNatClampNeg) ≤ (st 6 (v1).toNatClampNeg) → w_X9_thickest_b41  c5 K v2 st)))))))
def w_X9_thickest_L5   (K : Int32 → St → Prop) : Nat → Int32 → Int32 → St → Prop
  | 0, _, _, _ => False
  | n + 1, v1, v2, st => w_X9_thickest_L5q   K (fun v1 v2 st => w_X9_thickest_L5   K n v1 v2 st) v1 v2 st
def w_X9_thickest  (st : St) (K : Int32 → St → Prop) : Prop :=
  ∃ n, w_X9_thickest_L5   K n (-9) 0 st
def w_X9_hatesOf_b28 (x1 : Int32) (c4 : Int32 → Int32 → St → Prop) (K : Int32 → St → Prop) (v3 : Int32) (s0 : Int32) (s1 : Int32) (st : St) : Prop :=
  c4 (s1 + s0) (v3 + 1) st
def w_X9_hatesOf_L4q (x1 : Int32)  (K : Int32 → St → Prop) (c4 : Int32 → Int32 → St → Prop) (v2 : Int32) (v3 : Int32) (st : St) : Prop :=
  ((st 0 8) ≤ v3 → K v2 st) ∧ (¬ (st 0 8) ≤ v3 → (¬ v3 = x1 → w_X9_hateOf x1 v3 st (fun r25 st25 => w_X9_hatesOf_b28 x1 c4 K v3 r25 v2 st25)) ∧ (v3 = x1 → w_X9_hatesOf_b28 x1 c4 K v3 0 v2 st))
def w_X9_hatesOf_L4 (x1 : Int32)  (K : Int32 → St → Prop) : Nat → Int32 → Int32 → St → Prop
  | 0, _, _, _ => False
  | n + 1, v2, v3, st => w_X9_hatesOf_L4q x1  K (fun v2 v3 st => w_X9_hatesOf_L4 x1  K n v2 v3 st) v2 v3 st
def w_X9_hatesOf (x1 : Int32) (st : St) (K : Int32 → St → Prop) : Prop :=
  ∃ n, w_X9_hatesOf_L4 x1  K n 0 0 st
def w_X9_mildest_b35  (c5 : Int32 → Int32 → St → Prop) (K : Int32 → St → Prop) (v2 : Int32) (s0 : Int32) (st : St) : Prop :=
  c5 s0 (v2 + 1) st
def w_X9_mildest_b30  (c5 : Int32 → Int32 → St → Prop) (K : Int32 → St → Prop) (v2 : Int32) (st : St) : Prop :=
  w_X9_mildest_b35  c5 K v2 v2 st
def w_X9_mildest_L5q   (K : Int32 → St → Prop) (c5 : Int32 → Int32 → St → Prop) (v1 : Int32) (v2 : Int32) (st : St) : Prop :=
  ((st 0 8) ≤ v2 → K v1 st) ∧ (¬ (st 0 8) ≤ v2 → (v1 < 0 → w_X9_mildest_b30  c5 K v2 st) ∧ (¬ v1 < 0 → w_X9_hatesOf v2 st (fun r19 st19 => w_X9_hatesOf v1 st19 (fun r24 st24 => (r24 ≤ r19 → w_X9_mildest_b35  c5 K v2 v1 st24) ∧ (¬ r24 ≤ r19 → w_X9_mildest_b30  c5 K v2 st24)))))
def w_X9_mildest_L5   (K : Int32 → St → Prop) : Nat → Int32 → Int32 → St → Prop
  | 0, _, _, _ => False
  | n + 1, v1, v2, st => w_X9_mildest_L5q   K (fun v1 v2 st => w_X9_mildest_L5   K n v1 v2 st) v1 v2 st
def w_X9_mildest  (st : St) (K : Int32 → St → Prop) : Prop :=
  ∃ n, w_X9_mildest_L5   K n (-9) 0 st
def w_X9_bare_b51  (c4 : Int32 → Int32 → St → Prop) (K : Int32 → St → Prop) (v2 : Int32) (s0 : Int32) (s1 : Int32) (st : St) : Prop :=
  c4 (s1 ||| s0) (v2 + 1) st
def w_X9_bare_b50  (c4 : Int32 → Int32 → St → Prop) (K : Int32 → St → Prop) (v2 : Int32) (s0 : Int32) (st : St) : Prop :=
  w_X9_bare_b51  c4 K v2 0 s0 st
def w_X9_bare_L4q   (K : Int32 → St → Prop) (c4 : Int32 → Int32 → St → Prop) (v1 : Int32) (v2 : Int32) (st : St) : Prop :=
  ((st 0 9) ≤ v2 → K v1 st) ∧ (¬ (st 0 9) ≤ v2 → vp_in v2 6 ∧ ((¬ (st 8 (v2).toNatClampNeg) = 0 → w_X9_bare_b50  c4 K v2 v1 st) ∧ ((st 8 (v2).toNatClampNeg) = 0 → vp_in v2 6 ∧ (w_X9_keepersIn (st 7 (v2).toNatClampNeg) st (fun r29 st29 => w_X9_bits r29 st29 (fun r32 st32 => (2 ≤ r32 → w_X9_bare_b50  c4 K v2 v1 st32) ∧ (¬ 2 ≤ r32 → vp_in v2 6 ∧ (w_X9_bare_b51  c4 K v2 ((1 : Int32) <<< ((st32 7 (v2).toNatClampNeg) &&& 31)) v1 st32))))))))
def w_X9_bare_L4   (K : Int32 → St → Prop) : Nat → Int32 → Int32 → St → Prop
  | 0, _, _, _ => False
  | n + 1, v1, v2, st => w_X9_bare_L4q   K (fun v1 v2 st => w_X9_bare_L4   K n v1 v2 st) v1 v2 st
def w_X9_bare  (st : St) (K : Int32 → St → Prop) : Prop :=
  ∃ n, w_X9_bare_L4   K n 0 0 st
def w_X9_mean (x1 : Int32) (st : St) (K : Int64 → St → Prop) : Prop :=
  w_X9_isIn x1 0 1 st (fun r3 st3 => (¬ r3 = 0 → (2 ≤ (st3 0 8) → w_X9_allHate  st3 (fun r30 st30 => w_X9_partOf ((r30).toInt64) (((((st30 0 8) * ((st30 0 8) - 1)) / 2)).toInt64) x1 st30 (fun r49 st49 => K r49 st49))) ∧ (¬ 2 ≤ (st3 0 8) → K ((x1).toInt64) st3)) ∧ (r3 = 0 → w_X9_lowestOf (-2) st3 (fun r12 st12 => K r12 st12)))
def w_X9_used_b17 (x1 : Int32) (x2 : Int32) (x3 : Int32)  (K : Int32 → St → Prop) (s0 : Int32) (st : St) : Prop :=
  (s0 = 0 → w_X9_hateOf x1 x2 st (fun r36 st36 => w_X9_hateIn x1 x2 x3 st36 (fun r43 st43 => K (r36 - r43) st43))) ∧ (¬ s0 = 0 → w_X9_lower s0 st (fun r27 st27 => K r27 st27))
def w_X9_used (x1 : Int32) (x2 : Int32) (x3 : Int32) (st : St) (K : Int32 → St → Prop) : Prop :=
  w_X9_areTwo x1 x2 st (fun r3 st3 => (¬ r3 = 0 → w_X9_notWeeks x3 st3 (fun r14 st14 => w_X9_used_b17 x1 x2 x3  K r14 st14)) ∧ (r3 = 0 → w_X9_used_b17 x1 x2 x3  K (-1) st3))
def w_X9_manySwapped (x1 : Int32) (x2 : Int32) (x3 : Int32) (st : St) (K : Int32 → St → Prop) : Prop :=
  vp_in x1 6 ∧ (vp_in x2 6 ∧ (vp_in x1 6 ∧ (vp_in x2 6 ∧ (w_X9_openIn x3 (u2 (u2 st 4 (x1).toNatClampNeg (st 4 (x2).toNatClampNeg)) 4 (x2).toNatClampNeg (st 4 (x1).toNatClampNeg)) (fun r30 st30 => w_X9_bits r30 st30 (fun r33 st33 => vp_in x1 6 ∧ (vp_in x2 6 ∧ (vp_in x1 6 ∧ (K r33 (u2 (u2 st33 4 (x2).toNatClampNeg (st33 4 (x1).toNatClampNeg)) 4 (x1).toNatClampNeg (st 4 (x1).toNatClampNeg)))))))))))
def w_X9_swap_b111 (x1 : Int32) (c31 : Int32 → Int32 → Int32 → St → Prop) (c46 : Int32 → Int32 → Int32 → Int32 → St → Prop) (K : Int32 → St → Prop) (v3 : Int32) (v4 : Int32) (v5 : Int32) (v6 : Int32) (st : St) : Prop :=
  c46 v3 v4 v5 (v6 + 1) st
def w_X9_swap_b86 (x1 : Int32) (c31 : Int32 → Int32 → Int32 → St → Prop) (c46 : Int32 → Int32 → Int32 → Int32 → St → Prop) (K : Int32 → St → Prop) (v3 : Int32) (v4 : Int32) (v5 : Int32) (v6 : Int32) (s0 : Int32) (st : St) : Prop :=
  (v4 < s0 → w_X9_swap_b111 x1 c31 c46 K ((10 * v5) + v6) s0 v5 v6 st) ∧ (¬ v4 < s0 → w_X9_swap_b111 x1 c31 c46 K v3 v4 v5 v6 st)
def w_X9_swap_b117 (x1 : Int32) (c31 : Int32 → Int32 → Int32 → St → Prop) (K : Int32 → St → Prop) (v3 : Int32) (v4 : Int32) (v5 : Int32) (st : St) : Prop :=
  c31 v3 v4 (v5 + 1) st
def w_X9_swap_L46q (x1 : Int32) (c31 : Int32 → Int32 → Int32 → St → Prop) (K : Int32 → St → Prop) (c46 : Int32 → Int32 → Int32 → Int32 → St → Prop) (v3 : Int32) (v4 : Int32) (v5 : Int32) (v6 : Int32) (st : St) : Prop :=
  ((st 0 8) ≤ v6 → w_X9_swap_b117 x1 c31 K v3 v4 v5 st) ∧ (¬ (st 0 8) ≤ v6 → vp_in v5 6 ∧ (vp_in v6 6 ∧ ((¬ (st 4 (v5).toNatClampNeg) = (st 4 (v6).toNatClampNeg) → w_X9_manySwapped v5 v6 x1 st (fun r83 st83 => w_X9_swap_b86 x1 c31 c46 K v3 v4 v5 v6 r83 st83)) ∧ ((st 4 (v5).toNatClampNeg) = (st 4 (v6).toNatClampNeg) → w_X9_swap_b86 x1 c31 c46 K v3 v4 v5 v6 (-9) st))))
def w_X9_swap_L46 (x1 : Int32) (c31 : Int32 → Int32 → Int32 → St → Prop) (K : Int32 → St → Prop) : Nat → Int32 → Int32 → Int32 → Int32 → St → Prop
  | 0, _, _, _, _, _ => False
  | n + 1, v3, v4, v5, v6, st => w_X9_swap_L46q x1 c31 K (fun v3 v4 v5 v6 st => w_X9_swap_L46 x1 c31 K n v3 v4 v5 v6 st) v3 v4 v5 v6 st
def w_X9_swap_L31q (x1 : Int32)  (K : Int32 → St → Prop) (c31 : Int32 → Int32 → Int32 → St → Prop) (v3 : Int32) (v4 : Int32) (v5 : Int32) (st : St) : Prop :=
  ((st 0 8) ≤ v5 → K v3 st) ∧ (¬ (st 0 8) ≤ v5 → ∃ n, w_X9_swap_L46 x1 c31 K n v3 v4 v5 (v5 + 1) st)
def w_X9_swap_L31 (x1 : Int32)  (K : Int32 → St → Prop) : Nat → Int32 → Int32 → Int32 → St → Prop
  | 0, _, _, _, _ => False
  | n + 1, v3, v4, v5, st => w_X9_swap_L31q x1  K (fun v3 v4 v5 st => w_X9_swap_L31 x1  K n v3 v4 v5 st) v3 v4 v5 st
def w_X9_swap (x1 : Int32) (st : St) (K : Int32 → St → Prop) : Prop :=
  w_X9_notWeeks x1 st (fun r1 st1 => (r1 = 0 → w_X9_openIn x1 st1 (fun r20 st20 => w_X9_bits r20 st20 (fun r23 st23 => ∃ n, w_X9_swap_L31 x1  K n (-9) r23 0 st23))) ∧ (¬ r1 = 0 → w_X9_no r1 st1 (fun r11 st11 => K r11 st11)))
def w_X9_apart_b47 (x1 : Int32) (c24 : Int32 → Int32 → St → Prop) (K : Int32 → St → Prop) (v4 : Int32) (s0 : Int32) (s1 : Int32) (st : St) : Prop :=
  c24 (s1 + s0) (v4 + 1) st
def w_X9_apart_b55 (x1 : Int32)  (K : Int32 → St → Prop) (v3 : Int32) (st : St) : Prop :=
  w_X9_forgets  st (fun st56 => K v3 st56)
def w_X9_apart_L24q (x1 : Int32)  (K : Int32 → St → Prop) (c24 : Int32 → Int32 → St → Prop) (v3 : Int32) (v4 : Int32) (st : St) : Prop :=
  (x1 ≤ v4 → w_X9_apart_b55 x1  K v3 st) ∧ (¬ x1 ≤ v4 → w_X9_goesWeek  st (fun st31 => (¬ (st31 0 25) = 0 → w_X9_apart_b47 x1 c24 K v4 0 v3 st31) ∧ ((st31 0 25) = 0 → w_X9_apart_b47 x1 c24 K v4 1 v3 st31)))
def w_X9_apart_L24 (x1 : Int32)  (K : Int32 → St → Prop) : Nat → Int32 → Int32 → St → Prop
  | 0, _, _, _ => False
  | n + 1, v3, v4, st => w_X9_apart_L24q x1  K (fun v3 v4 st => w_X9_apart_L24 x1  K n v3 v4 st) v3 v4 st
def w_X9_apart (x1 : Int32) (st : St) (K : Int32 → St → Prop) : Prop :=
  w_X9_notWeeks x1 st (fun r1 st1 => (r1 = 0 → w_X9_thinks  st1 (fun st16 => ∃ n, w_X9_apart_L24 x1  K n 0 0 st16)) ∧ (¬ r1 = 0 → w_X9_no r1 st1 (fun r11 st11 => K r11 st11)))
def w_X9_enemy_b53 (x1 : Int32) (c19 : Int32 → Int32 → St → Prop) (K : Int32 → St → Prop) (v2 : Int32) (v3 : Int32) (st : St) : Prop :=
  c19 v2 (v3 + 1) st
def w_X9_enemy_b51 (x1 : Int32) (c19 : Int32 → Int32 → St → Prop) (K : Int32 → St → Prop) (v3 : Int32) (st : St) : Prop :=
  w_X9_enemy_b53 x1 c19 K v3 v3 st
def w_X9_enemy_L19q (x1 : Int32)  (K : Int32 → St → Prop) (c19 : Int32 → Int32 → St → Prop) (v2 : Int32) (v3 : Int32) (st : St) : Prop :=
  ((st 0 8) ≤ v3 → K v2 st) ∧ (¬ (st 0 8) ≤ v3 → (v3 = x1 → w_X9_enemy_b53 x1 c19 K v2 v3 st) ∧ (¬ v3 = x1 → (v2 < 0 → w_X9_enemy_b51 x1 c19 K v3 st) ∧ (¬ v2 < 0 → w_X9_hateOf x1 v3 st (fun r39 st39 => w_X9_hateOf x1 v2 st39 (fun r45 st45 => (r39 ≤ r45 → w_X9_enemy_b53 x1 c19 K v2 v3 st45) ∧ (¬ r39 ≤ r45 → w_X9_enemy_b51 x1 c19 K v3 st45))))))
def w_X9_enemy_L19 (x1 : Int32)  (K : Int32 → St → Prop) : Nat → Int32 → Int32 → St → Prop
  | 0, _, _, _ => False
  | n + 1, v2, v3, st => w_X9_enemy_L19q x1  K (fun v2 v3 st => w_X9_enemy_L19 x1  K n v2 v3 st) v2 v3 st
def w_X9_enemy (x1 : Int32) (st : St) (K : Int32 → St → Prop) : Prop :=
  w_X9_isKeeper x1 st (fun r2 st2 => (¬ r2 = 0 → ∃ n, w_X9_enemy_L19 x1  K n (-9) 0 st2) ∧ (r2 = 0 → w_X9_no (-1) st2 (fun r10 st10 => K r10 st10)))
def w_X9_can_b48 (x1 : Int32) (c23 : Int32 → Int32 → St → Prop) (K : Int32 → St → Prop) (v4 : Int32) (s0 : Int32) (s1 : Int32) (st : St) : Prop :=
  c23 (s1 ||| s0) (v4 + 1) st
def w_X9_can_L23q (x1 : Int32)  (K : Int32 → St → Prop) (c23 : Int32 → Int32 → St → Prop) (v3 : Int32) (v4 : Int32) (st : St) : Prop :=
  (4 ≤ v4 → K v3 st) ∧ (¬ 4 ≤ v4 → w_X9_opensAt v4 x1 st (fun r34 st34 => (r34 < 0 → w_X9_can_b48 x1 c23 K v4 0 v3 st34) ∧ (¬ r34 < 0 → w_X9_can_b48 x1 c23 K v4 ((1 : Int32) <<< (v4 &&& 31)) v3 st34)))
def w_X9_can_L23 (x1 : Int32)  (K : Int32 → St → Prop) : Nat → Int32 → Int32 → St → Prop
  | 0, _, _, _ => False
  | n + 1, v3, v4, st => w_X9_can_L23q x1  K (fun v3 v4 st => w_X9_can_L23 x1  K n v3 v4 st) v3 v4 st
def w_X9_can (x1 : Int32) (st : St) (K : Int32 → St → Prop) : Prop :=
  w_X9_bound x1 0 99 st (fun r4 st4 => (r4 = 0 → ∃ n, w_X9_can_L23 x1  K n 0 0 st4) ∧ (¬ r4 = 0 → w_X9_no r4 st4 (fun r14 st14 => K r14 st14)))
def w_X9_row_b24 (x1 : Int32)  (K : Int32 → St → Prop) (v2 : Int32) (st : St) : Prop :=
  (v2 = 0 → vp_in (st 0 29) 12 ∧ (K ((u2 (u2 st 16 ((st 0 29)).toNatClampNeg x1) 0 29 (((u2 st 16 ((st 0 29)).toNatClampNeg x1) 0 29) + 1)) 0 29) (u2 (u2 st 16 ((st 0 29)).toNatClampNeg x1) 0 29 (((u2 st 16 ((st 0 29)).toNatClampNeg x1) 0 29) + 1)))) ∧ (¬ v2 = 0 → w_X9_no v2 st (fun r30 st30 => K r30 st30))
def w_X9_row (x1 : Int32) (st : St) (K : Int32 → St → Prop) : Prop :=
  w_X9_bound x1 0 99 st (fun r4 st4 => (¬ r4 = 0 → w_X9_row_b24 x1  K r4 st4) ∧ (r4 = 0 → (¬ (st4 0 29) = 12 → w_X9_row_b24 x1  K r4 st4) ∧ ((st4 0 29) = 12 → w_X9_row_b24 x1  K (-6) st4)))
def w_X9_judge_b54 (x1 : Int32) (c26 : Int32 → Int32 → St → Prop) (K : Int32 → St → Prop) (v2 : Int32) (v3 : Int32) (s0 : Int32) (st : St) : Prop :=
  vp_in v3 12 ∧ ((s0 = (st 16 (v3).toNatClampNeg) → c26 v2 (v3 + 1) st) ∧ (¬ s0 = (st 16 (v3).toNatClampNeg) → K v3 st))
def w_X9_judge_L26q (x1 : Int32)  (K : Int32 → St → Prop) (c26 : Int32 → Int32 → St → Prop) (v2 : Int32) (v3 : Int32) (st : St) : Prop :=
  (v2 ≤ v3 → K (-9) st) ∧ (¬ v2 ≤ v3 → ((st 0 8) ≤ v3 → K v3 st) ∧ (¬ (st 0 8) ≤ v3 → (¬ v3 = x1 → w_X9_hateOf x1 v3 st (fun r51 st51 => w_X9_judge_b54 x1 c26 K v2 v3 r51 st51)) ∧ (v3 = x1 → w_X9_judge_b54 x1 c26 K v2 v3 0 st)))
def w_X9_judge_L26 (x1 : Int32)  (K : Int32 → St → Prop) : Nat → Int32 → Int32 → St → Prop
  | 0, _, _, _ => False
  | n + 1, v2, v3, st => w_X9_judge_L26q x1  K (fun v2 v3 st => w_X9_judge_L26 x1  K n v2 v3 st) v2 v3 st
def w_X9_judge (x1 : Int32) (st : St) (K : Int32 → St → Prop) : Prop :=
  w_X9_isKeeper x1 st (fun r2 st2 => (¬ r2 = 0 → ∃ n, w_X9_judge_L26 x1  K n (st2 0 29) 0 (u2 st2 0 29 0)) ∧ (r2 = 0 → w_X9_no (-1) st2 (fun r10 st10 => K r10 st10)))
def w_X9_clear  (st : St) (K : Int32 → St → Prop) : Prop :=
  K (st 0 29) (u2 st 0 29 0)
def w_X9_draw (x1 : Int32) (st : St) (K : Int32 → St → Prop) : Prop :=
  ¬ x1 = 0 ∧ (K (((((u2 st 0 30 (((st 0 30) * 1103515245) + 12345)) 0 30) &&& 2147483647) / 65536) - ((((u2 st 0 30 (((st 0 30) * 1103515245) + 12345)) 0 30) &&& 2147483647) / 65536) / x1 * x1) (u2 st 0 30 (((st 0 30) * 1103515245) + 12345)))
def w_X9_lots_b116 (x1 : Int32) (x2 : Int32) (x3 : Int32) (c59 : Int32 → Int32 → Int32 → St → Prop) (c72 : Int32 → Int32 → Int32 → Int32 → St → Prop) (K : Int32 → St → Prop) (v5 : Int32) (v6 : Int32) (v7 : Int32) (v8 : Int32) (st : St) : Prop :=
  c72 v5 v6 v7 (v8 + 1) st
def w_X9_lots_L87q (x1 : Int32) (x2 : Int32) (x3 : Int32) (c59 : Int32 → Int32 → Int32 → St → Prop) (c72 : Int32 → Int32 → Int32 → Int32 → St → Prop) (K : Int32 → St → Prop) (c87 : Int32 → Int32 → Int32 → Int32 → Int32 → St → Prop) (v5 : Int32) (v6 : Int32) (v7 : Int32) (v8 : Int32) (v9 : Int32) (st : St) : Prop :=
  ((st 0 8) ≤ v9 → w_X9_lots_b116 x1 x2 x3 c59 c72 K v5 v6 v7 v8 st) ∧ (¬ (st 0 8) ≤ v9 → w_X9_draw 60 st (fun r104 st104 => w_X9_sets v8 v9 r104 st104 (fun st107 => c87 v5 v6 v7 v8 (v9 + 1) st107)))
def w_X9_lots_L87 (x1 : Int32) (x2 : Int32) (x3 : Int32) (c59 : Int32 → Int32 → Int32 → St → Prop) (c72 : Int32 → Int32 → Int32 → Int32 → St → Prop) (K : Int32 → St → Prop) : Nat → Int32 → Int32 → Int32 → Int32 → Int32 → St → Prop
  | 0, _, _, _, _, _, _ => False
  | n + 1, v5, v6, v7, v8, v9, st => w_X9_lots_L87q x1 x2 x3 c59 c72 K (fun v5 v6 v7 v8 v9 st => w_X9_lots_L87 x1 x2 x3 c59 c72 K n v5 v6 v7 v8 v9 st) v5 v6 v7 v8 v9 st
def w_X9_lots_b151 (x1 : Int32) (x2 : Int32) (x3 : Int32) (c59 : Int32 → Int32 → Int32 → St → Prop) (K : Int32 → St → Prop) (v6 : Int32) (v7 : Int32) (s0 : Int32) (s1 : Int32) (st : St) : Prop :=
  w_X9_forgets  st (fun st155 => c59 (s1 + s0) v6 (v7 + 1) st155)
def w_X9_lots_b122 (x1 : Int32) (x2 : Int32) (x3 : Int32) (c59 : Int32 → Int32 → Int32 → St → Prop) (K : Int32 → St → Prop) (v5 : Int32) (v6 : Int32) (v7 : Int32) (st : St) : Prop :=
  w_X9_goesOn 10 st (fun st125 => (¬ x3 = 0 → w_X9_allHate  st125 (fun r148 st148 => w_X9_lots_b151 x1 x2 x3 c59 K v6 v7 r148 v5 st148)) ∧ (x3 = 0 → w_X9_openOnes  st125 (fun r135 st135 => w_X9_bits r135 st135 (fun r138 st138 => w_X9_lots_b151 x1 x2 x3 c59 K v6 v7 (r138 - v6) v5 st138))))
def w_X9_lots_L72q (x1 : Int32) (x2 : Int32) (x3 : Int32) (c59 : Int32 → Int32 → Int32 → St → Prop) (K : Int32 → St → Prop) (c72 : Int32 → Int32 → Int32 → Int32 → St → Prop) (v5 : Int32) (v6 : Int32) (v7 : Int32) (v8 : Int32) (st : St) : Prop :=
  ((st 0 8) ≤ v8 → w_X9_lots_b122 x1 x2 x3 c59 K v5 v6 v7 st) ∧ (¬ (st 0 8) ≤ v8 → ∃ n, w_X9_lots_L87 x1 x2 x3 c59 c72 K n v5 v6 v7 v8 (v8 + 1) st)
def w_X9_lots_L72 (x1 : Int32) (x2 : Int32) (x3 : Int32) (c59 : Int32 → Int32 → Int32 → St → Prop) (K : Int32 → St → Prop) : Nat → Int32 → Int32 → Int32 → Int32 → St → Prop
  | 0, _, _, _, _, _ => False
  | n + 1, v5, v6, v7, v8, st => w_X9_lots_L72q x1 x2 x3 c59 K (fun v5 v6 v7 v8 st => w_X9_lots_L72 x1 x2 x3 c59 K n v5 v6 v7 v8 st) v5 v6 v7 v8 st
def w_X9_lots_L59q (x1 : Int32) (x2 : Int32) (x3 : Int32)  (K : Int32 → St → Prop) (c59 : Int32 → Int32 → Int32 → St → Prop) (v5 : Int32) (v6 : Int32) (v7 : Int32) (st : St) : Prop :=
  (x1 ≤ v7 → K v5 st) ∧ (¬ x1 ≤ v7 → w_X9_thinks  st (fun st66 => ∃ n, w_X9_lots_L72 x1 x2 x3 c59 K n v5 v6 v7 0 st66))
def w_X9_lots_L59 (x1 : Int32) (x2 : Int32) (x3 : Int32)  (K : Int32 → St → Prop) : Nat → Int32 → Int32 → Int32 → St → Prop
  | 0, _, _, _, _ => False
  | n + 1, v5, v6, v7, st => w_X9_lots_L59q x1 x2 x3  K (fun v5 v6 v7 st => w_X9_lots_L59 x1 x2 x3  K n v5 v6 v7 st) v5 v6 v7 st
def w_X9_lots_b27 (x1 : Int32) (x2 : Int32) (x3 : Int32)  (K : Int32 → St → Prop) (v4 : Int32) (st : St) : Prop :=
  (v4 = 0 → w_X9_openOnes  (u2 st 0 30 x2) (fun r48 st48 => w_X9_bits r48 st48 (fun r51 st51 => ∃ n, w_X9_lots_L59 x1 x2 x3  K n 0 r51 0 st51))) ∧ (¬ v4 = 0 → w_X9_no v4 st (fun r35 st35 => K r35 st35))
def w_X9_lots (x1 : Int32) (x2 : Int32) (x3 : Int32) (st : St) (K : Int32 → St → Prop) : Prop :=
  w_X9_bound x1 1 20 st (fun r4 st4 => (¬ r4 = 0 → w_X9_lots_b27 x1 x2 x3  K r4 st4) ∧ (r4 = 0 → w_X9_isIn x3 0 1 st4 (fun r17 st17 => (¬ r17 = 0 → w_X9_lots_b27 x1 x2 x3  K r4 st17) ∧ (r17 = 0 → w_X9_lots_b27 x1 x2 x3  K (-2) st17))))
def w_X9_count (x1 : Int32) (st : St) (K : Int32 → St → Prop) : Prop :=
  w_X9_isIn x1 11 16 st (fun r5 st5 => (r5 = 0 → (x1 = 0 → K (st5 0 8) st5) ∧ (¬ x1 = 0 → (x1 = 1 → K (st5 0 9) st5) ∧ (¬ x1 = 1 → (x1 = 2 → K (st5 0 10) st5) ∧ (¬ x1 = 2 → (x1 = 3 → w_X9_openOnes  st5 (fun r84 st84 => K r84 st84)) ∧ (¬ x1 = 3 → (x1 = 4 → w_X9_allHate  st5 (fun r89 st89 => K r89 st89)) ∧ (¬ x1 = 4 → (x1 = 5 → K (st5 0 16) st5) ∧ (¬ x1 = 5 → (x1 = 6 → K (st5 0 29) st5) ∧ (¬ x1 = 6 → (x1 = 7 → K (st5 0 23) st5) ∧ (¬ x1 = 7 → K (-9) st5))))))))) ∧ (¬ r5 = 0 → vp_in (x1 - 10) 7 ∧ (K (st5 1 ((x1 - 10)).toNatClampNeg) st5)))
