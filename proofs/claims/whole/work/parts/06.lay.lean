/-! the class's cells: 0 the object, 1 refusals, 2 past, 3 earlier, 4 telling, 5 signs, 6 row, 7 numbers, 8 look, 9 twosAmong, 10 mind, 11 + 8 i .. : country i (0 now, 1 draft, 2 kept, 3 .. 10 earlier, 11 ahead); the check's: 0 the object, 1 .. 16 its rows -/
def eC (y : Sy) (k : Nat) (f : Nat → Int32) : va_E := .inr (0, [.ref (ad y (k + 1)), .ref (ad y (k + 2)), .ref (ad y (k + 3)), .ref (ad y (k + 4)), .ref (ad y (k + 5)), .ref (ad y (k + 6)), .ref (ad y (k + 7)), .int (f 7), .int (f 8), .int (f 9), .int (f 10)])
def eA (y : Sy) (n : Nat) (f : Nat → Int32) : va_E := .inl (y.2.1, n, .inl f)
def enX (y : Sy) (k : Nat) (f : Nat → Int32) : va_E :=
  match k with
  | 0 => .inr (6, [.ref (ad y 11), .ref (ad y 19), .ref (ad y 27), .int (f 3), .ref (ad y 2), .ref (ad y 4), .ref (ad y 6), .ref (ad y 8), .ref (ad y 10), .ref (ad y 1)])
  | 1 => eA y 7 f
  | 2 => .inr (3, [.ref (ad y 3), .int (f 1), .int (f 2)])
  | 3 => .inl (y.2.2.1, 8, .inr (.inr (.inr (.inr (fun j => some (ad y (35 + 8 * j)))))))
  | 4 => .inr (5, [.ref (ad y 5), .int (f 1)])
  | 5 => eA y 96 f
  | 6 => .inr (4, [.ref (ad y 7), .int (f 1)])
  | 7 => eA y 12 f
  | 8 => .inr (1, [.ref (ad y 11), .ref (ad y 9)])
  | 9 => eA y 64 f
  | 10 => .inr (2, [.ref (ad y 11), .ref (ad y 99)])
  | n + 11 => match n % 8 with
    | 0 => eC y (n + 11) f
    | 4 => eA y 36 f
    | _ => eA y 6 f
def isC (k : Nat) : Prop := ∃ i, i < 12 ∧ k = 8 * i + 11
theorem isC_at {i : Nat} (h : i < 12) : isC (8 * i + 11) := ⟨i, h, rfl⟩
theorem isC.lt {k : Nat} (h : isC k) : k < 107 := by obtain ⟨i, h1, rfl⟩ := h; omega
theorem isC.e {k : Nat} (h : isC k) (y : Sy) (f : Nat → Int32) : enX y k f = eC y k f := by
  obtain ⟨i, h1, rfl⟩ := h
  show (match (8 * i) % 8 with | 0 => _ | 4 => _ | _ => _) = _
  rw [Nat.mul_mod_right]
  rfl
def isA (k n : Nat) : Prop := k < 107 ∧ ∀ (y : Sy) (f : Nat → Int32), enX y k f = .inl (y.2.1, n, .inl f)
theorem isC.a1 {k : Nat} (h : isC k) : isA (k + 1) 6 := by
  obtain ⟨i, h1, rfl⟩ := h
  refine ⟨by omega, fun y f => ?_⟩
  show (match (8 * i + 1) % 8 with | 0 => _ | 4 => _ | _ => _) = _
  rw [Nat.mul_add_mod]
  rfl
theorem isC.a2 {k : Nat} (h : isC k) : isA (k + 2) 6 := by
  obtain ⟨i, h1, rfl⟩ := h
  refine ⟨by omega, fun y f => ?_⟩
  show (match (8 * i + 2) % 8 with | 0 => _ | 4 => _ | _ => _) = _
  rw [Nat.mul_add_mod]
  rfl
theorem isC.a3 {k : Nat} (h : isC k) : isA (k + 3) 6 := by
  obtain ⟨i, h1, rfl⟩ := h
  refine ⟨by omega, fun y f => ?_⟩
  show (match (8 * i + 3) % 8 with | 0 => _ | 4 => _ | _ => _) = _
  rw [Nat.mul_add_mod]
  rfl
theorem isC.a4 {k : Nat} (h : isC k) : isA (k + 4) 36 := by
  obtain ⟨i, h1, rfl⟩ := h
  refine ⟨by omega, fun y f => ?_⟩
  show (match (8 * i + 4) % 8 with | 0 => _ | 4 => _ | _ => _) = _
  rw [Nat.mul_add_mod]
  rfl
theorem isC.a5 {k : Nat} (h : isC k) : isA (k + 5) 6 := by
  obtain ⟨i, h1, rfl⟩ := h
  refine ⟨by omega, fun y f => ?_⟩
  show (match (8 * i + 5) % 8 with | 0 => _ | 4 => _ | _ => _) = _
  rw [Nat.mul_add_mod]
  rfl
theorem isC.a6 {k : Nat} (h : isC k) : isA (k + 6) 6 := by
  obtain ⟨i, h1, rfl⟩ := h
  refine ⟨by omega, fun y f => ?_⟩
  show (match (8 * i + 6) % 8 with | 0 => _ | 4 => _ | _ => _) = _
  rw [Nat.mul_add_mod]
  rfl
theorem isC.a7 {k : Nat} (h : isC k) : isA (k + 7) 6 := by
  obtain ⟨i, h1, rfl⟩ := h
  refine ⟨by omega, fun y f => ?_⟩
  show (match (8 * i + 7) % 8 with | 0 => _ | 4 => _ | _ => _) = _
  rw [Nat.mul_add_mod]
  rfl
theorem isC.p7 {k : Nat} (h : isC k) (y : Sy) (f : Nat → Int32) (v : Int32) : enX y k (upd f 7 v) = .inr (0, ([.ref (ad y (k + 1)), .ref (ad y (k + 2)), .ref (ad y (k + 3)), .ref (ad y (k + 4)), .ref (ad y (k + 5)), .ref (ad y (k + 6)), .ref (ad y (k + 7)), .int (f 7), .int (f 8), .int (f 9), .int (f 10)] : List Value).set 7 (.int v)) := by rw [h.e]; rfl
theorem isC.p8 {k : Nat} (h : isC k) (y : Sy) (f : Nat → Int32) (v : Int32) : enX y k (upd f 8 v) = .inr (0, ([.ref (ad y (k + 1)), .ref (ad y (k + 2)), .ref (ad y (k + 3)), .ref (ad y (k + 4)), .ref (ad y (k + 5)), .ref (ad y (k + 6)), .ref (ad y (k + 7)), .int (f 7), .int (f 8), .int (f 9), .int (f 10)] : List Value).set 8 (.int v)) := by rw [h.e]; rfl
theorem isC.p9 {k : Nat} (h : isC k) (y : Sy) (f : Nat → Int32) (v : Int32) : enX y k (upd f 9 v) = .inr (0, ([.ref (ad y (k + 1)), .ref (ad y (k + 2)), .ref (ad y (k + 3)), .ref (ad y (k + 4)), .ref (ad y (k + 5)), .ref (ad y (k + 6)), .ref (ad y (k + 7)), .int (f 7), .int (f 8), .int (f 9), .int (f 10)] : List Value).set 9 (.int v)) := by rw [h.e]; rfl
theorem isC.p10 {k : Nat} (h : isC k) (y : Sy) (f : Nat → Int32) (v : Int32) : enX y k (upd f 10 v) = .inr (0, ([.ref (ad y (k + 1)), .ref (ad y (k + 2)), .ref (ad y (k + 3)), .ref (ad y (k + 4)), .ref (ad y (k + 5)), .ref (ad y (k + 6)), .ref (ad y (k + 7)), .int (f 7), .int (f 8), .int (f 9), .int (f 10)] : List Value).set 10 (.int v)) := by rw [h.e]; rfl
theorem isA_1 : isA 1 7 := ⟨by decide, fun _ _ => rfl⟩
theorem isA_5 : isA 5 96 := ⟨by decide, fun _ _ => rfl⟩
theorem isA_7 : isA 7 12 := ⟨by decide, fun _ _ => rfl⟩
theorem isA_9 : isA 9 64 := ⟨by decide, fun _ _ => rfl⟩
theorem isC_11 : isC 11 := ⟨0, by decide, rfl⟩
theorem isC_19 : isC 19 := ⟨1, by decide, rfl⟩
theorem isC_27 : isC 27 := ⟨2, by decide, rfl⟩
theorem isC_99 : isC 99 := ⟨11, by decide, rfl⟩
theorem isC_past {j : Nat} (h : j < 8) : isC (35 + 8 * j) := ⟨j + 3, by omega, by omega⟩
def enM (y : Sy) (k : Nat) (f : Nat → Int32) : va_E :=
  match k with
  | 0 => .inr (7, [.ref (ad y 1), .ref (ad y 2), .ref (ad y 3), .ref (ad y 4), .ref (ad y 5), .ref (ad y 6), .ref (ad y 7), .ref (ad y 8), .int (f 8), .int (f 9), .int (f 10), .int (f 11), .ref (ad y 9), .ref (ad y 10), .ref (ad y 11), .ref (ad y 12), .int (f 16), .int (f 17), .int (f 18), .ref (ad y 13), .int (f 20), .int (f 21), .int (f 22), .int (f 23), .ref (ad y 14), .int (f 25), .int (f 26), .ref (ad y 15), .ref (ad y 16), .int (f 29), .int (f 30)])
  | 1 => eA y 7 f
  | 2 => eA y 6 f
  | 3 => eA y 6 f
  | 4 => eA y 6 f
  | 5 => eA y 36 f
  | 6 => eA y 6 f
  | 7 => eA y 6 f
  | 8 => eA y 6 f
  | 9 => eA y 96 f
  | 10 => eA y 48 f
  | 11 => eA y 48 f
  | 12 => eA y 144 f
  | 13 => eA y 825 f
  | 14 => eA y 6 f
  | 15 => eA y 64 f
  | _ => eA y 12 f
def isB (k n : Nat) : Prop := k < 17 ∧ ∀ (y : Sy) (f : Nat → Int32), enM y k f = .inl (y.2.1, n, .inl f)
theorem isB_1 : isB 1 7 := ⟨by decide, fun _ _ => rfl⟩
theorem isB_2 : isB 2 6 := ⟨by decide, fun _ _ => rfl⟩
theorem isB_3 : isB 3 6 := ⟨by decide, fun _ _ => rfl⟩
theorem isB_4 : isB 4 6 := ⟨by decide, fun _ _ => rfl⟩
theorem isB_5 : isB 5 36 := ⟨by decide, fun _ _ => rfl⟩
theorem isB_6 : isB 6 6 := ⟨by decide, fun _ _ => rfl⟩
theorem isB_7 : isB 7 6 := ⟨by decide, fun _ _ => rfl⟩
theorem isB_8 : isB 8 6 := ⟨by decide, fun _ _ => rfl⟩
theorem isB_9 : isB 9 96 := ⟨by decide, fun _ _ => rfl⟩
theorem isB_10 : isB 10 48 := ⟨by decide, fun _ _ => rfl⟩
theorem isB_11 : isB 11 48 := ⟨by decide, fun _ _ => rfl⟩
theorem isB_12 : isB 12 144 := ⟨by decide, fun _ _ => rfl⟩
theorem isB_13 : isB 13 825 := ⟨by decide, fun _ _ => rfl⟩
theorem isB_14 : isB 14 6 := ⟨by decide, fun _ _ => rfl⟩
theorem isB_15 : isB 15 64 := ⟨by decide, fun _ _ => rfl⟩
theorem isB_16 : isB 16 12 := ⟨by decide, fun _ _ => rfl⟩
