/-! pure part: a week of a country (the class's side) -/
theorem sv_1 {st : St} {k : Nat} {c : Ct} : sv st k c (k + 1) = c 1 := sv_at (by decide)
theorem sv_2 {st : St} {k : Nat} {c : Ct} : sv st k c (k + 2) = c 2 := sv_at (by decide)
theorem sv_3 {st : St} {k : Nat} {c : Ct} : sv st k c (k + 3) = c 3 := sv_at (by decide)
theorem sv_4 {st : St} {k : Nat} {c : Ct} : sv st k c (k + 4) = c 4 := sv_at (by decide)
theorem sv_5 {st : St} {k : Nat} {c : Ct} : sv st k c (k + 5) = c 5 := sv_at (by decide)
theorem sv_6 {st : St} {k : Nat} {c : Ct} : sv st k c (k + 6) = c 6 := sv_at (by decide)
theorem sv_7 {st : St} {k : Nat} {c : Ct} : sv st k c (k + 7) = c 7 := sv_at (by decide)
def fadingF (k f : Int32) : Int32 := if k = 1 then 0 else if k = 2 then 2 else if k = 3 then f / 2 + 1 else if k = 4 then 0 else if k = 5 then 3 else 1
theorem s_fading {k f : Int32} {st : St} {K : Int32 → St → Prop} (h : K (fadingF k f) st) : w_X2_fading k f st K := by
  unfold w_X2_fading
  refine ⟨fun h1 => ?_, fun h1 => ⟨fun h2 => ?_, fun h2 => ⟨fun h3 => ?_, fun h3 => ⟨fun h4 => ?_, fun h4 => ⟨fun h5 => ?_, fun h5 => ?_⟩⟩⟩⟩⟩ <;> simpa [fadingF, *] using h
def stirringF (k f : Int32) : Int32 := if k = 1 then 1 else if k = 4 then 1 + f / 4 else 0
theorem s_stirring {k f : Int32} {st : St} {K : Int32 → St → Prop} (h : K (stirringF k f) st) : w_X2_stirring k f st K := by
  unfold w_X2_stirring
  refine ⟨fun h1 => ?_, fun h1 => ⟨fun h2 => ?_, fun h2 => ?_⟩⟩ <;> simpa [stirringF, *] using h
def wagingF (k f : Int32) : Int32 := if k = 1 then 2 * (f + 1) else if k = 2 then 5 else if k = 3 then 0 else if k = 4 then 2 * (f + 1) - 1 else if k = 5 then 2 else f + 1
theorem s_wage {k f : Int32} {st : St} {K : Int32 → St → Prop} (h : K (wagingF k f) st) : w_X2_wage k f st K := by
  unfold w_X2_wage
  refine ⟨fun h1 => ?_, fun h1 => ⟨fun h2 => ?_, fun h2 => ⟨fun h3 => ?_, fun h3 => ⟨fun h4 => ?_, fun h4 => ⟨fun h5 => ?_, fun h5 => ?_⟩⟩⟩⟩⟩ <;> simpa [wagingF, *] using h
def fadeF (c : Ct) (p : Nat) : Int32 := fadingF (c 1 p) (c 2 p)
def stirF (c : Ct) (p : Nat) : Int32 := stirringF (c 1 p) (c 2 p)
def wageF (c : Ct) (p : Nat) : Int32 := wagingF (c 1 p) (c 2 p)
theorem s_fadeOf {st : St} {k : Nat} {c : Ct} {p : Nat} {K : Int32 → St → Prop} (hp : p < 6) (h : K (fadeF c p) (sv st k c)) : w_X1_fadeOf k (nI p) (sv st k c) K := by
  unfold w_X1_fadeOf
  refine s_at hp (by decide) (s_at hp (by decide) (s_fading ?_))
  rw [sv_1, sv_2]
  exact h
theorem s_stirOf {st : St} {k : Nat} {c : Ct} {p : Nat} {K : Int32 → St → Prop} (hp : p < 6) (h : K (stirF c p) (sv st k c)) : w_X1_stirOf k (nI p) (sv st k c) K := by
  unfold w_X1_stirOf
  refine s_at hp (by decide) (s_at hp (by decide) (s_stirring ?_))
  rw [sv_1, sv_2]
  exact h
theorem s_wageOf {st : St} {k : Nat} {c : Ct} {p : Nat} {K : Int32 → St → Prop} (hp : p < 6) (h : K (wageF c p) (sv st k c)) : w_X1_wageOf k (nI p) (sv st k c) K := by
  unfold w_X1_wageOf
  refine s_at hp (by decide) (s_at hp (by decide) (s_wage ?_))
  rw [sv_1, sv_2]
  exact h
def chgF (c : Ct) (p q : Nat) : Int32 := if c 3 p = -1 then 0 else if c 3 q = -1 then 0 else if c 3 p = c 3 q then (-fadeF c p) - fadeF c q else stirF c p + stirF c q
theorem s_change {st : St} {k : Nat} {c : Ct} {p q : Nat} {K : Int32 → St → Prop} (hp : p < 6) (hq : q < 6) (h : K (chgF c p q) (sv st k c)) : w_X1_change k (nI p) (nI q) (sv st k c) K := by
  unfold w_X1_change
  refine s_at hp (by decide) (s_at hq (by decide) ?_)
  rw [sv_3]
  unfold chgF at h
  refine ⟨fun h1 => ?_, fun h1 => ⟨fun h2 => ⟨fun h3 => ?_, fun h3 => ?_⟩, fun h2 => ?_⟩⟩
  · rw [if_pos h1] at h; exact h
  · rw [if_neg h1, if_neg h2, if_neg h3] at h; exact s_stirOf hp (s_stirOf hq h)
  · rw [if_neg h1, if_neg h2, if_pos h3] at h; exact s_fadeOf hp (s_fadeOf hq h)
  · rw [if_neg h1, if_pos h2] at h; exact h
def stepH (p q : Nat) (c : Ct) : Ct := u2 c 4 (hI p q) (heldF (c 4 (hI p q) + chgF c p q))
theorem stepH_off {p q : Nat} {c : Ct} {j : Nat} (h : j ≠ 4) : stepH p q c j = c j := u2_off h
def hatesF (n : Nat) (c : Ct) : Ct := fr 0 n (fun p c => fr (p + 1) n (fun q c => stepH p q c) c) c
theorem nI_inc (p : Nat) : nI p + 1 = nI (p + 1) := nI_1 p
theorem s_pw24 {st : St} {k p n : Nat} {c : Ct} {c12 : Int32 → St → Prop} {K : Int32 → St → Prop} (hp : p < n) (hn : n ≤ 6) (h7 : c 0 7 = nI n) (h : c12 (nI (p + 1)) (sv st k (fr (p + 1) n (fun q c => stepH p q c) c))) :
    ∃ m, w_X1_passWeek_L24 k c12 K m (nI p) (nI (p + 1)) (sv st k c) := by
  refine lo_fr (fun m q c => w_X1_passWeek_L24 k c12 K m (nI p) (nI q) (sv st k c)) (fun q c => stepH p q c) (fun _ c => c 0 7 = nI n) c (show p + 1 ≤ n by omega) h7 (fun i s _ _ h => by rw [stepH_off (by decide)]; exact h) (fun h7 m => ?_) (fun m q s h1 h2 h7 hw => ?_)
  · rw [w_X1_passWeek_L24, w_X1_passWeek_L24q, sv_0, h7]
    refine ⟨fun _ => ?_, fun h9 => absurd (nI_le (Nat.le_refl n) (by omega)) h9⟩
    rw [w_X1_passWeek_b57, nI_inc]
    exact h
  · rw [w_X1_passWeek_L24, w_X1_passWeek_L24q, sv_0, h7]
    refine ⟨fun h9 => absurd h9 (nI_ge h2 (by omega)), fun _ => ?_⟩
    refine s_hateOf (by omega) (by omega) (s_change (by omega) (by omega) (s_setHate (by omega) (by omega) ?_))
    rw [nI_inc]
    exact hw
theorem fr_comp {n a : Nat} {c : Ct} {f : Nat → Ct → Ct} {j : Nat} (hf : ∀ i c, f i c j = c j) (h : a ≤ n) : fr a n f c j = c j :=
  fr_inv (fun _ (x : Ct) => x j = c j) f h rfl (fun i s _ _ e => by rw [hf]; exact e)
theorem rowH_off {n p : Nat} {c : Ct} {j : Nat} (hp : p < n) (h : j ≠ 4) : fr (p + 1) n (fun q c => stepH p q c) c j = c j := fr_comp (fun i c => stepH_off h) (by omega)
theorem s_pw12 {st : St} {k n : Nat} {c : Ct} {K : Int32 → St → Prop} (hn : n ≤ 6) (h7 : c 0 7 = nI n) (h : w_X1_passWeek_b63 k K (sv st k (hatesF n c))) :
    ∃ m, w_X1_passWeek_L12 k K m 0 (sv st k c) := by
  have e := lo_fr (fun m p c => w_X1_passWeek_L12 k K m (nI p) (sv st k c)) (fun p c => fr (p + 1) n (fun q c => stepH p q c) c) (fun _ c => c 0 7 = nI n) c (Nat.zero_le n) h7 (fun i s _ h2 h => by rw [rowH_off h2 (by decide)]; exact h) (fun h7 m => ?_) (fun m p s h1 h2 h7 hw => ?_)
  · exact e
  · rw [w_X1_passWeek_L12, w_X1_passWeek_L12q, sv_0, h7]
    refine ⟨fun _ => h, fun h9 => absurd (nI_le (Nat.le_refl n) (by omega)) h9⟩
  · rw [w_X1_passWeek_L12, w_X1_passWeek_L12q, sv_0, h7]
    refine ⟨fun h9 => absurd h9 (nI_ge h2 (by omega)), fun _ => ?_⟩
    rw [nI_inc]
    exact s_pw24 h2 hn h7 hw
