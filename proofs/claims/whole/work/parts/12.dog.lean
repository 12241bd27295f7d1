/-! the dog, as (strengths, cheese, yards, owed, calls, hungry, lead) -/
abbrev DZ : Type := (Int → Int) × Int × Int × Int × Int × Int × Int
abbrev dS (d : DZ) : Int → Int := d.1
abbrev dC (d : DZ) : Int := d.2.1
abbrev dY (d : DZ) : Int := d.2.2.1
abbrev dO (d : DZ) : Int := d.2.2.2.1
abbrev dK (d : DZ) : Int := d.2.2.2.2.1
abbrev dH (d : DZ) : Int := d.2.2.2.2.2.1
abbrev dL (d : DZ) : Int := d.2.2.2.2.2.2
def DOK (W : Int) (d : DZ) : Prop := (∀ w : Int, 0 ≤ w → w < W → 0 ≤ dS d w ∧ dS d w ≤ 9) ∧ 0 ≤ dC d ∧ dC d ≤ 9 ∧ 0 ≤ dY d ∧ dY d ≤ 9 ∧ (dO d = -9 ∨ (0 ≤ dO d ∧ dO d < W)) ∧ 0 ≤ dH d ∧ dH d ≤ 1 ∧ 0 ≤ dL d ∧ dL d ≤ 1
def GOK (K P U : Int → Int) (W T : Int) : Prop := 0 ≤ W ∧ W ≤ 4 ∧ (∀ w : Int, 0 ≤ w → w < W → 0 ≤ K w ∧ K w ≤ 3) ∧ FOK P U T
def cut9 (z : Int) : Int := max 0 (min 9 z)
theorem cut9_b (z : Int) : 0 ≤ cut9 z ∧ cut9 z ≤ 9 := by
  unfold cut9
  omega
def callB (K P U : Int → Int) (T w : Int) (d : DZ) : Bool := br K P U T (dS d) (dH d) w (dY d)
def callD (K P U : Int → Int) (T w : Int) (d : DZ) : DZ := if callB K P U T w d = true then (dS d, dC d, 0, w, dK d + 1, dH d, dL d) else (uz (dS d) w (cut9 (dS d w + (if K w = 2 then -2 else -1))), dC d, min 9 (dY d + 1), -9, dK d + 1, dH d, dL d)
def payD (d : DZ) : DZ := (uz (dS d) (dO d) (cut9 (dS d (dO d) + 1)), dC d - 1, dY d, -9, dK d, dH d, dL d)
def runD (n : Int) (d : DZ) : DZ := (dS d, dC d, min 9 (dY d + n), -9, dK d, dH d, dL d)
def leadD (K : Int → Int) (d : DZ) : DZ := if dL d = 0 ∧ dO d ≠ -9 then (uz (dS d) (dO d) (cut9 (dS d (dO d) + (if K (dO d) = 3 then -1 else -2))), dC d, dY d, -9, dK d, dH d, 1 - dL d) else (dS d, dC d, dY d, dO d, dK d, dH d, 1 - dL d)
theorem leadD_p {K : Int → Int} {d : DZ} (h : dL d = 0 ∧ dO d ≠ -9) : leadD K d = (uz (dS d) (dO d) (cut9 (dS d (dO d) + (if K (dO d) = 3 then -1 else -2))), dC d, dY d, -9, dK d, dH d, 1 - dL d) := if_pos h
theorem leadD_n {K : Int → Int} {d : DZ} (h : ¬ (dL d = 0 ∧ dO d ≠ -9)) : leadD K d = (dS d, dC d, dY d, dO d, dK d, dH d, 1 - dL d) := if_neg h
def hungD (d : DZ) : DZ := (dS d, dC d, dY d, dO d, dK d, 1 - dH d, dL d)
def canPayB (d : DZ) : Bool := decide (dO d ≠ -9 ∧ 0 < dC d)
def canLeadB (d : DZ) : Bool := decide (dL d = 1 ∨ dY d = 0)
theorem uz_ok {W : Int} {s : Int → Int} {k v : Int} (h : ∀ w : Int, 0 ≤ w → w < W → 0 ≤ s w ∧ s w ≤ 9) (hv : 0 ≤ v ∧ v ≤ 9) : ∀ w : Int, 0 ≤ w → w < W → 0 ≤ uz s k v w ∧ uz s k v w ≤ 9 := by
  intro w h1 h2
  unfold uz
  split
  · exact hv
  · exact h w h1 h2
theorem callD_ok {K P U : Int → Int} {W T w : Int} {d : DZ} (h : DOK W d) (hw1 : 0 ≤ w) (hw2 : w < W) : DOK W (callD K P U T w d) := by
  obtain ⟨h1, h2, h3, h4, h5, h6, h7, h8, h9, h10⟩ := h
  unfold callD
  split
  · exact ⟨h1, h2, h3, Int.le_refl 0, (show (0 : Int) ≤ 9 by decide), Or.inr ⟨hw1, hw2⟩, h7, h8, h9, h10⟩
  · exact ⟨uz_ok h1 (cut9_b _), h2, h3, by show 0 ≤ min 9 (dY d + 1); omega, by show min 9 (dY d + 1) ≤ 9; omega, Or.inl rfl, h7, h8, h9, h10⟩
theorem payD_ok {W : Int} {d : DZ} (h : DOK W d) (hc : canPayB d = true) : DOK W (payD d) := by
  obtain ⟨h1, h2, h3, h4, h5, h6, h7, h8, h9, h10⟩ := h
  have hc2 := of_decide_eq_true hc
  exact ⟨uz_ok h1 (cut9_b _), by show 0 ≤ dC d - 1; omega, by show dC d - 1 ≤ 9; omega, h4, h5, Or.inl rfl, h7, h8, h9, h10⟩
theorem runD_ok {W n : Int} {d : DZ} (h : DOK W d) (hn : 0 ≤ n) : DOK W (runD n d) := by
  obtain ⟨h1, h2, h3, h4, h5, h6, h7, h8, h9, h10⟩ := h
  exact ⟨h1, h2, h3, by show 0 ≤ min 9 (dY d + n); omega, by show min 9 (dY d + n) ≤ 9; omega, Or.inl rfl, h7, h8, h9, h10⟩
theorem leadD_ok {K : Int → Int} {W : Int} {d : DZ} (h : DOK W d) : DOK W (leadD K d) := by
  obtain ⟨h1, h2, h3, h4, h5, h6, h7, h8, h9, h10⟩ := h
  unfold leadD
  split
  · exact ⟨uz_ok h1 (cut9_b _), h2, h3, h4, h5, Or.inl rfl, h7, h8, by show 0 ≤ 1 - dL d; omega, by show 1 - dL d ≤ 1; omega⟩
  · exact ⟨h1, h2, h3, h4, h5, h6, h7, h8, by show 0 ≤ 1 - dL d; omega, by show 1 - dL d ≤ 1; omega⟩
theorem hungD_ok {W : Int} {d : DZ} (h : DOK W d) : DOK W (hungD d) := by
  obtain ⟨h1, h2, h3, h4, h5, h6, h7, h8, h9, h10⟩ := h
  exact ⟨h1, h2, h3, h4, h5, h6, by show 0 ≤ 1 - dH d; omega, by show 1 - dH d ≤ 1; omega, h9, h10⟩
/-! the class's Dog -/
theorem setStrength_s {s : Int → Int} {w v : Int} (h1 : 0 ≤ w) (h2 : w < 4) : f0_setStrength (iI w) (iI v) (aI s) = some (aI (uz s w v)) := by
  unfold f0_setStrength
  simp (disch := omega) only [iI_add, iI_sub, iI_mul, iI_lt, iI_le, iI_eq, iI_lt0, iI_0lt, iI_le0, iI_0le, iI_eq0, iI_div, iI_rem, iI_max, iI_min, iI_abs, ib_iI, aI_get, aI_upd, iB_eq0, iB_eqi0, iB_eqi1, iB_t, iB_f, iB_ok, okB_0, okB_1, nar0, nar1, o2, o4, o6, o20, o36, o140, Option.bind_some, if_true, if_false, if_pos, if_neg, Int.reduceAdd, Int.reduceSub, Int.reduceMul, Int.reduceNeg, Int.zero_add, Int.add_zero]
theorem addStrength_s {s : Int → Int} {w v : Int} (h1 : 0 ≤ w) (h2 : w < 4) (hs1 : -100 ≤ s w) (hs2 : s w ≤ 100) (hv1 : -100 ≤ v) (hv2 : v ≤ 100) : f0_addStrength (iI w) (iI v) (aI s) = some (aI (uz s w (cut9 (s w + v)))) := by
  unfold f0_addStrength cut9
  rw [strengthOf_s h1 h2]
  simp (disch := omega) only [iI_add, iI_sub, iI_mul, iI_lt, iI_le, iI_eq, iI_lt0, iI_0lt, iI_le0, iI_0le, iI_eq0, iI_div, iI_rem, iI_max, iI_min, iI_abs, ib_iI, aI_get, aI_upd, iB_eq0, iB_eqi0, iB_eqi1, iB_t, iB_f, iB_ok, okB_0, okB_1, nar0, nar1, o2, o4, o6, o20, o36, o140, Option.bind_some, if_true, if_false, if_pos, if_neg, Int.reduceAdd, Int.reduceSub, Int.reduceMul, Int.reduceNeg, Int.zero_add, Int.add_zero]
  rw [setStrength_s h1 h2, Option.bind_some]
theorem runOff_s {y n : Int} (h1 : 0 ≤ y) (h2 : y ≤ 100) (h3 : 0 ≤ n) (h4 : n ≤ 100) : f0_runOff (iI n) (iI y) = some (iI (min 9 (y + n)), iI (-9)) := by
  unfold f0_runOff
  simp (disch := omega) only [iI_add, iI_sub, iI_mul, iI_lt, iI_le, iI_eq, iI_lt0, iI_0lt, iI_le0, iI_0le, iI_eq0, iI_div, iI_rem, iI_max, iI_min, iI_abs, ib_iI, aI_get, aI_upd, iB_eq0, iB_eqi0, iB_eqi1, iB_t, iB_f, iB_ok, okB_0, okB_1, nar0, nar1, o2, o4, o6, o20, o36, o140, Option.bind_some, if_true, if_false, if_pos, if_neg, Int.reduceAdd, Int.reduceSub, Int.reduceMul, Int.reduceNeg, Int.zero_add, Int.add_zero]
theorem canBePaid_s {c o : Int} (h1 : 0 ≤ c) (h2 : c ≤ 9) (h3 : -9 ≤ o) (h4 : o ≤ 9) : f0_canBePaid (iI c) (iI o) = some (iB (decide (o ≠ -9 ∧ 0 < c))) := by
  unfold f0_canBePaid
  by_cases c1 : o = -9
  · rw [decide_eq_false (by omega), c1]
    simp (disch := omega) only [iI_add, iI_sub, iI_mul, iI_lt, iI_le, iI_eq, iI_lt0, iI_0lt, iI_le0, iI_0le, iI_eq0, iI_div, iI_rem, iI_max, iI_min, iI_abs, ib_iI, aI_get, aI_upd, iB_eq0, iB_eqi0, iB_eqi1, iB_t, iB_f, iB_ok, okB_0, okB_1, nar0, nar1, o2, o4, o6, o20, o36, o140, Option.bind_some, if_true, if_false, if_pos, if_neg, Int.reduceAdd, Int.reduceSub, Int.reduceMul, Int.reduceNeg, Int.zero_add, Int.add_zero]
  · by_cases c2 : c ≤ 0
    · rw [decide_eq_false (by omega)]
      simp (disch := omega) only [iI_add, iI_sub, iI_mul, iI_lt, iI_le, iI_eq, iI_lt0, iI_0lt, iI_le0, iI_0le, iI_eq0, iI_div, iI_rem, iI_max, iI_min, iI_abs, ib_iI, aI_get, aI_upd, iB_eq0, iB_eqi0, iB_eqi1, iB_t, iB_f, iB_ok, okB_0, okB_1, nar0, nar1, o2, o4, o6, o20, o36, o140, Option.bind_some, if_true, if_false, if_pos, if_neg, Int.reduceAdd, Int.reduceSub, Int.reduceMul, Int.reduceNeg, Int.zero_add, Int.add_zero]
    · rw [decide_eq_true (by omega)]
      simp (disch := omega) only [iI_add, iI_sub, iI_mul, iI_lt, iI_le, iI_eq, iI_lt0, iI_0lt, iI_le0, iI_0le, iI_eq0, iI_div, iI_rem, iI_max, iI_min, iI_abs, ib_iI, aI_get, aI_upd, iB_eq0, iB_eqi0, iB_eqi1, iB_t, iB_f, iB_ok, okB_0, okB_1, nar0, nar1, o2, o4, o6, o20, o36, o140, Option.bind_some, if_true, if_false, if_pos, if_neg, Int.reduceAdd, Int.reduceSub, Int.reduceMul, Int.reduceNeg, Int.zero_add, Int.add_zero]
theorem bePaid_s {s : Int → Int} {c o : Int} (h1 : 0 ≤ o) (h2 : o < 4) (hs1 : -100 ≤ s o) (hs2 : s o ≤ 100) : f0_bePaid (aI s) (iI c) (iI o) = some (aI (uz s o (cut9 (s o + 1))), iI (c - 1), iI (-9)) := by
  unfold f0_bePaid
  rw [addStrength_s h1 h2 hs1 hs2 (by decide) (by decide)]
  simp (disch := omega) only [iI_add, iI_sub, iI_mul, iI_lt, iI_le, iI_eq, iI_lt0, iI_0lt, iI_le0, iI_0le, iI_eq0, iI_div, iI_rem, iI_max, iI_min, iI_abs, ib_iI, aI_get, aI_upd, iB_eq0, iB_eqi0, iB_eqi1, iB_t, iB_f, iB_ok, okB_0, okB_1, nar0, nar1, o2, o4, o6, o20, o36, o140, Option.bind_some, if_true, if_false, if_pos, if_neg, Int.reduceAdd, Int.reduceSub, Int.reduceMul, Int.reduceNeg, Int.zero_add, Int.add_zero]
theorem canBeLed_s {y l : Int} (h1 : 0 ≤ y) (h2 : y ≤ 9) (h3 : 0 ≤ l) (h4 : l ≤ 1) : f0_canBeLed (iI y) (iI l) = some (iB (decide (l = 1 ∨ y = 0))) := by
  unfold f0_canBeLed
  by_cases c1 : l = 0
  · by_cases c2 : y = 0
    · rw [decide_eq_true (by omega), c1, c2]
      simp (disch := omega) only [iI_add, iI_sub, iI_mul, iI_lt, iI_le, iI_eq, iI_lt0, iI_0lt, iI_le0, iI_0le, iI_eq0, iI_div, iI_rem, iI_max, iI_min, iI_abs, ib_iI, aI_get, aI_upd, iB_eq0, iB_eqi0, iB_eqi1, iB_t, iB_f, iB_ok, okB_0, okB_1, nar0, nar1, o2, o4, o6, o20, o36, o140, Option.bind_some, if_true, if_false, if_pos, if_neg, Int.reduceAdd, Int.reduceSub, Int.reduceMul, Int.reduceNeg, Int.zero_add, Int.add_zero]
    · rw [decide_eq_false (by omega), c1]
      simp (disch := omega) only [iI_add, iI_sub, iI_mul, iI_lt, iI_le, iI_eq, iI_lt0, iI_0lt, iI_le0, iI_0le, iI_eq0, iI_div, iI_rem, iI_max, iI_min, iI_abs, ib_iI, aI_get, aI_upd, iB_eq0, iB_eqi0, iB_eqi1, iB_t, iB_f, iB_ok, okB_0, okB_1, nar0, nar1, o2, o4, o6, o20, o36, o140, Option.bind_some, if_true, if_false, if_pos, if_neg, Int.reduceAdd, Int.reduceSub, Int.reduceMul, Int.reduceNeg, Int.zero_add, Int.add_zero]
  · rw [decide_eq_true (by omega)]
    simp (disch := omega) only [iI_add, iI_sub, iI_mul, iI_lt, iI_le, iI_eq, iI_lt0, iI_0lt, iI_le0, iI_0le, iI_eq0, iI_div, iI_rem, iI_max, iI_min, iI_abs, ib_iI, aI_get, aI_upd, iB_eq0, iB_eqi0, iB_eqi1, iB_t, iB_f, iB_ok, okB_0, okB_1, nar0, nar1, o2, o4, o6, o20, o36, o140, Option.bind_some, if_true, if_false, if_pos, if_neg, Int.reduceAdd, Int.reduceSub, Int.reduceMul, Int.reduceNeg, Int.zero_add, Int.add_zero]
def cp4 (s t : Int → Int) : Int → Int := fun j => if 0 ≤ j ∧ j < 4 then s j else t j
theorem FU10 : FU = 19990 + 1 + 1 + 1 + 1 + 1 + 1 + 1 + 1 + 1 + 1 := rfl
theorem cp4_e (s t : Int → Int) : uz (uz (uz (uz t 0 (s 0)) 1 (s 1)) 2 (s 2)) 3 (s 3) = cp4 s t := by
  funext j
  unfold cp4 uz
  by_cases c3 : j = 3
  · rw [if_pos c3, if_pos (by omega), c3]
  · rw [if_neg c3]
    by_cases c2 : j = 2
    · rw [if_pos c2, if_pos (by omega), c2]
    · rw [if_neg c2]
      by_cases c1 : j = 1
      · rw [if_pos c1, if_pos (by omega), c1]
      · rw [if_neg c1]
        by_cases c0 : j = 0
        · rw [if_pos c0, if_pos (by omega), c0]
        · rw [if_neg c0, if_neg (by omega)]
theorem copyFrom_l {s t : Int → Int} (k : Int32 → (Nat → Int32) → Option ((Nat → Int32) × Int32 × Int32 × Int32 × Int32 × Int32 × Int32)) (n : Nat) : l0_copyFrom_2 k (aI s) (n + 1 + 1 + 1 + 1 + 1) (iI 0) (aI t) = k (iI 4) (aI (cp4 s t)) := by
  rw [l0_copyFrom_2]
  simp (disch := omega) only [iI_add, iI_sub, iI_mul, iI_lt, iI_le, iI_eq, iI_lt0, iI_0lt, iI_le0, iI_0le, iI_eq0, iI_div, iI_rem, iI_max, iI_min, iI_abs, ib_iI, aI_get, aI_upd, iB_eq0, iB_eqi0, iB_eqi1, iB_t, iB_f, iB_ok, okB_0, okB_1, nar0, nar1, o2, o4, o6, o20, o36, o140, Option.bind_some, if_true, if_false, if_pos, if_neg, Int.reduceAdd, Int.reduceSub, Int.reduceMul, Int.reduceNeg, Int.zero_add, Int.add_zero]
  rw [strengthOf_s (by decide) (by decide)]
  simp (disch := omega) only [iI_add, iI_sub, iI_mul, iI_lt, iI_le, iI_eq, iI_lt0, iI_0lt, iI_le0, iI_0le, iI_eq0, iI_div, iI_rem, iI_max, iI_min, iI_abs, ib_iI, aI_get, aI_upd, iB_eq0, iB_eqi0, iB_eqi1, iB_t, iB_f, iB_ok, okB_0, okB_1, nar0, nar1, o2, o4, o6, o20, o36, o140, Option.bind_some, if_true, if_false, if_pos, if_neg, Int.reduceAdd, Int.reduceSub, Int.reduceMul, Int.reduceNeg, Int.zero_add, Int.add_zero]
  rw [l0_copyFrom_2]
  simp (disch := omega) only [iI_add, iI_sub, iI_mul, iI_lt, iI_le, iI_eq, iI_lt0, iI_0lt, iI_le0, iI_0le, iI_eq0, iI_div, iI_rem, iI_max, iI_min, iI_abs, ib_iI, aI_get, aI_upd, iB_eq0, iB_eqi0, iB_eqi1, iB_t, iB_f, iB_ok, okB_0, okB_1, nar0, nar1, o2, o4, o6, o20, o36, o140, Option.bind_some, if_true, if_false, if_pos, if_neg, Int.reduceAdd, Int.reduceSub, Int.reduceMul, Int.reduceNeg, Int.zero_add, Int.add_zero]
  rw [strengthOf_s (by decide) (by decide)]
  simp (disch := omega) only [iI_add, iI_sub, iI_mul, iI_lt, iI_le, iI_eq, iI_lt0, iI_0lt, iI_le0, iI_0le, iI_eq0, iI_div, iI_rem, iI_max, iI_min, iI_abs, ib_iI, aI_get, aI_upd, iB_eq0, iB_eqi0, iB_eqi1, iB_t, iB_f, iB_ok, okB_0, okB_1, nar0, nar1, o2, o4, o6, o20, o36, o140, Option.bind_some, if_true, if_false, if_pos, if_neg, Int.reduceAdd, Int.reduceSub, Int.reduceMul, Int.reduceNeg, Int.zero_add, Int.add_zero]
  rw [l0_copyFrom_2]
  simp (disch := omega) only [iI_add, iI_sub, iI_mul, iI_lt, iI_le, iI_eq, iI_lt0, iI_0lt, iI_le0, iI_0le, iI_eq0, iI_div, iI_rem, iI_max, iI_min, iI_abs, ib_iI, aI_get, aI_upd, iB_eq0, iB_eqi0, iB_eqi1, iB_t, iB_f, iB_ok, okB_0, okB_1, nar0, nar1, o2, o4, o6, o20, o36, o140, Option.bind_some, if_true, if_false, if_pos, if_neg, Int.reduceAdd, Int.reduceSub, Int.reduceMul, Int.reduceNeg, Int.zero_add, Int.add_zero]
  rw [strengthOf_s (by decide) (by decide)]
  simp (disch := omega) only [iI_add, iI_sub, iI_mul, iI_lt, iI_le, iI_eq, iI_lt0, iI_0lt, iI_le0, iI_0le, iI_eq0, iI_div, iI_rem, iI_max, iI_min, iI_abs, ib_iI, aI_get, aI_upd, iB_eq0, iB_eqi0, iB_eqi1, iB_t, iB_f, iB_ok, okB_0, okB_1, nar0, nar1, o2, o4, o6, o20, o36, o140, Option.bind_some, if_true, if_false, if_pos, if_neg, Int.reduceAdd, Int.reduceSub, Int.reduceMul, Int.reduceNeg, Int.zero_add, Int.add_zero]
  rw [l0_copyFrom_2]
  simp (disch := omega) only [iI_add, iI_sub, iI_mul, iI_lt, iI_le, iI_eq, iI_lt0, iI_0lt, iI_le0, iI_0le, iI_eq0, iI_div, iI_rem, iI_max, iI_min, iI_abs, ib_iI, aI_get, aI_upd, iB_eq0, iB_eqi0, iB_eqi1, iB_t, iB_f, iB_ok, okB_0, okB_1, nar0, nar1, o2, o4, o6, o20, o36, o140, Option.bind_some, if_true, if_false, if_pos, if_neg, Int.reduceAdd, Int.reduceSub, Int.reduceMul, Int.reduceNeg, Int.zero_add, Int.add_zero]
  rw [strengthOf_s (by decide) (by decide)]
  simp (disch := omega) only [iI_add, iI_sub, iI_mul, iI_lt, iI_le, iI_eq, iI_lt0, iI_0lt, iI_le0, iI_0le, iI_eq0, iI_div, iI_rem, iI_max, iI_min, iI_abs, ib_iI, aI_get, aI_upd, iB_eq0, iB_eqi0, iB_eqi1, iB_t, iB_f, iB_ok, okB_0, okB_1, nar0, nar1, o2, o4, o6, o20, o36, o140, Option.bind_some, if_true, if_false, if_pos, if_neg, Int.reduceAdd, Int.reduceSub, Int.reduceMul, Int.reduceNeg, Int.zero_add, Int.add_zero]
  rw [l0_copyFrom_2]
  simp (disch := omega) only [iI_add, iI_sub, iI_mul, iI_lt, iI_le, iI_eq, iI_lt0, iI_0lt, iI_le0, iI_0le, iI_eq0, iI_div, iI_rem, iI_max, iI_min, iI_abs, ib_iI, aI_get, aI_upd, iB_eq0, iB_eqi0, iB_eqi1, iB_t, iB_f, iB_ok, okB_0, okB_1, nar0, nar1, o2, o4, o6, o20, o36, o140, Option.bind_some, if_true, if_false, if_pos, if_neg, Int.reduceAdd, Int.reduceSub, Int.reduceMul, Int.reduceNeg, Int.zero_add, Int.add_zero]
  rw [cp4_e]
theorem copyFrom_s {s t : Int → Int} {c y o k h l : Int32} (hh : okB h = true) (hl : okB l = true) : f0_copyFrom (aI t) (aI s) c y o k h l = some (aI (cp4 s t), c, y, o, k, h, l) := by
  unfold f0_copyFrom
  rw [FU10, copyFrom_l, if_pos hh, if_pos hl]
/-! CALLED, LEAD -/
theorem callHim_s {K P U : Int → Int} {W T w : Int} {d : DZ} (hG : GOK K P U W T) (hd : DOK W d) (hw1 : 0 ≤ w) (hw2 : w < W) : f1_callHim (iI w) (aI K) (aI P) (aI U) (iI T) (aI (dS d)) (iI (dY d)) (iI (dK d)) (iI (dH d)) = some (iB (callB K P U T w d), aI (dS (callD K P U T w d)), iI (dY (callD K P U T w d)), iI (dO (callD K P U T w d)), iI (dK (callD K P U T w d))) := by
  obtain ⟨g1, g2, g3, g4⟩ := hG
  obtain ⟨h1, h2, h3, h4, h5, h6, h7, h8, h9, h10⟩ := hd
  have hs := h1 w hw1 hw2
  have hk := g3 w hw1 hw2
  unfold f1_callHim
  rw [brings_s g4 (by omega) (by omega) hw1 (by omega) (by omega) (by omega) h7 h8 h4 h5, Option.bind_some, kindOf_s hw1 (by omega)]
  show _ = some (iB (callB K P U T w d), _)
  unfold callD
  have e : br K P U T (dS d) (dH d) w (dY d) = callB K P U T w d := rfl
  rw [e]
  cases hb : callB K P U T w d with
  | true =>
    simp only [iB_eq0, iB_ok, if_true, if_false, Bool.true_eq_false, iI_add]
  | false =>
    simp only [iB_eq0, iB_ok, if_true, if_false, Bool.false_eq_true, Option.bind_some, iI_add]
    by_cases c2 : K w = 2
    · rw [if_pos c2, if_pos (by rw [c2]), addStrength_s hw1 (by omega) (by omega) (by omega) (by decide) (by decide), Option.bind_some, runOff_s h4 (by omega) (by decide) (by decide), Option.bind_some]
    · rw [if_neg c2, if_neg (by rw [iI_eq (by omega) (by omega) (by decide) (by decide)]; exact c2), addStrength_s hw1 (by omega) (by omega) (by omega) (by decide) (by decide), Option.bind_some, runOff_s h4 (by omega) (by decide) (by decide), Option.bind_some]
theorem leash_s {K P U : Int → Int} {W T : Int} {d : DZ} (hG : GOK K P U W T) (hd : DOK W d) : f1_leash (aI K) (aI (dS d)) (iI (dO d)) (iI (dL d)) = some (aI (dS (leadD K d)), iI (dO (leadD K d)), iI (dL (leadD K d))) := by
  obtain ⟨g1, g2, g3, g4⟩ := hG
  obtain ⟨h1, h2, h3, h4, h5, h6, h7, h8, h9, h10⟩ := hd
  unfold f1_leash
  by_cases c1 : dL d = 0
  · by_cases c2 : dO d = -9
    · rw [leadD_n (fun q => q.2 c2)]
      show _ = some (aI (dS d), iI (dO d), iI (1 - dL d))
      rw [c1, c2]
      simp (disch := omega) only [iI_add, iI_sub, iI_mul, iI_lt, iI_le, iI_eq, iI_lt0, iI_0lt, iI_le0, iI_0le, iI_eq0, iI_div, iI_rem, iI_max, iI_min, iI_abs, ib_iI, aI_get, aI_upd, iB_eq0, iB_eqi0, iB_eqi1, iB_t, iB_f, iB_ok, okB_0, okB_1, nar0, nar1, o2, o4, o6, o20, o36, o140, Option.bind_some, if_true, if_false, if_pos, if_neg, Int.reduceAdd, Int.reduceSub, Int.reduceMul, Int.reduceNeg, Int.zero_add, Int.add_zero]
    · have ho : 0 ≤ dO d ∧ dO d < W := by omega
      have hs := h1 (dO d) ho.1 ho.2
      have hk := g3 (dO d) ho.1 ho.2
      rw [leadD_p ⟨c1, c2⟩]
      show _ = some (aI (uz (dS d) (dO d) (cut9 (dS d (dO d) + (if K (dO d) = 3 then -1 else -2)))), iI (-9), iI (1 - dL d))
      rw [kindOf_s ho.1 (by omega), c1]
      simp (disch := omega) only [iI_add, iI_sub, iI_mul, iI_lt, iI_le, iI_eq, iI_lt0, iI_0lt, iI_le0, iI_0le, iI_eq0, iI_div, iI_rem, iI_max, iI_min, iI_abs, ib_iI, aI_get, aI_upd, iB_eq0, iB_eqi0, iB_eqi1, iB_t, iB_f, iB_ok, okB_0, okB_1, nar0, nar1, o2, o4, o6, o20, o36, o140, Option.bind_some, if_true, if_false, if_pos, if_neg, Int.reduceAdd, Int.reduceSub, Int.reduceMul, Int.reduceNeg, Int.zero_add, Int.add_zero]
      by_cases c3 : K (dO d) = 3
      · rw [if_pos c3, if_pos c3, addStrength_s ho.1 (by omega) (by omega) (by omega) (by decide) (by decide)]
        simp (disch := omega) only [iI_add, iI_sub, iI_mul, iI_lt, iI_le, iI_eq, iI_lt0, iI_0lt, iI_le0, iI_0le, iI_eq0, iI_div, iI_rem, iI_max, iI_min, iI_abs, ib_iI, aI_get, aI_upd, iB_eq0, iB_eqi0, iB_eqi1, iB_t, iB_f, iB_ok, okB_0, okB_1, nar0, nar1, o2, o4, o6, o20, o36, o140, Option.bind_some, if_true, if_false, if_pos, if_neg, Int.reduceAdd, Int.reduceSub, Int.reduceMul, Int.reduceNeg, Int.zero_add, Int.add_zero]
      · rw [if_neg c3, if_neg c3, addStrength_s ho.1 (by omega) (by omega) (by omega) (by decide) (by decide)]
        simp (disch := omega) only [iI_add, iI_sub, iI_mul, iI_lt, iI_le, iI_eq, iI_lt0, iI_0lt, iI_le0, iI_0le, iI_eq0, iI_div, iI_rem, iI_max, iI_min, iI_abs, ib_iI, aI_get, aI_upd, iB_eq0, iB_eqi0, iB_eqi1, iB_t, iB_f, iB_ok, okB_0, okB_1, nar0, nar1, o2, o4, o6, o20, o36, o140, Option.bind_some, if_true, if_false, if_pos, if_neg, Int.reduceAdd, Int.reduceSub, Int.reduceMul, Int.reduceNeg, Int.zero_add, Int.add_zero]
  · rw [leadD_n (fun q => c1 q.1)]
    show _ = some (aI (dS d), iI (dO d), iI (1 - dL d))
    rw [show dL d = 1 by omega]
    simp (disch := omega) only [iI_add, iI_sub, iI_mul, iI_lt, iI_le, iI_eq, iI_lt0, iI_0lt, iI_le0, iI_0le, iI_eq0, iI_div, iI_rem, iI_max, iI_min, iI_abs, ib_iI, aI_get, aI_upd, iB_eq0, iB_eqi0, iB_eqi1, iB_t, iB_f, iB_ok, okB_0, okB_1, nar0, nar1, o2, o4, o6, o20, o36, o140, Option.bind_some, if_true, if_false, if_pos, if_neg, Int.reduceAdd, Int.reduceSub, Int.reduceMul, Int.reduceNeg, Int.zero_add, Int.add_zero]
