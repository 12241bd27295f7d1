/-! questions that change nothing: both sides answer alike -/
def Same {α : Type} (A B : Option α) : Prop := ∃ r, A = some r ∧ B = some r
def CX (K P U : Int → Int) (W T : Int) (d : DZ) (M : Int → Int) : Prop := GOK K P U W T ∧ DOK W d ∧ MR W M 0 d
theorem isNoYard_s {y : Int} (h1 : -2147483648 ≤ y) (h2 : y < 2147483648) : f5_isNoYard (iI y) = some (iB (decide (¬ (0 ≤ y ∧ y ≤ 9)))) := by
  unfold f5_isNoYard
  by_cases c1 : y < 0
  · rw [decide_eq_true (by omega)]
    simp (disch := omega) only [iI_add, iI_sub, iI_mul, iI_lt, iI_le, iI_eq, iI_lt0, iI_0lt, iI_le0, iI_0le, iI_eq0, iI_div, iI_rem, iI_max, iI_min, iI_abs, ib_iI, aI_get, aI_upd, iB_eq0, iB_eqi0, iB_eqi1, iB_t, iB_f, iB_ok, okB_0, okB_1, nar0, nar1, o2, o4, o6, o20, o36, o140, Option.bind_some, if_true, if_false, if_pos, if_neg, Int.reduceAdd, Int.reduceSub, Int.reduceMul, Int.reduceNeg, Int.zero_add, Int.add_zero]
  · by_cases c2 : y ≤ 9
    · rw [decide_eq_false (by omega)]
      simp (disch := omega) only [iI_add, iI_sub, iI_mul, iI_lt, iI_le, iI_eq, iI_lt0, iI_0lt, iI_le0, iI_0le, iI_eq0, iI_div, iI_rem, iI_max, iI_min, iI_abs, ib_iI, aI_get, aI_upd, iB_eq0, iB_eqi0, iB_eqi1, iB_t, iB_f, iB_ok, okB_0, okB_1, nar0, nar1, o2, o4, o6, o20, o36, o140, Option.bind_some, if_true, if_false, if_pos, if_neg, Int.reduceAdd, Int.reduceSub, Int.reduceMul, Int.reduceNeg, Int.zero_add, Int.add_zero]
    · rw [decide_eq_true (by omega)]
      simp (disch := omega) only [iI_add, iI_sub, iI_mul, iI_lt, iI_le, iI_eq, iI_lt0, iI_0lt, iI_le0, iI_0le, iI_eq0, iI_div, iI_rem, iI_max, iI_min, iI_abs, ib_iI, aI_get, aI_upd, iB_eq0, iB_eqi0, iB_eqi1, iB_t, iB_f, iB_ok, okB_0, okB_1, nar0, nar1, o2, o4, o6, o20, o36, o140, Option.bind_some, if_true, if_false, if_pos, if_neg, Int.reduceAdd, Int.reduceSub, Int.reduceMul, Int.reduceNeg, Int.zero_add, Int.add_zero]
theorem asNumber_s (b : Bool) : f5_asNumber (iB b) = some (iB b) := by cases b <;> decide
theorem asNumber_z {h : Int} (h1 : 0 ≤ h) (h2 : h ≤ 1) : f5_asNumber (iI h) = some (iI h) := by
  unfold f5_asNumber
  by_cases c : h = 0
  · rw [c]
    simp (disch := omega) only [iI_add, iI_sub, iI_mul, iI_lt, iI_le, iI_eq, iI_lt0, iI_0lt, iI_le0, iI_0le, iI_eq0, iI_div, iI_rem, iI_max, iI_min, iI_abs, ib_iI, aI_get, aI_upd, iB_eq0, iB_eqi0, iB_eqi1, iB_t, iB_f, iB_ok, okB_0, okB_1, nar0, nar1, o2, o4, o6, o20, o36, o140, Option.bind_some, if_true, if_false, if_pos, if_neg, Int.reduceAdd, Int.reduceSub, Int.reduceMul, Int.reduceNeg, Int.zero_add, Int.add_zero]
  · rw [show h = 1 by omega]
    simp (disch := omega) only [iI_add, iI_sub, iI_mul, iI_lt, iI_le, iI_eq, iI_lt0, iI_0lt, iI_le0, iI_0le, iI_eq0, iI_div, iI_rem, iI_max, iI_min, iI_abs, ib_iI, aI_get, aI_upd, iB_eq0, iB_eqi0, iB_eqi1, iB_t, iB_f, iB_ok, okB_0, okB_1, nar0, nar1, o2, o4, o6, o20, o36, o140, Option.bind_some, if_true, if_false, if_pos, if_neg, Int.reduceAdd, Int.reduceSub, Int.reduceMul, Int.reduceNeg, Int.zero_add, Int.add_zero]
theorem yard_s {y : Int} (h1 : -2147483648 ≤ y) (h2 : y < 2147483648) : f6_in (iI y).toInt64 (Int64.ofNat 0) (9 : Int64) = some (iB (decide (0 ≤ y ∧ y ≤ 9))) := by
  rw [lN0, lL9, in_s h1 h2 (by decide) (by decide) (by decide) (by decide)]
/-- what of the reference's row a word's question reads -/
theorem CX_w {K P U M : Int → Int} {W T w : Int} {d : DZ} (h : CX K P U W T d M) (hw1 : 0 ≤ w) (hw2 : w < W) : W ≤ 4 ∧ 0 ≤ dS d w ∧ dS d w ≤ 9 ∧ 0 ≤ K w ∧ K w ≤ 3 ∧ M w = dS d w ∧ M 7 = dH d ∧ 0 ≤ dH d ∧ dH d ≤ 1 ∧ M 5 = dY d ∧ 0 ≤ dY d ∧ dY d ≤ 9 := by
  obtain ⟨⟨g1, g2, g3, g4⟩, ⟨h1, h2, h3, h4, h5, h6, h7, h8, h9, h10⟩, ⟨r1, r2, r3, r4, r5, r6, r7⟩⟩ := h
  have a := h1 w hw1 hw2
  have b := g3 w hw1 hw2
  have c := r1 w hw1 hw2
  rw [Int.zero_add] at c
  exact ⟨g2, a.1, a.2, b.1, b.2, c, r5, h7, h8, r3, h4, h5⟩
theorem cnow {K P U M : Int → Int} {W T w y : Int} {d : DZ} (h : CX K P U W T d M) (hw1 : 0 ≤ w) (hw2 : w < W) (hy1 : 0 ≤ y) (hy2 : y ≤ 9) : f6_comesNow (iI w) (iI y) (iI T) (aI K) (aI P) (aI U) (aI M) = some (iB (br K P U T (dS d) (dH d) w y)) := by
  obtain ⟨a1, a2, a3, a4, a5, a6, a7, a8, a9, a10, a11, a12⟩ := CX_w h hw1 hw2
  rw [comesNow_s h.1.2.2.2 (by omega) (by omega) hw1 (by omega) a4 a5 (by omega) (by omega) hy1 hy2, a7, br_congr a6]
theorem cbr {K P U M : Int → Int} {W T w y : Int} {d : DZ} (h : CX K P U W T d M) (hw1 : 0 ≤ w) (hw2 : w < W) (hy1 : 0 ≤ y) (hy2 : y ≤ 9) : f1_brings (iI w) (iI y) (aI K) (aI P) (aI U) (iI T) (aI (dS d)) (iI (dH d)) = some (iB (br K P U T (dS d) (dH d) w y)) := by
  obtain ⟨a1, a2, a3, a4, a5, a6, a7, a8, a9, a10, a11, a12⟩ := CX_w h hw1 hw2
  exact brings_s h.1.2.2.2 (by omega) (by omega) hw1 (by omega) a4 a5 a8 a9 hy1 hy2
/-! pull, thing -/
theorem op_pull {P U : Int → Int} {T : Int} (hF : FOK P U T) (v : Int32) : Same (f5_pull v (aI P) (aI U) (iI T)) (f6_pull v (iI T) (aI P) (aI U)) := by
  obtain ⟨y, h1, h2, rfl⟩ := iI_of v
  unfold f5_pull f6_pull
  rw [isNoYard_s h1 h2, yard_s h1 h2]
  by_cases c : 0 ≤ y ∧ y ≤ 9
  · rw [decide_eq_false (by omega), decide_eq_true c]
    refine ⟨iI (pl P U T y 15), ?_, ?_⟩
    · rw [pull_s hF c.1 c.2 (by decide) (by decide)]
      simp (disch := omega) only [iI_add, iI_sub, iI_mul, iI_lt, iI_le, iI_eq, iI_lt0, iI_0lt, iI_le0, iI_0le, iI_eq0, iI_div, iI_rem, iI_max, iI_min, iI_abs, ib_iI, aI_get, aI_upd, iB_eq0, iB_eqi0, iB_eqi1, iB_t, iB_f, iB_ok, okB_0, okB_1, nar0, nar1, o2, o4, o6, o20, o36, o140, Option.bind_some, if_true, if_false, if_pos, if_neg, Int.reduceAdd, Int.reduceSub, Int.reduceMul, Int.reduceNeg, Int.zero_add, Int.add_zero]
    · rw [mpull_s hF c.1 c.2 (by decide) (by decide)]
      simp (disch := omega) only [iI_add, iI_sub, iI_mul, iI_lt, iI_le, iI_eq, iI_lt0, iI_0lt, iI_le0, iI_0le, iI_eq0, iI_div, iI_rem, iI_max, iI_min, iI_abs, ib_iI, aI_get, aI_upd, iB_eq0, iB_eqi0, iB_eqi1, iB_t, iB_f, iB_ok, okB_0, okB_1, nar0, nar1, o2, o4, o6, o20, o36, o140, Option.bind_some, if_true, if_false, if_pos, if_neg, Int.reduceAdd, Int.reduceSub, Int.reduceMul, Int.reduceNeg, Int.zero_add, Int.add_zero]
  · rw [decide_eq_true (by omega), decide_eq_false c]
    refine ⟨iI (-2), ?_, ?_⟩
    · simp (disch := omega) only [iI_add, iI_sub, iI_mul, iI_lt, iI_le, iI_eq, iI_lt0, iI_0lt, iI_le0, iI_0le, iI_eq0, iI_div, iI_rem, iI_max, iI_min, iI_abs, ib_iI, aI_get, aI_upd, iB_eq0, iB_eqi0, iB_eqi1, iB_t, iB_f, iB_ok, okB_0, okB_1, nar0, nar1, o2, o4, o6, o20, o36, o140, Option.bind_some, if_true, if_false, if_pos, if_neg, Int.reduceAdd, Int.reduceSub, Int.reduceMul, Int.reduceNeg, Int.zero_add, Int.add_zero]
    · simp (disch := omega) only [iI_add, iI_sub, iI_mul, iI_lt, iI_le, iI_eq, iI_lt0, iI_0lt, iI_le0, iI_0le, iI_eq0, iI_div, iI_rem, iI_max, iI_min, iI_abs, ib_iI, aI_get, aI_upd, iB_eq0, iB_eqi0, iB_eqi1, iB_t, iB_f, iB_ok, okB_0, okB_1, nar0, nar1, o2, o4, o6, o20, o36, o140, Option.bind_some, if_true, if_false, if_pos, if_neg, Int.reduceAdd, Int.reduceSub, Int.reduceMul, Int.reduceNeg, Int.zero_add, Int.add_zero]
theorem op_thing {P U : Int → Int} {T : Int} (hF : FOK P U T) (v w : Int32) : Same (f5_thing v w (aI P) (aI U) (iI T)) (f6_thing v w (iI T) (aI P) (aI U)) := by
  obtain ⟨t, h1, h2, rfl⟩ := iI_of v
  obtain ⟨z, h3, h4, rfl⟩ := iI_of w
  have hT := hF.1
  have hT2 := hF.2.1
  unfold f5_thing f6_thing
  rw [hasThing_s h1 h2 hT hT2, iI_sub, lN0, iI_long (by omega : -2147483648 ≤ T - 1) (by omega), in_s h1 h2 (by decide) (by decide) (by omega) (by omega)]
  by_cases c : 0 ≤ t ∧ t < T
  · rw [decide_eq_true c, decide_eq_true (by omega)]
    by_cases c1 : z = 0
    · refine ⟨iI (P t), ?_, ?_⟩
      · rw [spotOf_s c.1 (by omega)]
        simp (disch := omega) only [iI_add, iI_sub, iI_mul, iI_lt, iI_le, iI_eq, iI_lt0, iI_0lt, iI_le0, iI_0le, iI_eq0, iI_div, iI_rem, iI_max, iI_min, iI_abs, ib_iI, aI_get, aI_upd, iB_eq0, iB_eqi0, iB_eqi1, iB_t, iB_f, iB_ok, okB_0, okB_1, nar0, nar1, o2, o4, o6, o20, o36, o140, Option.bind_some, if_true, if_false, if_pos, if_neg, Int.reduceAdd, Int.reduceSub, Int.reduceMul, Int.reduceNeg, Int.zero_add, Int.add_zero]
      · simp (disch := omega) only [iI_add, iI_sub, iI_mul, iI_lt, iI_le, iI_eq, iI_lt0, iI_0lt, iI_le0, iI_0le, iI_eq0, iI_div, iI_rem, iI_max, iI_min, iI_abs, ib_iI, aI_get, aI_upd, iB_eq0, iB_eqi0, iB_eqi1, iB_t, iB_f, iB_ok, okB_0, okB_1, nar0, nar1, o2, o4, o6, o20, o36, o140, Option.bind_some, if_true, if_false, if_pos, if_neg, Int.reduceAdd, Int.reduceSub, Int.reduceMul, Int.reduceNeg, Int.zero_add, Int.add_zero]
    · by_cases c2 : z = 1
      · refine ⟨iI (U t), ?_, ?_⟩
        · rw [tugOf_s c.1 (by omega)]
          simp (disch := omega) only [iI_add, iI_sub, iI_mul, iI_lt, iI_le, iI_eq, iI_lt0, iI_0lt, iI_le0, iI_0le, iI_eq0, iI_div, iI_rem, iI_max, iI_min, iI_abs, ib_iI, aI_get, aI_upd, iB_eq0, iB_eqi0, iB_eqi1, iB_t, iB_f, iB_ok, okB_0, okB_1, nar0, nar1, o2, o4, o6, o20, o36, o140, Option.bind_some, if_true, if_false, if_pos, if_neg, Int.reduceAdd, Int.reduceSub, Int.reduceMul, Int.reduceNeg, Int.zero_add, Int.add_zero]
        · simp (disch := omega) only [iI_add, iI_sub, iI_mul, iI_lt, iI_le, iI_eq, iI_lt0, iI_0lt, iI_le0, iI_0le, iI_eq0, iI_div, iI_rem, iI_max, iI_min, iI_abs, ib_iI, aI_get, aI_upd, iB_eq0, iB_eqi0, iB_eqi1, iB_t, iB_f, iB_ok, okB_0, okB_1, nar0, nar1, o2, o4, o6, o20, o36, o140, Option.bind_some, if_true, if_false, if_pos, if_neg, Int.reduceAdd, Int.reduceSub, Int.reduceMul, Int.reduceNeg, Int.zero_add, Int.add_zero]
      · refine ⟨iI (-2), ?_, ?_⟩
        · simp (disch := omega) only [iI_add, iI_sub, iI_mul, iI_lt, iI_le, iI_eq, iI_lt0, iI_0lt, iI_le0, iI_0le, iI_eq0, iI_div, iI_rem, iI_max, iI_min, iI_abs, ib_iI, aI_get, aI_upd, iB_eq0, iB_eqi0, iB_eqi1, iB_t, iB_f, iB_ok, okB_0, okB_1, nar0, nar1, o2, o4, o6, o20, o36, o140, Option.bind_some, if_true, if_false, if_pos, if_neg, Int.reduceAdd, Int.reduceSub, Int.reduceMul, Int.reduceNeg, Int.zero_add, Int.add_zero]
        · simp (disch := omega) only [iI_add, iI_sub, iI_mul, iI_lt, iI_le, iI_eq, iI_lt0, iI_0lt, iI_le0, iI_0le, iI_eq0, iI_div, iI_rem, iI_max, iI_min, iI_abs, ib_iI, aI_get, aI_upd, iB_eq0, iB_eqi0, iB_eqi1, iB_t, iB_f, iB_ok, okB_0, okB_1, nar0, nar1, o2, o4, o6, o20, o36, o140, Option.bind_some, if_true, if_false, if_pos, if_neg, Int.reduceAdd, Int.reduceSub, Int.reduceMul, Int.reduceNeg, Int.zero_add, Int.add_zero]
  · rw [decide_eq_false c, decide_eq_false (by omega)]
    refine ⟨iI (-1), ?_, ?_⟩
    · simp (disch := omega) only [iI_add, iI_sub, iI_mul, iI_lt, iI_le, iI_eq, iI_lt0, iI_0lt, iI_le0, iI_0le, iI_eq0, iI_div, iI_rem, iI_max, iI_min, iI_abs, ib_iI, aI_get, aI_upd, iB_eq0, iB_eqi0, iB_eqi1, iB_t, iB_f, iB_ok, okB_0, okB_1, nar0, nar1, o2, o4, o6, o20, o36, o140, Option.bind_some, if_true, if_false, if_pos, if_neg, Int.reduceAdd, Int.reduceSub, Int.reduceMul, Int.reduceNeg, Int.zero_add, Int.add_zero]
    · simp (disch := omega) only [iI_add, iI_sub, iI_mul, iI_lt, iI_le, iI_eq, iI_lt0, iI_0lt, iI_le0, iI_0le, iI_eq0, iI_div, iI_rem, iI_max, iI_min, iI_abs, ib_iI, aI_get, aI_upd, iB_eq0, iB_eqi0, iB_eqi1, iB_t, iB_f, iB_ok, okB_0, okB_1, nar0, nar1, o2, o4, o6, o20, o36, o140, Option.bind_some, if_true, if_false, if_pos, if_neg, Int.reduceAdd, Int.reduceSub, Int.reduceMul, Int.reduceNeg, Int.zero_add, Int.add_zero]
/-! comes -/
theorem op_comes {K P U M : Int → Int} {W T : Int} {d : DZ} (h : CX K P U W T d M) (v1 v2 : Int32) : Same (f5_comes v1 v2 (aI K) (aI P) (aI U) (iI W) (iI T) (aI (dS d)) (iI (dH d))) (f6_comes v1 v2 (iI W) (iI T) (aI K) (aI P) (aI U) (aI M)) := by
  obtain ⟨w, h1, h2, rfl⟩ := iI_of v1
  obtain ⟨y, h3, h4, rfl⟩ := iI_of v2
  have hW := h.1.1
  have hW2 := h.1.2.1
  unfold f5_comes f6_comes
  rw [hasWord_s h1 h2 hW hW2, isWord_s h1 h2 hW hW2, isNoYard_s h3 h4, yard_s h3 h4]
  by_cases c : 0 ≤ w ∧ w < W
  · rw [decide_eq_true c]
    by_cases cy : 0 ≤ y ∧ y ≤ 9
    · rw [decide_eq_false (by omega), decide_eq_true cy, cnow h c.1 c.2 cy.1 cy.2, cbr h c.1 c.2 cy.1 cy.2]
      cases br K P U T (dS d) (dH d) w y with
      | true => exact ⟨iI 1, by decide, by decide⟩
      | false => exact ⟨iI 0, by decide, by decide⟩
    · rw [decide_eq_true (by omega), decide_eq_false cy]
      exact ⟨iI (-2), by simp (disch := omega) only [iI_add, iI_sub, iI_mul, iI_lt, iI_le, iI_eq, iI_lt0, iI_0lt, iI_le0, iI_0le, iI_eq0, iI_div, iI_rem, iI_max, iI_min, iI_abs, ib_iI, aI_get, aI_upd, iB_eq0, iB_eqi0, iB_eqi1, iB_t, iB_f, iB_ok, okB_0, okB_1, nar0, nar1, o2, o4, o6, o20, o36, o140, Option.bind_some, if_true, if_false, if_pos, if_neg, Int.reduceAdd, Int.reduceSub, Int.reduceMul, Int.reduceNeg, Int.zero_add, Int.add_zero], by simp (disch := omega) only [iI_add, iI_sub, iI_mul, iI_lt, iI_le, iI_eq, iI_lt0, iI_0lt, iI_le0, iI_0le, iI_eq0, iI_div, iI_rem, iI_max, iI_min, iI_abs, ib_iI, aI_get, aI_upd, iB_eq0, iB_eqi0, iB_eqi1, iB_t, iB_f, iB_ok, okB_0, okB_1, nar0, nar1, o2, o4, o6, o20, o36, o140, Option.bind_some, if_true, if_false, if_pos, if_neg, Int.reduceAdd, Int.reduceSub, Int.reduceMul, Int.reduceNeg, Int.zero_add, Int.add_zero]⟩
  · rw [decide_eq_false c]
    exact ⟨iI (-1), by simp (disch := omega) only [iI_add, iI_sub, iI_mul, iI_lt, iI_le, iI_eq, iI_lt0, iI_0lt, iI_le0, iI_0le, iI_eq0, iI_div, iI_rem, iI_max, iI_min, iI_abs, ib_iI, aI_get, aI_upd, iB_eq0, iB_eqi0, iB_eqi1, iB_t, iB_f, iB_ok, okB_0, okB_1, nar0, nar1, o2, o4, o6, o20, o36, o140, Option.bind_some, if_true, if_false, if_pos, if_neg, Int.reduceAdd, Int.reduceSub, Int.reduceMul, Int.reduceNeg, Int.zero_add, Int.add_zero], by simp (disch := omega) only [iI_add, iI_sub, iI_mul, iI_lt, iI_le, iI_eq, iI_lt0, iI_0lt, iI_le0, iI_0le, iI_eq0, iI_div, iI_rem, iI_max, iI_min, iI_abs, ib_iI, aI_get, aI_upd, iB_eq0, iB_eqi0, iB_eqi1, iB_t, iB_f, iB_ok, okB_0, okB_1, nar0, nar1, o2, o4, o6, o20, o36, o140, Option.bind_some, if_true, if_false, if_pos, if_neg, Int.reduceAdd, Int.reduceSub, Int.reduceMul, Int.reduceNeg, Int.zero_add, Int.add_zero]⟩
/-! FAR -/
def farN (f : Int → Bool) : Nat → Int
  | 0 => -9
  | t + 1 => if f (t : Int) = true then (t : Int) else farN f t
theorem farN_b (f : Int → Bool) : ∀ t : Nat, -9 ≤ farN f t ∧ farN f t ≤ (t : Int) := by
  intro t
  induction t with
  | zero => exact ⟨Int.le_refl _, show (-9 : Int) ≤ 0 by decide⟩
  | succ t ih =>
    unfold farN
    split <;> omega
theorem L_far {K P U M : Int → Int} {W T w : Int} {d : DZ} (h : CX K P U W T d M) (hw1 : 0 ≤ w) (hw2 : w < W) : ∀ (t n : Nat), t ≤ 10 → t < n → l5_farOf_3 (fun _ => some (iI (-9))) (iI w) (aI K) (aI P) (aI U) (iI T) (aI (dS d)) (iI (dH d)) n (iI ((t : Int) - 1)) = some (iI (farN (br K P U T (dS d) (dH d) w) t)) := by
  intro t
  induction t with
  | zero =>
    intro n h1 h2
    obtain ⟨n, rfl⟩ : ∃ q, n = q + 1 := ⟨n - 1, by omega⟩
    rw [l5_farOf_3]
    simp (disch := omega) only [iI_add, iI_sub, iI_mul, iI_lt, iI_le, iI_eq, iI_lt0, iI_0lt, iI_le0, iI_0le, iI_eq0, iI_div, iI_rem, iI_max, iI_min, iI_abs, ib_iI, aI_get, aI_upd, iB_eq0, iB_eqi0, iB_eqi1, iB_t, iB_f, iB_ok, okB_0, okB_1, nar0, nar1, o2, o4, o6, o20, o36, o140, Option.bind_some, if_true, if_false, if_pos, if_neg, Int.reduceAdd, Int.reduceSub, Int.reduceMul, Int.reduceNeg, Int.zero_add, Int.add_zero]
    rfl
  | succ t ih =>
    intro n h1 h2
    obtain ⟨n, rfl⟩ : ∃ q, n = q + 1 := ⟨n - 1, by omega⟩
    have ih2 := ih n (by omega) (by omega)
    rw [l5_farOf_3, show ((t + 1 : Nat) : Int) - 1 = (t : Int) by omega, cbr h hw1 hw2 (by omega) (by omega), farN]
    cases br K P U T (dS d) (dH d) w (t : Int) with
    | true => simp (disch := omega) only [iI_add, iI_sub, iI_mul, iI_lt, iI_le, iI_eq, iI_lt0, iI_0lt, iI_le0, iI_0le, iI_eq0, iI_div, iI_rem, iI_max, iI_min, iI_abs, ib_iI, aI_get, aI_upd, iB_eq0, iB_eqi0, iB_eqi1, iB_t, iB_f, iB_ok, okB_0, okB_1, nar0, nar1, o2, o4, o6, o20, o36, o140, Option.bind_some, if_true, if_false, if_pos, if_neg, Int.reduceAdd, Int.reduceSub, Int.reduceMul, Int.reduceNeg, Int.zero_add, Int.add_zero]
    | false =>
      rw [if_neg (by decide : ¬ (false = true)), ← ih2]
      simp (disch := omega) only [iI_add, iI_sub, iI_mul, iI_lt, iI_le, iI_eq, iI_lt0, iI_0lt, iI_le0, iI_0le, iI_eq0, iI_div, iI_rem, iI_max, iI_min, iI_abs, ib_iI, aI_get, aI_upd, iB_eq0, iB_eqi0, iB_eqi1, iB_t, iB_f, iB_ok, okB_0, okB_1, nar0, nar1, o2, o4, o6, o20, o36, o140, Option.bind_some, if_true, if_false, if_pos, if_neg, Int.reduceAdd, Int.reduceSub, Int.reduceMul, Int.reduceNeg, Int.zero_add, Int.add_zero]
      rfl
theorem far_s {K P U M : Int → Int} {W T w : Int} {d : DZ} (h : CX K P U W T d M) (hw1 : 0 ≤ w) (hw2 : w < W) : f5_farOf (iI w) (aI K) (aI P) (aI U) (iI T) (aI (dS d)) (iI (dH d)) = some (iI (farN (br K P U T (dS d) (dH d) w) 10)) := by
  unfold f5_farOf
  exact L_far h hw1 hw2 10 FU (by omega) (by unfold FU; omega)
theorem L_mfar {K P U M : Int → Int} {W T w : Int} {d : DZ} (h : CX K P U W T d M) (hw1 : 0 ≤ w) (hw2 : w < W) (k : Int32 → Int32 → Option Int32) : ∀ (j t n : Nat), t + j = 10 → j < n → l6_farOf_5 k (iI w) (iI T) (aI K) (aI P) (aI U) (aI M) n (iI (farN (br K P U T (dS d) (dH d) w) t)) (iI (t : Int)) = k (iI (farN (br K P U T (dS d) (dH d) w) 10)) (iI 10) := by
  intro j
  induction j with
  | zero =>
    intro t n h1 h2
    obtain ⟨n, rfl⟩ : ∃ q, n = q + 1 := ⟨n - 1, by omega⟩
    obtain rfl : t = 10 := by omega
    rw [l6_farOf_5, show ((10 : Nat) : Int) = 10 from rfl]
    simp (disch := omega) only [iI_add, iI_sub, iI_mul, iI_lt, iI_le, iI_eq, iI_lt0, iI_0lt, iI_le0, iI_0le, iI_eq0, iI_div, iI_rem, iI_max, iI_min, iI_abs, ib_iI, aI_get, aI_upd, iB_eq0, iB_eqi0, iB_eqi1, iB_t, iB_f, iB_ok, okB_0, okB_1, nar0, nar1, o2, o4, o6, o20, o36, o140, Option.bind_some, if_true, if_false, if_pos, if_neg, Int.reduceAdd, Int.reduceSub, Int.reduceMul, Int.reduceNeg, Int.zero_add, Int.add_zero]
  | succ j ih =>
    intro t n h1 h2
    obtain ⟨n, rfl⟩ : ∃ q, n = q + 1 := ⟨n - 1, by omega⟩
    have ih2 := ih (t + 1) n (by omega) (by omega)
    rw [farN] at ih2
    rw [l6_farOf_5, cnow h hw1 hw2 (by omega) (by omega)]
    cases hb : br K P U T (dS d) (dH d) w (t : Int) with
    | true =>
      rw [hb, if_pos rfl] at ih2
      simp (disch := omega) only [iI_add, iI_sub, iI_mul, iI_lt, iI_le, iI_eq, iI_lt0, iI_0lt, iI_le0, iI_0le, iI_eq0, iI_div, iI_rem, iI_max, iI_min, iI_abs, ib_iI, aI_get, aI_upd, iB_eq0, iB_eqi0, iB_eqi1, iB_t, iB_f, iB_ok, okB_0, okB_1, nar0, nar1, o2, o4, o6, o20, o36, o140, Option.bind_some, if_true, if_false, if_pos, if_neg, Int.reduceAdd, Int.reduceSub, Int.reduceMul, Int.reduceNeg, Int.zero_add, Int.add_zero]
      exact ih2
    | false =>
      rw [hb, if_neg (by decide : ¬ (false = true))] at ih2
      simp (disch := omega) only [iI_add, iI_sub, iI_mul, iI_lt, iI_le, iI_eq, iI_lt0, iI_0lt, iI_le0, iI_0le, iI_eq0, iI_div, iI_rem, iI_max, iI_min, iI_abs, ib_iI, aI_get, aI_upd, iB_eq0, iB_eqi0, iB_eqi1, iB_t, iB_f, iB_ok, okB_0, okB_1, nar0, nar1, o2, o4, o6, o20, o36, o140, Option.bind_some, if_true, if_false, if_pos, if_neg, Int.reduceAdd, Int.reduceSub, Int.reduceMul, Int.reduceNeg, Int.zero_add, Int.add_zero]
      exact ih2
theorem mfar_s {K P U M : Int → Int} {W T w : Int} {d : DZ} (h : CX K P U W T d M) (hw1 : 0 ≤ w) (hw2 : w < W) : f6_farOf (iI w) (iI T) (aI K) (aI P) (aI U) (aI M) = some (iI (farN (br K P U T (dS d) (dH d) w) 10)) := by
  unfold f6_farOf
  exact L_mfar h hw1 hw2 (fun v2 _ => some v2) 10 0 FU (by omega) (by unfold FU; omega)
/-! word -/
theorem op_word {K P U M : Int → Int} {W T : Int} {d : DZ} (h : CX K P U W T d M) (v1 v2 : Int32) : Same (f5_word v1 v2 (aI K) (aI P) (aI U) (iI W) (iI T) (aI (dS d)) (iI (dY d)) (iI (dH d))) (f6_word v1 v2 (iI W) (iI T) (aI K) (aI P) (aI U) (aI M)) := by
  obtain ⟨w, h1, h2, rfl⟩ := iI_of v1
  obtain ⟨z, h3, h4, rfl⟩ := iI_of v2
  have hW := h.1.1
  have hW2 := h.1.2.1
  unfold f5_word f6_word
  rw [hasWord_s h1 h2 hW hW2, isWord_s h1 h2 hW hW2]
  by_cases c : 0 ≤ w ∧ w < W
  · rw [decide_eq_true c]
    obtain ⟨a1, a2, a3, a4, a5, a6, a7, a8, a9, a10, a11, a12⟩ := CX_w h c.1 c.2
    have hw4 : w < 4 := by omega
    have q5 : aI M (iI 5).toNatClampNeg = iI (dY d) := by rw [aI_get (by decide) (by decide), a10]
    have qw : aI M (iI w).toNatClampNeg = iI (dS d w) := by rw [aI_get c.1 (by omega), a6]
    by_cases c0 : z = 0
    · refine ⟨iI (dS d w), ?_, ?_⟩
      · rw [strengthOf_s c.1 hw4]
        simp (disch := omega) only [iI_add, iI_sub, iI_mul, iI_lt, iI_le, iI_eq, iI_lt0, iI_0lt, iI_le0, iI_0le, iI_eq0, iI_div, iI_rem, iI_max, iI_min, iI_abs, ib_iI, aI_get, aI_upd, iB_eq0, iB_eqi0, iB_eqi1, iB_t, iB_f, iB_ok, okB_0, okB_1, nar0, nar1, o2, o4, o6, o20, o36, o140, Option.bind_some, if_true, if_false, if_pos, if_neg, Int.reduceAdd, Int.reduceSub, Int.reduceMul, Int.reduceNeg, Int.zero_add, Int.add_zero]
      · simp (disch := omega) only [iI_add, iI_sub, iI_mul, iI_lt, iI_le, iI_eq, iI_lt0, iI_0lt, iI_le0, iI_0le, iI_eq0, iI_div, iI_rem, iI_max, iI_min, iI_abs, ib_iI, aI_get, aI_upd, iB_eq0, iB_eqi0, iB_eqi1, iB_t, iB_f, iB_ok, okB_0, okB_1, nar0, nar1, o2, o4, o6, o20, o36, o140, Option.bind_some, if_true, if_false, if_pos, if_neg, Int.reduceAdd, Int.reduceSub, Int.reduceMul, Int.reduceNeg, Int.zero_add, Int.add_zero, a6]
    · by_cases c1 : z = 1
      · refine ⟨iI (K w), ?_, ?_⟩
        · rw [kindOf_s c.1 hw4]
          simp (disch := omega) only [iI_add, iI_sub, iI_mul, iI_lt, iI_le, iI_eq, iI_lt0, iI_0lt, iI_le0, iI_0le, iI_eq0, iI_div, iI_rem, iI_max, iI_min, iI_abs, ib_iI, aI_get, aI_upd, iB_eq0, iB_eqi0, iB_eqi1, iB_t, iB_f, iB_ok, okB_0, okB_1, nar0, nar1, o2, o4, o6, o20, o36, o140, Option.bind_some, if_true, if_false, if_pos, if_neg, Int.reduceAdd, Int.reduceSub, Int.reduceMul, Int.reduceNeg, Int.zero_add, Int.add_zero]
        · simp (disch := omega) only [iI_add, iI_sub, iI_mul, iI_lt, iI_le, iI_eq, iI_lt0, iI_0lt, iI_le0, iI_0le, iI_eq0, iI_div, iI_rem, iI_max, iI_min, iI_abs, ib_iI, aI_get, aI_upd, iB_eq0, iB_eqi0, iB_eqi1, iB_t, iB_f, iB_ok, okB_0, okB_1, nar0, nar1, o2, o4, o6, o20, o36, o140, Option.bind_some, if_true, if_false, if_pos, if_neg, Int.reduceAdd, Int.reduceSub, Int.reduceMul, Int.reduceNeg, Int.zero_add, Int.add_zero]
      · by_cases c2 : z = 2
        · refine ⟨iI (pw K (dH d) (dS d w) w (dY d)), ?_, ?_⟩
          · rw [powerOf_s (by omega) (by omega) c.1 hw4 a4 a5 a8 a9 a11 a12]
            simp (disch := omega) only [iI_add, iI_sub, iI_mul, iI_lt, iI_le, iI_eq, iI_lt0, iI_0lt, iI_le0, iI_0le, iI_eq0, iI_div, iI_rem, iI_max, iI_min, iI_abs, ib_iI, aI_get, aI_upd, iB_eq0, iB_eqi0, iB_eqi1, iB_t, iB_f, iB_ok, okB_0, okB_1, nar0, nar1, o2, o4, o6, o20, o36, o140, Option.bind_some, if_true, if_false, if_pos, if_neg, Int.reduceAdd, Int.reduceSub, Int.reduceMul, Int.reduceNeg, Int.zero_add, Int.add_zero]
          · rw [qw, q5, mpower_s (by omega) (by omega) c.1 hw4 a4 a5 (by omega) (by omega) a11 a12, a7]
            simp (disch := omega) only [iI_add, iI_sub, iI_mul, iI_lt, iI_le, iI_eq, iI_lt0, iI_0lt, iI_le0, iI_0le, iI_eq0, iI_div, iI_rem, iI_max, iI_min, iI_abs, ib_iI, aI_get, aI_upd, iB_eq0, iB_eqi0, iB_eqi1, iB_t, iB_f, iB_ok, okB_0, okB_1, nar0, nar1, o2, o4, o6, o20, o36, o140, Option.bind_some, if_true, if_false, if_pos, if_neg, Int.reduceAdd, Int.reduceSub, Int.reduceMul, Int.reduceNeg, Int.zero_add, Int.add_zero]
        · by_cases c3 : z = 3
          · rw [q5, cnow h c.1 c.2 a11 a12, cbr h c.1 c.2 a11 a12]
            refine ⟨iB (br K P U T (dS d) (dH d) w (dY d)), ?_, ?_⟩
            · simp (disch := omega) only [iI_add, iI_sub, iI_mul, iI_lt, iI_le, iI_eq, iI_lt0, iI_0lt, iI_le0, iI_0le, iI_eq0, iI_div, iI_rem, iI_max, iI_min, iI_abs, ib_iI, aI_get, aI_upd, iB_eq0, iB_eqi0, iB_eqi1, iB_t, iB_f, iB_ok, okB_0, okB_1, nar0, nar1, o2, o4, o6, o20, o36, o140, Option.bind_some, if_true, if_false, if_pos, if_neg, Int.reduceAdd, Int.reduceSub, Int.reduceMul, Int.reduceNeg, Int.zero_add, Int.add_zero, asNumber_s]
            · cases br K P U T (dS d) (dH d) w (dY d) with
              | true => simp (disch := omega) only [iI_add, iI_sub, iI_mul, iI_lt, iI_le, iI_eq, iI_lt0, iI_0lt, iI_le0, iI_0le, iI_eq0, iI_div, iI_rem, iI_max, iI_min, iI_abs, ib_iI, aI_get, aI_upd, iB_eq0, iB_eqi0, iB_eqi1, iB_t, iB_f, iB_ok, okB_0, okB_1, nar0, nar1, o2, o4, o6, o20, o36, o140, Option.bind_some, if_true, if_false, if_pos, if_neg, Int.reduceAdd, Int.reduceSub, Int.reduceMul, Int.reduceNeg, Int.zero_add, Int.add_zero]
              | false => simp (disch := omega) only [iI_add, iI_sub, iI_mul, iI_lt, iI_le, iI_eq, iI_lt0, iI_0lt, iI_le0, iI_0le, iI_eq0, iI_div, iI_rem, iI_max, iI_min, iI_abs, ib_iI, aI_get, aI_upd, iB_eq0, iB_eqi0, iB_eqi1, iB_t, iB_f, iB_ok, okB_0, okB_1, nar0, nar1, o2, o4, o6, o20, o36, o140, Option.bind_some, if_true, if_false, if_pos, if_neg, Int.reduceAdd, Int.reduceSub, Int.reduceMul, Int.reduceNeg, Int.zero_add, Int.add_zero]
          · by_cases c4 : z = 4
            · rw [far_s h c.1 c.2, mfar_s h c.1 c.2]
              refine ⟨iI (farN (br K P U T (dS d) (dH d) w) 10), ?_, ?_⟩
              · simp (disch := omega) only [iI_add, iI_sub, iI_mul, iI_lt, iI_le, iI_eq, iI_lt0, iI_0lt, iI_le0, iI_0le, iI_eq0, iI_div, iI_rem, iI_max, iI_min, iI_abs, ib_iI, aI_get, aI_upd, iB_eq0, iB_eqi0, iB_eqi1, iB_t, iB_f, iB_ok, okB_0, okB_1, nar0, nar1, o2, o4, o6, o20, o36, o140, Option.bind_some, if_true, if_false, if_pos, if_neg, Int.reduceAdd, Int.reduceSub, Int.reduceMul, Int.reduceNeg, Int.zero_add, Int.add_zero]
              · simp (disch := omega) only [iI_add, iI_sub, iI_mul, iI_lt, iI_le, iI_eq, iI_lt0, iI_0lt, iI_le0, iI_0le, iI_eq0, iI_div, iI_rem, iI_max, iI_min, iI_abs, ib_iI, aI_get, aI_upd, iB_eq0, iB_eqi0, iB_eqi1, iB_t, iB_f, iB_ok, okB_0, okB_1, nar0, nar1, o2, o4, o6, o20, o36, o140, Option.bind_some, if_true, if_false, if_pos, if_neg, Int.reduceAdd, Int.reduceSub, Int.reduceMul, Int.reduceNeg, Int.zero_add, Int.add_zero]
            · by_cases c5 : z = 5
              · unfold f5_spentOf
                rw [strengthOf_s c.1 hw4, kindOf_s c.1 hw4, wears_s c.1 hw4 a4 a5, qw]
                by_cases ck : K w = 2
                · rw [if_pos ck, ck]
                  refine ⟨iI ((dS d w + 1) / 2), ?_, ?_⟩
                  · simp (disch := omega) only [iI_add, iI_sub, iI_mul, iI_lt, iI_le, iI_eq, iI_lt0, iI_0lt, iI_le0, iI_0le, iI_eq0, iI_div, iI_rem, iI_max, iI_min, iI_abs, ib_iI, aI_get, aI_upd, iB_eq0, iB_eqi0, iB_eqi1, iB_t, iB_f, iB_ok, okB_0, okB_1, nar0, nar1, o2, o4, o6, o20, o36, o140, Option.bind_some, if_true, if_false, if_pos, if_neg, Int.reduceAdd, Int.reduceSub, Int.reduceMul, Int.reduceNeg, Int.zero_add, Int.add_zero]
                  · simp (disch := omega) only [iI_add, iI_sub, iI_mul, iI_lt, iI_le, iI_eq, iI_lt0, iI_0lt, iI_le0, iI_0le, iI_eq0, iI_div, iI_rem, iI_max, iI_min, iI_abs, ib_iI, aI_get, aI_upd, iB_eq0, iB_eqi0, iB_eqi1, iB_t, iB_f, iB_ok, okB_0, okB_1, nar0, nar1, o2, o4, o6, o20, o36, o140, Option.bind_some, if_true, if_false, if_pos, if_neg, Int.reduceAdd, Int.reduceSub, Int.reduceMul, Int.reduceNeg, Int.zero_add, Int.add_zero]
                    rw [show dS d w + 2 - 1 = dS d w + 1 by omega]
                · rw [if_neg ck]
                  refine ⟨iI (dS d w), ?_, ?_⟩
                  · simp (disch := omega) only [iI_add, iI_sub, iI_mul, iI_lt, iI_le, iI_eq, iI_lt0, iI_0lt, iI_le0, iI_0le, iI_eq0, iI_div, iI_rem, iI_max, iI_min, iI_abs, ib_iI, aI_get, aI_upd, iB_eq0, iB_eqi0, iB_eqi1, iB_t, iB_f, iB_ok, okB_0, okB_1, nar0, nar1, o2, o4, o6, o20, o36, o140, Option.bind_some, if_true, if_false, if_pos, if_neg, Int.reduceAdd, Int.reduceSub, Int.reduceMul, Int.reduceNeg, Int.zero_add, Int.add_zero]
                  · simp (disch := omega) only [iI_add, iI_sub, iI_mul, iI_lt, iI_le, iI_eq, iI_lt0, iI_0lt, iI_le0, iI_0le, iI_eq0, iI_div, iI_rem, iI_max, iI_min, iI_abs, ib_iI, aI_get, aI_upd, iB_eq0, iB_eqi0, iB_eqi1, iB_t, iB_f, iB_ok, okB_0, okB_1, nar0, nar1, o2, o4, o6, o20, o36, o140, Option.bind_some, if_true, if_false, if_pos, if_neg, Int.reduceAdd, Int.reduceSub, Int.reduceMul, Int.reduceNeg, Int.zero_add, Int.add_zero]
                    rw [show (dS d w + 1 - 1) / 1 = dS d w by omega]
              · refine ⟨iI (-2), ?_, ?_⟩
                · simp (disch := omega) only [iI_add, iI_sub, iI_mul, iI_lt, iI_le, iI_eq, iI_lt0, iI_0lt, iI_le0, iI_0le, iI_eq0, iI_div, iI_rem, iI_max, iI_min, iI_abs, ib_iI, aI_get, aI_upd, iB_eq0, iB_eqi0, iB_eqi1, iB_t, iB_f, iB_ok, okB_0, okB_1, nar0, nar1, o2, o4, o6, o20, o36, o140, Option.bind_some, if_true, if_false, if_pos, if_neg, Int.reduceAdd, Int.reduceSub, Int.reduceMul, Int.reduceNeg, Int.zero_add, Int.add_zero]
                · simp (disch := omega) only [iI_add, iI_sub, iI_mul, iI_lt, iI_le, iI_eq, iI_lt0, iI_0lt, iI_le0, iI_0le, iI_eq0, iI_div, iI_rem, iI_max, iI_min, iI_abs, ib_iI, aI_get, aI_upd, iB_eq0, iB_eqi0, iB_eqi1, iB_t, iB_f, iB_ok, okB_0, okB_1, nar0, nar1, o2, o4, o6, o20, o36, o140, Option.bind_some, if_true, if_false, if_pos, if_neg, Int.reduceAdd, Int.reduceSub, Int.reduceMul, Int.reduceNeg, Int.zero_add, Int.add_zero]
  · rw [decide_eq_false c]
    exact ⟨iI (-1), by simp (disch := omega) only [iI_add, iI_sub, iI_mul, iI_lt, iI_le, iI_eq, iI_lt0, iI_0lt, iI_le0, iI_0le, iI_eq0, iI_div, iI_rem, iI_max, iI_min, iI_abs, ib_iI, aI_get, aI_upd, iB_eq0, iB_eqi0, iB_eqi1, iB_t, iB_f, iB_ok, okB_0, okB_1, nar0, nar1, o2, o4, o6, o20, o36, o140, Option.bind_some, if_true, if_false, if_pos, if_neg, Int.reduceAdd, Int.reduceSub, Int.reduceMul, Int.reduceNeg, Int.zero_add, Int.add_zero], by simp (disch := omega) only [iI_add, iI_sub, iI_mul, iI_lt, iI_le, iI_eq, iI_lt0, iI_0lt, iI_le0, iI_0le, iI_eq0, iI_div, iI_rem, iI_max, iI_min, iI_abs, ib_iI, aI_get, aI_upd, iB_eq0, iB_eqi0, iB_eqi1, iB_t, iB_f, iB_ok, okB_0, okB_1, nar0, nar1, o2, o4, o6, o20, o36, o140, Option.bind_some, if_true, if_false, if_pos, if_neg, Int.reduceAdd, Int.reduceSub, Int.reduceMul, Int.reduceNeg, Int.zero_add, Int.add_zero]⟩
