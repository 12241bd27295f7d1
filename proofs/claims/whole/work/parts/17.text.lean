/-! THE TEXT -/
def TOK (X : Int → Int) (n : Int) : Prop := 0 ≤ n ∧ n ≤ 36 ∧ ∀ j : Int, 0 ≤ j → j < 36 → 0 ≤ X j ∧ X j ≤ 255
theorem op_write {X : Int → Int} {n : Int} (h : TOK X n) (v : Int32) : ∃ (r : Int32) (X2 : Int → Int) (n2 : Int), f5_write v (aI X) (iI n) = some (r, aI X2, iI n2) ∧ f6_write v (iI n) (aI X) = some (r, iI n2, aI X2) ∧ TOK X2 n2 := by
  obtain ⟨z, h1, h2, rfl⟩ := iI_of v
  obtain ⟨t1, t2, t3⟩ := h
  unfold f5_write f6_write
  rw [lN0, lL255, in_s h1 h2 (by decide) (by decide) (by decide) (by decide)]
  by_cases c : 0 ≤ z ∧ z ≤ 255
  · rw [decide_eq_true c]
    by_cases c2 : n < 36
    · refine ⟨iI (n + 1), uz X n z, n + 1, ?_, ?_, by omega, by omega, fun j h3 h4 => ?_⟩
      · unfold f4_isFull f4_append
        simp (disch := omega) only [iI_add, iI_sub, iI_mul, iI_lt, iI_le, iI_eq, iI_lt0, iI_0lt, iI_le0, iI_0le, iI_eq0, iI_div, iI_rem, iI_max, iI_min, iI_abs, ib_iI, aI_get, aI_upd, iB_eq0, iB_eqi0, iB_eqi1, iB_t, iB_f, iB_ok, okB_0, okB_1, nar0, nar1, o2, o4, o6, o20, o36, o140, Option.bind_some, if_true, if_false, if_pos, if_neg, Int.reduceAdd, Int.reduceSub, Int.reduceMul, Int.reduceNeg, Int.zero_add, Int.add_zero]
      · simp (disch := omega) only [iI_add, iI_sub, iI_mul, iI_lt, iI_le, iI_eq, iI_lt0, iI_0lt, iI_le0, iI_0le, iI_eq0, iI_div, iI_rem, iI_max, iI_min, iI_abs, ib_iI, aI_get, aI_upd, iB_eq0, iB_eqi0, iB_eqi1, iB_t, iB_f, iB_ok, okB_0, okB_1, nar0, nar1, o2, o4, o6, o20, o36, o140, Option.bind_some, if_true, if_false, if_pos, if_neg, Int.reduceAdd, Int.reduceSub, Int.reduceMul, Int.reduceNeg, Int.zero_add, Int.add_zero]
      · unfold uz
        split
        · exact c
        · exact t3 j h3 h4
    · refine ⟨iI (-4), X, n, ?_, ?_, t1, t2, t3⟩
      · unfold f4_isFull f4_append
        simp (disch := omega) only [iI_add, iI_sub, iI_mul, iI_lt, iI_le, iI_eq, iI_lt0, iI_0lt, iI_le0, iI_0le, iI_eq0, iI_div, iI_rem, iI_max, iI_min, iI_abs, ib_iI, aI_get, aI_upd, iB_eq0, iB_eqi0, iB_eqi1, iB_t, iB_f, iB_ok, okB_0, okB_1, nar0, nar1, o2, o4, o6, o20, o36, o140, Option.bind_some, if_true, if_false, if_pos, if_neg, Int.reduceAdd, Int.reduceSub, Int.reduceMul, Int.reduceNeg, Int.zero_add, Int.add_zero]
      · simp (disch := omega) only [iI_add, iI_sub, iI_mul, iI_lt, iI_le, iI_eq, iI_lt0, iI_0lt, iI_le0, iI_0le, iI_eq0, iI_div, iI_rem, iI_max, iI_min, iI_abs, ib_iI, aI_get, aI_upd, iB_eq0, iB_eqi0, iB_eqi1, iB_t, iB_f, iB_ok, okB_0, okB_1, nar0, nar1, o2, o4, o6, o20, o36, o140, Option.bind_some, if_true, if_false, if_pos, if_neg, Int.reduceAdd, Int.reduceSub, Int.reduceMul, Int.reduceNeg, Int.zero_add, Int.add_zero]
  · rw [decide_eq_false c]
    refine ⟨iI (-2), X, n, ?_, ?_, t1, t2, t3⟩
    · by_cases c2 : z < 0
      · simp (disch := omega) only [iI_add, iI_sub, iI_mul, iI_lt, iI_le, iI_eq, iI_lt0, iI_0lt, iI_le0, iI_0le, iI_eq0, iI_div, iI_rem, iI_max, iI_min, iI_abs, ib_iI, aI_get, aI_upd, iB_eq0, iB_eqi0, iB_eqi1, iB_t, iB_f, iB_ok, okB_0, okB_1, nar0, nar1, o2, o4, o6, o20, o36, o140, Option.bind_some, if_true, if_false, if_pos, if_neg, Int.reduceAdd, Int.reduceSub, Int.reduceMul, Int.reduceNeg, Int.zero_add, Int.add_zero]
      · simp (disch := omega) only [iI_add, iI_sub, iI_mul, iI_lt, iI_le, iI_eq, iI_lt0, iI_0lt, iI_le0, iI_0le, iI_eq0, iI_div, iI_rem, iI_max, iI_min, iI_abs, ib_iI, aI_get, aI_upd, iB_eq0, iB_eqi0, iB_eqi1, iB_t, iB_f, iB_ok, okB_0, okB_1, nar0, nar1, o2, o4, o6, o20, o36, o140, Option.bind_some, if_true, if_false, if_pos, if_neg, Int.reduceAdd, Int.reduceSub, Int.reduceMul, Int.reduceNeg, Int.zero_add, Int.add_zero]
    · simp (disch := omega) only [iI_add, iI_sub, iI_mul, iI_lt, iI_le, iI_eq, iI_lt0, iI_0lt, iI_le0, iI_0le, iI_eq0, iI_div, iI_rem, iI_max, iI_min, iI_abs, ib_iI, aI_get, aI_upd, iB_eq0, iB_eqi0, iB_eqi1, iB_t, iB_f, iB_ok, okB_0, okB_1, nar0, nar1, o2, o4, o6, o20, o36, o140, Option.bind_some, if_true, if_false, if_pos, if_neg, Int.reduceAdd, Int.reduceSub, Int.reduceMul, Int.reduceNeg, Int.zero_add, Int.add_zero]
theorem letterAt_s {X : Int → Int} {p : Int} (h1 : 0 ≤ p) (h2 : p < 36) : f4_letterAt (iI p) (aI X) = some (iI (X p)) := by
  unfold f4_letterAt
  simp (disch := omega) only [iI_add, iI_sub, iI_mul, iI_lt, iI_le, iI_eq, iI_lt0, iI_0lt, iI_le0, iI_0le, iI_eq0, iI_div, iI_rem, iI_max, iI_min, iI_abs, ib_iI, aI_get, aI_upd, iB_eq0, iB_eqi0, iB_eqi1, iB_t, iB_f, iB_ok, okB_0, okB_1, nar0, nar1, o2, o4, o6, o20, o36, o140, Option.bind_some, if_true, if_false, if_pos, if_neg, Int.reduceAdd, Int.reduceSub, Int.reduceMul, Int.reduceNeg, Int.zero_add, Int.add_zero]
theorem figureAt_s {X : Int → Int} {p : Int} (h1 : 0 ≤ p) (h2 : p < 36) : f4_figureAt (iI p) (aI X) = some (iI (X p - 48)) := by
  unfold f4_figureAt
  rw [letterAt_s h1 h2]
  simp (disch := omega) only [iI_add, iI_sub, iI_mul, iI_lt, iI_le, iI_eq, iI_lt0, iI_0lt, iI_le0, iI_0le, iI_eq0, iI_div, iI_rem, iI_max, iI_min, iI_abs, ib_iI, aI_get, aI_upd, iB_eq0, iB_eqi0, iB_eqi1, iB_t, iB_f, iB_ok, okB_0, okB_1, nar0, nar1, o2, o4, o6, o20, o36, o140, Option.bind_some, if_true, if_false, if_pos, if_neg, Int.reduceAdd, Int.reduceSub, Int.reduceMul, Int.reduceNeg, Int.zero_add, Int.add_zero]
def endB (a b : Int) : Bool := if a = 87 then decide (48 ≤ b ∧ b ≤ 51) else if a = 84 then decide (49 ≤ b ∧ b ≤ 57) else decide (48 ≤ b ∧ b ≤ 57)
theorem two_s {b lo hi : Int} (hb1 : 0 ≤ b) (hb2 : b ≤ 255) (h1 : 0 ≤ lo) (h2 : lo ≤ 255) (h3 : 0 ≤ hi) (h4 : hi ≤ 255) : (if iI b < iI lo then some (iI 0) else (if iI hi < iI b then some (iI 0) else some (iI 1))) = some (iB (decide (lo ≤ b ∧ b ≤ hi))) := by
  by_cases c1 : b < lo
  · rw [decide_eq_false (by omega)]
    simp (disch := omega) only [iI_add, iI_sub, iI_mul, iI_lt, iI_le, iI_eq, iI_lt0, iI_0lt, iI_le0, iI_0le, iI_eq0, iI_div, iI_rem, iI_max, iI_min, iI_abs, ib_iI, aI_get, aI_upd, iB_eq0, iB_eqi0, iB_eqi1, iB_t, iB_f, iB_ok, okB_0, okB_1, nar0, nar1, o2, o4, o6, o20, o36, o140, Option.bind_some, if_true, if_false, if_pos, if_neg, Int.reduceAdd, Int.reduceSub, Int.reduceMul, Int.reduceNeg, Int.zero_add, Int.add_zero]
  · by_cases c2 : hi < b
    · rw [decide_eq_false (by omega)]
      simp (disch := omega) only [iI_add, iI_sub, iI_mul, iI_lt, iI_le, iI_eq, iI_lt0, iI_0lt, iI_le0, iI_0le, iI_eq0, iI_div, iI_rem, iI_max, iI_min, iI_abs, ib_iI, aI_get, aI_upd, iB_eq0, iB_eqi0, iB_eqi1, iB_t, iB_f, iB_ok, okB_0, okB_1, nar0, nar1, o2, o4, o6, o20, o36, o140, Option.bind_some, if_true, if_false, if_pos, if_neg, Int.reduceAdd, Int.reduceSub, Int.reduceMul, Int.reduceNeg, Int.zero_add, Int.add_zero]
    · rw [decide_eq_true (by omega)]
      simp (disch := omega) only [iI_add, iI_sub, iI_mul, iI_lt, iI_le, iI_eq, iI_lt0, iI_0lt, iI_le0, iI_0le, iI_eq0, iI_div, iI_rem, iI_max, iI_min, iI_abs, ib_iI, aI_get, aI_upd, iB_eq0, iB_eqi0, iB_eqi1, iB_t, iB_f, iB_ok, okB_0, okB_1, nar0, nar1, o2, o4, o6, o20, o36, o140, Option.bind_some, if_true, if_false, if_pos, if_neg, Int.reduceAdd, Int.reduceSub, Int.reduceMul, Int.reduceNeg, Int.zero_add, Int.add_zero]
theorem endsPart_s {a b : Int} (ha1 : 0 ≤ a) (ha2 : a ≤ 255) (hb1 : 0 ≤ b) (hb2 : b ≤ 255) : f4_endsPart (iI a) (iI b) = some (iB (endB a b)) := by
  unfold f4_endsPart endB
  rw [two_s hb1 hb2 (by decide) (by decide) (by decide) (by decide), two_s hb1 hb2 (by decide) (by decide) (by decide) (by decide), two_s hb1 hb2 (by decide) (by decide) (by decide) (by decide)]
  by_cases c1 : a = 87
  · rw [if_pos c1]
    simp (disch := omega) only [iI_add, iI_sub, iI_mul, iI_lt, iI_le, iI_eq, iI_lt0, iI_0lt, iI_le0, iI_0le, iI_eq0, iI_div, iI_rem, iI_max, iI_min, iI_abs, ib_iI, aI_get, aI_upd, iB_eq0, iB_eqi0, iB_eqi1, iB_t, iB_f, iB_ok, okB_0, okB_1, nar0, nar1, o2, o4, o6, o20, o36, o140, Option.bind_some, if_true, if_false, if_pos, if_neg, Int.reduceAdd, Int.reduceSub, Int.reduceMul, Int.reduceNeg, Int.zero_add, Int.add_zero]
  · rw [if_neg c1]
    by_cases c2 : a = 84
    · rw [if_pos c2]
      simp (disch := omega) only [iI_add, iI_sub, iI_mul, iI_lt, iI_le, iI_eq, iI_lt0, iI_0lt, iI_le0, iI_0le, iI_eq0, iI_div, iI_rem, iI_max, iI_min, iI_abs, ib_iI, aI_get, aI_upd, iB_eq0, iB_eqi0, iB_eqi1, iB_t, iB_f, iB_ok, okB_0, okB_1, nar0, nar1, o2, o4, o6, o20, o36, o140, Option.bind_some, if_true, if_false, if_pos, if_neg, Int.reduceAdd, Int.reduceSub, Int.reduceMul, Int.reduceNeg, Int.zero_add, Int.add_zero]
    · rw [if_neg c2]
      simp (disch := omega) only [iI_add, iI_sub, iI_mul, iI_lt, iI_le, iI_eq, iI_lt0, iI_0lt, iI_le0, iI_0le, iI_eq0, iI_div, iI_rem, iI_max, iI_min, iI_abs, ib_iI, aI_get, aI_upd, iB_eq0, iB_eqi0, iB_eqi1, iB_t, iB_f, iB_ok, okB_0, okB_1, nar0, nar1, o2, o4, o6, o20, o36, o140, Option.bind_some, if_true, if_false, if_pos, if_neg, Int.reduceAdd, Int.reduceSub, Int.reduceMul, Int.reduceNeg, Int.zero_add, Int.add_zero]
def fitB (X : Int → Int) (p w t : Int) : Bool := if p = 0 then decide (X 0 = 68) else if p % 3 = 0 then decide ((X p = 87 ∧ w < 4) ∨ (X p = 84 ∧ t < 4)) else if p % 3 = 1 then decide (48 ≤ X p ∧ X p ≤ 57) else endB (X (p - 2)) (X p)
theorem fits_s {X : Int → Int} {n p w t : Int} (h : TOK X n) (hp1 : 0 ≤ p) (hp2 : p < 36) (hw1 : 0 ≤ w) (hw2 : w ≤ 100) (ht1 : 0 ≤ t) (ht2 : t ≤ 100) : f4_fits (iI p) (iI w) (iI t) (aI X) = some (iB (fitB X p w t)) := by
  have hx := h.2.2 p hp1 hp2
  unfold f4_fits fitB
  rw [letterAt_s hp1 hp2, iI_rem hp1 (by omega) (by decide) (by decide), Option.bind_some]
  by_cases c0 : p = 0
  · rw [if_pos c0]
    subst c0
    by_cases c1 : X 0 = 68
    · rw [decide_eq_true c1]
      simp (disch := omega) only [iI_add, iI_sub, iI_mul, iI_lt, iI_le, iI_eq, iI_lt0, iI_0lt, iI_le0, iI_0le, iI_eq0, iI_div, iI_rem, iI_max, iI_min, iI_abs, ib_iI, aI_get, aI_upd, iB_eq0, iB_eqi0, iB_eqi1, iB_t, iB_f, iB_ok, okB_0, okB_1, nar0, nar1, o2, o4, o6, o20, o36, o140, Option.bind_some, if_true, if_false, if_pos, if_neg, Int.reduceAdd, Int.reduceSub, Int.reduceMul, Int.reduceNeg, Int.zero_add, Int.add_zero]
    · rw [decide_eq_false c1]
      simp (disch := omega) only [iI_add, iI_sub, iI_mul, iI_lt, iI_le, iI_eq, iI_lt0, iI_0lt, iI_le0, iI_0le, iI_eq0, iI_div, iI_rem, iI_max, iI_min, iI_abs, ib_iI, aI_get, aI_upd, iB_eq0, iB_eqi0, iB_eqi1, iB_t, iB_f, iB_ok, okB_0, okB_1, nar0, nar1, o2, o4, o6, o20, o36, o140, Option.bind_some, if_true, if_false, if_pos, if_neg, Int.reduceAdd, Int.reduceSub, Int.reduceMul, Int.reduceNeg, Int.zero_add, Int.add_zero]
  · rw [if_neg c0]
    by_cases c1 : p % 3 = 0
    · rw [if_pos c1]
      by_cases c2 : X p = 87
      · by_cases c3 : w < 4
        · rw [decide_eq_true (Or.inl ⟨c2, c3⟩)]
          simp (disch := omega) only [iI_add, iI_sub, iI_mul, iI_lt, iI_le, iI_eq, iI_lt0, iI_0lt, iI_le0, iI_0le, iI_eq0, iI_div, iI_rem, iI_max, iI_min, iI_abs, ib_iI, aI_get, aI_upd, iB_eq0, iB_eqi0, iB_eqi1, iB_t, iB_f, iB_ok, okB_0, okB_1, nar0, nar1, o2, o4, o6, o20, o36, o140, Option.bind_some, if_true, if_false, if_pos, if_neg, Int.reduceAdd, Int.reduceSub, Int.reduceMul, Int.reduceNeg, Int.zero_add, Int.add_zero]
        · rw [decide_eq_false (by omega)]
          simp (disch := omega) only [iI_add, iI_sub, iI_mul, iI_lt, iI_le, iI_eq, iI_lt0, iI_0lt, iI_le0, iI_0le, iI_eq0, iI_div, iI_rem, iI_max, iI_min, iI_abs, ib_iI, aI_get, aI_upd, iB_eq0, iB_eqi0, iB_eqi1, iB_t, iB_f, iB_ok, okB_0, okB_1, nar0, nar1, o2, o4, o6, o20, o36, o140, Option.bind_some, if_true, if_false, if_pos, if_neg, Int.reduceAdd, Int.reduceSub, Int.reduceMul, Int.reduceNeg, Int.zero_add, Int.add_zero]
      · by_cases c3 : X p = 84
        · by_cases c4 : t < 4
          · rw [decide_eq_true (Or.inr ⟨c3, c4⟩)]
            simp (disch := omega) only [iI_add, iI_sub, iI_mul, iI_lt, iI_le, iI_eq, iI_lt0, iI_0lt, iI_le0, iI_0le, iI_eq0, iI_div, iI_rem, iI_max, iI_min, iI_abs, ib_iI, aI_get, aI_upd, iB_eq0, iB_eqi0, iB_eqi1, iB_t, iB_f, iB_ok, okB_0, okB_1, nar0, nar1, o2, o4, o6, o20, o36, o140, Option.bind_some, if_true, if_false, if_pos, if_neg, Int.reduceAdd, Int.reduceSub, Int.reduceMul, Int.reduceNeg, Int.zero_add, Int.add_zero]
          · rw [decide_eq_false (by omega)]
            simp (disch := omega) only [iI_add, iI_sub, iI_mul, iI_lt, iI_le, iI_eq, iI_lt0, iI_0lt, iI_le0, iI_0le, iI_eq0, iI_div, iI_rem, iI_max, iI_min, iI_abs, ib_iI, aI_get, aI_upd, iB_eq0, iB_eqi0, iB_eqi1, iB_t, iB_f, iB_ok, okB_0, okB_1, nar0, nar1, o2, o4, o6, o20, o36, o140, Option.bind_some, if_true, if_false, if_pos, if_neg, Int.reduceAdd, Int.reduceSub, Int.reduceMul, Int.reduceNeg, Int.zero_add, Int.add_zero]
        · rw [decide_eq_false (by omega)]
          simp (disch := omega) only [iI_add, iI_sub, iI_mul, iI_lt, iI_le, iI_eq, iI_lt0, iI_0lt, iI_le0, iI_0le, iI_eq0, iI_div, iI_rem, iI_max, iI_min, iI_abs, ib_iI, aI_get, aI_upd, iB_eq0, iB_eqi0, iB_eqi1, iB_t, iB_f, iB_ok, okB_0, okB_1, nar0, nar1, o2, o4, o6, o20, o36, o140, Option.bind_some, if_true, if_false, if_pos, if_neg, Int.reduceAdd, Int.reduceSub, Int.reduceMul, Int.reduceNeg, Int.zero_add, Int.add_zero]
    · rw [if_neg c1]
      by_cases c2 : p % 3 = 1
      · rw [if_pos c2, two_s hx.1 hx.2 (by decide) (by decide) (by decide) (by decide)]
        simp (disch := omega) only [iI_add, iI_sub, iI_mul, iI_lt, iI_le, iI_eq, iI_lt0, iI_0lt, iI_le0, iI_0le, iI_eq0, iI_div, iI_rem, iI_max, iI_min, iI_abs, ib_iI, aI_get, aI_upd, iB_eq0, iB_eqi0, iB_eqi1, iB_t, iB_f, iB_ok, okB_0, okB_1, nar0, nar1, o2, o4, o6, o20, o36, o140, Option.bind_some, if_true, if_false, if_pos, if_neg, Int.reduceAdd, Int.reduceSub, Int.reduceMul, Int.reduceNeg, Int.zero_add, Int.add_zero]
      · have hx2 := h.2.2 (p - 2) (by omega) (by omega)
        rw [if_neg c2, iI_sub, letterAt_s (by omega) (by omega), Option.bind_some, endsPart_s hx2.1 hx2.2 hx.1 hx.2, Option.bind_some, if_pos (iB_ok _)]
        simp (disch := omega) only [iI_add, iI_sub, iI_mul, iI_lt, iI_le, iI_eq, iI_lt0, iI_0lt, iI_le0, iI_0le, iI_eq0, iI_div, iI_rem, iI_max, iI_min, iI_abs, ib_iI, aI_get, aI_upd, iB_eq0, iB_eqi0, iB_eqi1, iB_t, iB_f, iB_ok, okB_0, okB_1, nar0, nar1, o2, o4, o6, o20, o36, o140, Option.bind_some, if_true, if_false, if_pos, if_neg, Int.reduceAdd, Int.reduceSub, Int.reduceMul, Int.reduceNeg, Int.zero_add, Int.add_zero]
/-- one letter of the class's loop -/
theorem ff_step {X : Int → Int} {n p w t : Int} (h : TOK X n) (hp1 : 0 ≤ p) (hp2 : p < n) (hw1 : 0 ≤ w) (hw2 : w ≤ 100) (ht1 : 0 ≤ t) (ht2 : t ≤ 100) (k : Int32 → Int32 → Int32 → Option Int32) (N : Nat) : l4_firstFault_6 k (aI X) (iI n) (N + 1) (iI w) (iI t) (iI p) = if fitB X p w t = true then l4_firstFault_6 k (aI X) (iI n) N (iI (if X p = 87 then w + 1 else w)) (iI (if X p = 84 then t + 1 else t)) (iI (p + 1)) else some (iI p) := by
  obtain ⟨t1, t2, t3⟩ := id h
  have hx := t3 p hp1 (by omega)
  rw [l4_firstFault_6, fits_s h hp1 (by omega) hw1 hw2 ht1 ht2, letterAt_s hp1 (by omega)]
  cases fitB X p w t with
  | false =>
    rw [if_neg (by decide : ¬ (false = true))]
    simp (disch := omega) only [iI_add, iI_sub, iI_mul, iI_lt, iI_le, iI_eq, iI_lt0, iI_0lt, iI_le0, iI_0le, iI_eq0, iI_div, iI_rem, iI_max, iI_min, iI_abs, ib_iI, aI_get, aI_upd, iB_eq0, iB_eqi0, iB_eqi1, iB_t, iB_f, iB_ok, okB_0, okB_1, nar0, nar1, o2, o4, o6, o20, o36, o140, Option.bind_some, if_true, if_false, if_pos, if_neg, Int.reduceAdd, Int.reduceSub, Int.reduceMul, Int.reduceNeg, Int.zero_add, Int.add_zero]
  | true =>
    rw [if_pos rfl]
    by_cases c1 : X p = 87
    · simp (disch := omega) only [iI_add, iI_sub, iI_mul, iI_lt, iI_le, iI_eq, iI_lt0, iI_0lt, iI_le0, iI_0le, iI_eq0, iI_div, iI_rem, iI_max, iI_min, iI_abs, ib_iI, aI_get, aI_upd, iB_eq0, iB_eqi0, iB_eqi1, iB_t, iB_f, iB_ok, okB_0, okB_1, nar0, nar1, o2, o4, o6, o20, o36, o140, Option.bind_some, if_true, if_false, if_pos, if_neg, Int.reduceAdd, Int.reduceSub, Int.reduceMul, Int.reduceNeg, Int.zero_add, Int.add_zero]
    · by_cases c2 : X p = 84
      · simp (disch := omega) only [iI_add, iI_sub, iI_mul, iI_lt, iI_le, iI_eq, iI_lt0, iI_0lt, iI_le0, iI_0le, iI_eq0, iI_div, iI_rem, iI_max, iI_min, iI_abs, ib_iI, aI_get, aI_upd, iB_eq0, iB_eqi0, iB_eqi1, iB_t, iB_f, iB_ok, okB_0, okB_1, nar0, nar1, o2, o4, o6, o20, o36, o140, Option.bind_some, if_true, if_false, if_pos, if_neg, Int.reduceAdd, Int.reduceSub, Int.reduceMul, Int.reduceNeg, Int.zero_add, Int.add_zero]
      · simp (disch := omega) only [iI_add, iI_sub, iI_mul, iI_lt, iI_le, iI_eq, iI_lt0, iI_0lt, iI_le0, iI_0le, iI_eq0, iI_div, iI_rem, iI_max, iI_min, iI_abs, ib_iI, aI_get, aI_upd, iB_eq0, iB_eqi0, iB_eqi1, iB_t, iB_f, iB_ok, okB_0, okB_1, nar0, nar1, o2, o4, o6, o20, o36, o140, Option.bind_some, if_true, if_false, if_pos, if_neg, Int.reduceAdd, Int.reduceSub, Int.reduceMul, Int.reduceNeg, Int.zero_add, Int.add_zero]
theorem ff_end {X : Int → Int} {n p w t : Int} (h : TOK X n) (hp1 : n ≤ p) (hp2 : p ≤ 100) (k : Int32 → Int32 → Int32 → Option Int32) (N : Nat) : l4_firstFault_6 k (aI X) (iI n) (N + 1) (iI w) (iI t) (iI p) = k (iI w) (iI t) (iI p) := by
  obtain ⟨t1, t2, t3⟩ := h
  rw [l4_firstFault_6]
  simp (disch := omega) only [iI_add, iI_sub, iI_mul, iI_lt, iI_le, iI_eq, iI_lt0, iI_0lt, iI_le0, iI_0le, iI_eq0, iI_div, iI_rem, iI_max, iI_min, iI_abs, ib_iI, aI_get, aI_upd, iB_eq0, iB_eqi0, iB_eqi1, iB_t, iB_f, iB_ok, okB_0, okB_1, nar0, nar1, o2, o4, o6, o20, o36, o140, Option.bind_some, if_true, if_false, if_pos, if_neg, Int.reduceAdd, Int.reduceSub, Int.reduceMul, Int.reduceNeg, Int.zero_add, Int.add_zero]
/-! the parts, three letters each: the i-th stands at 3i + 3 -/
def cW (X : Int → Int) : Nat → Int
  | 0 => 0
  | i + 1 => if X (3 * (i : Int) + 3) = 87 then cW X i + 1 else cW X i
def cT (X : Int → Int) : Nat → Int
  | 0 => 0
  | i + 1 => if X (3 * (i : Int) + 3) = 87 then cT X i else cT X i + 1
def flN (X : Int → Int) (n : Int) : Nat → Nat → Int
  | 0, _ => -9
  | f + 1, i => if n ≤ 3 * (i : Int) + 3 then -9 else
    if X (3 * (i : Int) + 3) = 87 ∧ cW X i < 4 then
      (if n ≤ 3 * (i : Int) + 4 ∨ ¬ (48 ≤ X (3 * (i : Int) + 4) ∧ X (3 * (i : Int) + 4) ≤ 57) then 3 * (i : Int) + 4 else
       if n ≤ 3 * (i : Int) + 5 ∨ ¬ (48 ≤ X (3 * (i : Int) + 5) ∧ X (3 * (i : Int) + 5) ≤ 51) then 3 * (i : Int) + 5 else flN X n f (i + 1))
    else if X (3 * (i : Int) + 3) = 84 ∧ cT X i < 4 then
      (if n ≤ 3 * (i : Int) + 4 ∨ ¬ (48 ≤ X (3 * (i : Int) + 4) ∧ X (3 * (i : Int) + 4) ≤ 57) then 3 * (i : Int) + 4 else
       if n ≤ 3 * (i : Int) + 5 ∨ ¬ (49 ≤ X (3 * (i : Int) + 5) ∧ X (3 * (i : Int) + 5) ≤ 57) then 3 * (i : Int) + 5 else flN X n f (i + 1))
    else 3 * (i : Int) + 3
/-- the class's word at the text's end -/
def ffK (n : Int) : Int32 → Int32 → Int32 → Option Int32 := fun _ _ _ => (if iI n = 0 then some (iI n) else (if (rmI (iI n) (iI 3)) = 0 then some (iI (-9)) else some (iI n)))
theorem ffK_s {n : Int} (h1 : 0 < n) (h2 : n ≤ 36) (a b c : Int32) : ffK n a b c = some (iI (if n % 3 = 0 then -9 else n)) := by
  unfold ffK
  by_cases c1 : n % 3 = 0
  · rw [if_pos c1]
    simp (disch := omega) only [iI_add, iI_sub, iI_mul, iI_lt, iI_le, iI_eq, iI_lt0, iI_0lt, iI_le0, iI_0le, iI_eq0, iI_div, iI_rem, iI_max, iI_min, iI_abs, ib_iI, aI_get, aI_upd, iB_eq0, iB_eqi0, iB_eqi1, iB_t, iB_f, iB_ok, okB_0, okB_1, nar0, nar1, o2, o4, o6, o20, o36, o140, Option.bind_some, if_true, if_false, if_pos, if_neg, Int.reduceAdd, Int.reduceSub, Int.reduceMul, Int.reduceNeg, Int.zero_add, Int.add_zero]
  · rw [if_neg c1]
    simp (disch := omega) only [iI_add, iI_sub, iI_mul, iI_lt, iI_le, iI_eq, iI_lt0, iI_0lt, iI_le0, iI_0le, iI_eq0, iI_div, iI_rem, iI_max, iI_min, iI_abs, ib_iI, aI_get, aI_upd, iB_eq0, iB_eqi0, iB_eqi1, iB_t, iB_f, iB_ok, okB_0, okB_1, nar0, nar1, o2, o4, o6, o20, o36, o140, Option.bind_some, if_true, if_false, if_pos, if_neg, Int.reduceAdd, Int.reduceSub, Int.reduceMul, Int.reduceNeg, Int.zero_add, Int.add_zero]
theorem L_ff {X : Int → Int} {n : Int} (h : TOK X n) : ∀ (f i N : Nat), 3 * (i : Int) + 3 ≤ n → n ≤ 3 * (i : Int) + 3 * (f : Int) → 0 ≤ cW X i → cW X i ≤ 4 → 0 ≤ cT X i → cT X i ≤ 4 → 3 * f + 3 < N → l4_firstFault_6 (ffK n) (aI X) (iI n) N (iI (cW X i)) (iI (cT X i)) (iI (3 * (i : Int) + 3)) = some (iI (flN X n f i)) := by
  obtain ⟨t1, t2, t3⟩ := id h
  intro f
  induction f with
  | zero =>
    intro i N h1 h2
    omega
  | succ f ih =>
    intro i N h1 h2 w1 w2 u1 u2 hN
    obtain ⟨N, rfl⟩ : ∃ q, N = q + 1 + 1 + 1 := ⟨N - 3, by omega⟩
    have ih2 := ih (i + 1) N
    rw [flN]
    have e0 : 3 * (((i + 1 : Nat) : Int)) + 3 = 3 * (i : Int) + 6 := by omega
    rw [e0] at ih2
    have h3 : (3 * (i : Int) + 3) % 3 = 0 := by omega
    have h4 : (3 * (i : Int) + 4) % 3 = 1 := by omega
    have h5 : (3 * (i : Int) + 5) % 3 = 2 := by omega
    by_cases c0 : n ≤ 3 * (i : Int) + 3
    · rw [if_pos c0, ff_end h c0 (by omega), ffK_s (by omega) t2, if_pos (by omega)]
    · rw [if_neg c0, ff_step h (by omega) (by omega) w1 (by omega) u1 (by omega)]
      have x1 := t3 (3 * (i : Int) + 3) (by omega) (by omega)
      by_cases cw : X (3 * (i : Int) + 3) = 87 ∧ cW X i < 4
      · have f1 : fitB X (3 * (i : Int) + 3) (cW X i) (cT X i) = true := by
          unfold fitB
          rw [if_neg (by omega), if_pos h3]
          exact decide_eq_true (Or.inl cw)
        rw [if_pos f1, if_pos cw, if_pos cw.1, if_neg (by omega)]
        rw [cW, if_pos cw.1, cT, if_pos cw.1] at ih2
        rw [show (3 * (i : Int) + 3 + 1) = 3 * (i : Int) + 4 by omega]
        by_cases c1 : n ≤ 3 * (i : Int) + 4
        · rw [if_pos (Or.inl c1), ff_end h c1 (by omega), ffK_s (by omega) t2, if_neg (by omega), show n = 3 * (i : Int) + 4 by omega]
        · rw [ff_step h (by omega) (by omega) (by omega) (by omega) u1 (by omega)]
          have f2 : fitB X (3 * (i : Int) + 4) (cW X i + 1) (cT X i) = decide (48 ≤ X (3 * (i : Int) + 4) ∧ X (3 * (i : Int) + 4) ≤ 57) := by
            unfold fitB
            rw [if_neg (by omega), if_neg (by omega), if_pos h4]
          rw [f2]
          by_cases c2 : 48 ≤ X (3 * (i : Int) + 4) ∧ X (3 * (i : Int) + 4) ≤ 57
          · rw [decide_eq_true c2, if_pos rfl, if_neg (by omega), if_neg (by omega), if_neg (by omega)]
            rw [show (3 * (i : Int) + 4 + 1) = 3 * (i : Int) + 5 by omega]
            by_cases c3 : n ≤ 3 * (i : Int) + 5
            · rw [if_pos (Or.inl c3), ff_end h c3 (by omega), ffK_s (by omega) t2, if_neg (by omega), show n = 3 * (i : Int) + 5 by omega]
            · rw [ff_step h (by omega) (by omega) (by omega) (by omega) u1 (by omega)]
              have f3 : fitB X (3 * (i : Int) + 5) (cW X i + 1) (cT X i) = decide (48 ≤ X (3 * (i : Int) + 5) ∧ X (3 * (i : Int) + 5) ≤ 51) := by
                unfold fitB endB
                rw [if_neg (by omega), if_neg (by omega), if_neg (by omega), show (3 * (i : Int) + 5 - 2) = 3 * (i : Int) + 3 by omega, if_pos cw.1]
              rw [f3]
              by_cases c4 : 48 ≤ X (3 * (i : Int) + 5) ∧ X (3 * (i : Int) + 5) ≤ 51
              · rw [decide_eq_true c4, if_pos rfl, if_neg (by omega), if_neg (by omega), if_neg (by omega), show (3 * (i : Int) + 5 + 1) = 3 * (i : Int) + 6 by omega]
                exact ih2 (by omega) (by omega) (by omega) (by omega) u1 u2 (by omega)
              · rw [decide_eq_false c4, if_neg (by decide), if_pos (Or.inr c4)]
          · rw [decide_eq_false c2, if_neg (by decide), if_pos (Or.inr c2)]
      · rw [if_neg cw]
        by_cases ct : X (3 * (i : Int) + 3) = 84 ∧ cT X i < 4
        · have f1 : fitB X (3 * (i : Int) + 3) (cW X i) (cT X i) = true := by
            unfold fitB
            rw [if_neg (by omega), if_pos h3]
            exact decide_eq_true (Or.inr ct)
          have n87 : ¬ X (3 * (i : Int) + 3) = 87 := by omega
          rw [if_pos f1, if_pos ct, if_neg n87, if_pos ct.1]
          rw [cW, if_neg n87, cT, if_neg n87] at ih2
          rw [show (3 * (i : Int) + 3 + 1) = 3 * (i : Int) + 4 by omega]
          by_cases c1 : n ≤ 3 * (i : Int) + 4
          · rw [if_pos (Or.inl c1), ff_end h c1 (by omega), ffK_s (by omega) t2, if_neg (by omega), show n = 3 * (i : Int) + 4 by omega]
          · rw [ff_step h (by omega) (by omega) w1 (by omega) (by omega) (by omega)]
            have f2 : fitB X (3 * (i : Int) + 4) (cW X i) (cT X i + 1) = decide (48 ≤ X (3 * (i : Int) + 4) ∧ X (3 * (i : Int) + 4) ≤ 57) := by
              unfold fitB
              rw [if_neg (by omega), if_neg (by omega), if_pos h4]
            rw [f2]
            by_cases c2 : 48 ≤ X (3 * (i : Int) + 4) ∧ X (3 * (i : Int) + 4) ≤ 57
            · rw [decide_eq_true c2, if_pos rfl, if_neg (by omega), if_neg (by omega), if_neg (by omega)]
              rw [show (3 * (i : Int) + 4 + 1) = 3 * (i : Int) + 5 by omega]
              by_cases c3 : n ≤ 3 * (i : Int) + 5
              · rw [if_pos (Or.inl c3), ff_end h c3 (by omega), ffK_s (by omega) t2, if_neg (by omega), show n = 3 * (i : Int) + 5 by omega]
              · rw [ff_step h (by omega) (by omega) w1 (by omega) (by omega) (by omega)]
                have f3 : fitB X (3 * (i : Int) + 5) (cW X i) (cT X i + 1) = decide (49 ≤ X (3 * (i : Int) + 5) ∧ X (3 * (i : Int) + 5) ≤ 57) := by
                  unfold fitB endB
                  rw [if_neg (by omega), if_neg (by omega), if_neg (by omega), show (3 * (i : Int) + 5 - 2) = 3 * (i : Int) + 3 by omega, if_neg n87, if_pos ct.1]
                rw [f3]
                by_cases c4 : 49 ≤ X (3 * (i : Int) + 5) ∧ X (3 * (i : Int) + 5) ≤ 57
                · rw [decide_eq_true c4, if_pos rfl, if_neg (by omega), if_neg (by omega), if_neg (by omega), show (3 * (i : Int) + 5 + 1) = 3 * (i : Int) + 6 by omega]
                  exact ih2 (by omega) (by omega) w1 w2 (by omega) (by omega) (by omega)
                · rw [decide_eq_false c4, if_neg (by decide), if_pos (Or.inr c4)]
            · rw [decide_eq_false c2, if_neg (by decide), if_pos (Or.inr c2)]
        · have f1 : fitB X (3 * (i : Int) + 3) (cW X i) (cT X i) = false := by
            unfold fitB
            rw [if_neg (by omega), if_pos h3]
            exact decide_eq_false (fun q => q.elim cw ct)
          rw [if_neg ct, f1, if_neg (by decide)]
/-- FAULT -/
def flZ (X : Int → Int) (n : Int) : Int := if n = 0 ∨ X 0 ≠ 68 then 0 else if n ≤ 1 ∨ ¬ (48 ≤ X 1 ∧ X 1 ≤ 57) then 1 else if n ≤ 2 ∨ ¬ (48 ≤ X 2 ∧ X 2 ≤ 57) then 2 else flN X n 12 0
theorem firstFault_s {X : Int → Int} {n : Int} (h : TOK X n) : f4_firstFault (aI X) (iI n) = some (iI (flZ X n)) := by
  obtain ⟨t1, t2, t3⟩ := id h
  show l4_firstFault_6 (ffK n) (aI X) (iI n) FU (iI 0) (iI 0) (iI 0) = _
  unfold flZ
  have eF : FU = 19990 + 7 + 1 + 1 + 1 := rfl
  rw [eF]
  by_cases c0 : n = 0
  · rw [if_pos (Or.inl c0), c0, ff_end (by rw [c0] at h; exact h) (by decide) (by decide)]
    decide
  · rw [ff_step h (by omega) (by omega) (by omega) (by omega) (by omega) (by omega)]
    have f1 : fitB X 0 0 0 = decide (X 0 = 68) := rfl
    rw [f1]
    by_cases c1 : X 0 = 68
    · rw [decide_eq_true c1, if_pos rfl, if_neg (by omega), if_neg (by omega), if_neg (by omega), Int.zero_add]
      by_cases c2 : n ≤ 1
      · rw [if_pos (Or.inl c2), ff_end h c2 (by omega), ffK_s (by omega) t2, if_neg (by omega), show n = 1 by omega]
      · rw [ff_step h (by omega) (by omega) (by omega) (by omega) (by omega) (by omega)]
        have f2 : fitB X 1 0 0 = decide (48 ≤ X 1 ∧ X 1 ≤ 57) := rfl
        rw [f2]
        by_cases c3 : 48 ≤ X 1 ∧ X 1 ≤ 57
        · rw [decide_eq_true c3, if_pos rfl, if_neg (by omega), if_neg (by omega), if_neg (by omega), show (1 + 1 : Int) = 2 from rfl]
          by_cases c4 : n ≤ 2
          · rw [if_pos (Or.inl c4), ff_end h c4 (by omega), ffK_s (by omega) t2, if_neg (by omega), show n = 2 by omega]
          · rw [ff_step h (by omega) (by omega) (by omega) (by omega) (by omega) (by omega)]
            have f3 : fitB X 2 0 0 = decide (48 ≤ X 2 ∧ X 2 ≤ 57) := by
              unfold fitB endB
              rw [if_neg (by omega), if_neg (by omega), if_neg (by omega), show (2 - 2 : Int) = 0 from rfl, if_neg (by omega), if_neg (by omega)]
            rw [f3]
            by_cases c5 : 48 ≤ X 2 ∧ X 2 ≤ 57
            · rw [decide_eq_true c5, if_pos rfl, if_neg (by omega), if_neg (by omega), if_neg (by omega)]
              exact L_ff h 12 0 (19990 + 7) (by omega) (by omega) (Int.le_refl _) (show (0 : Int) ≤ 4 by decide) (Int.le_refl _) (show (0 : Int) ≤ 4 by decide) (by omega)
            · rw [decide_eq_false c5, if_neg (by decide), if_pos (Or.inr c5)]
        · rw [decide_eq_false c3, if_neg (by decide), if_pos (Or.inr c3)]
    · rw [decide_eq_false c1, if_neg (by decide), if_pos (Or.inr c1)]
