/-! see, may -/
def SOK (O F C : Int → Int) (S : Int) : Prop := 0 ≤ S ∧ S ≤ 6 ∧ ∀ k : Int, 0 ≤ k → k < S → (0 ≤ O k ∧ O k ≤ 3) ∧ (0 ≤ F k ∧ F k ≤ 9) ∧ (0 ≤ C k ∧ C k ≤ 1)
theorem SOK_0 (O F C : Int → Int) : SOK O F C 0 := ⟨Int.le_refl 0, by decide, fun k k1 k2 => absurd k2 (by omega)⟩
theorem holds_s {k : Int} (h1 : 0 ≤ k) (h2 : k < 6) : f3_holds (iI k) = some (iI 1) := by
  unfold f3_holds
  simp (disch := omega) only [iI_add, iI_sub, iI_mul, iI_lt, iI_le, iI_eq, iI_lt0, iI_0lt, iI_le0, iI_0le, iI_eq0, iI_div, iI_rem, iI_max, iI_min, iI_abs, ib_iI, aI_get, aI_upd, iB_eq0, iB_eqi0, iB_eqi1, iB_t, iB_f, iB_ok, okB_0, okB_1, nar0, nar1, o2, o4, o6, o20, o36, o140, Option.bind_some, if_true, if_false, if_pos, if_neg, Int.reduceAdd, Int.reduceSub, Int.reduceMul, Int.reduceNeg, Int.zero_add, Int.add_zero]
theorem op_see {W : Int} {O F C : Int → Int} {S : Int} (hW : 0 ≤ W) (hW2 : W ≤ 4) (h : SOK O F C S) (v1 v2 v3 : Int32) : ∃ (r : Int32) (O2 F2 C2 : Int → Int) (S2 : Int), SOK O2 F2 C2 S2 ∧ f5_see v1 v2 v3 (iI W) (aI O) (aI F) (aI C) (iI S) = some (r, aI O2, aI F2, aI C2, iI S2) ∧ f6_see v1 v2 v3 (iI W) (iI S) (aI O) (aI F) (aI C) = some (r, iI S2, aI O2, aI F2, aI C2) := by
  obtain ⟨w, w1, w2, rfl⟩ := iI_of v1
  obtain ⟨y, y1, y2, rfl⟩ := iI_of v2
  obtain ⟨z, z1, z2, rfl⟩ := iI_of v3
  obtain ⟨s1, s2, hk⟩ := id h
  unfold f5_see f6_see
  rw [hasWord_s w1 w2 hW hW2, isWord_s w1 w2 hW hW2, isNoYard_s y1 y2, yard_s y1 y2, lN0, lN1, in_s z1 z2 (by decide) (by decide) (by decide) (by decide)]
  by_cases cw : 0 ≤ w ∧ w < W
  · rw [decide_eq_true cw]
    by_cases cy : 0 ≤ y ∧ y ≤ 9
    · rw [decide_eq_true cy, decide_eq_false (by omega)]
      by_cases cz : 0 ≤ z ∧ z ≤ 1
      · rw [decide_eq_true cz]
        by_cases cs : S < 6
        · refine ⟨iI (S + 1), uz O S w, uz F S y, uz C S z, S + 1, ⟨by omega, by omega, fun k k1 k2 => ?_⟩, ?_, ?_⟩
          · by_cases ck : k = S
            · rw [uz_eq ck, uz_eq ck, uz_eq ck]
              omega
            · rw [uz_ne ck, uz_ne ck, uz_ne ck]
              exact hk k k1 (by omega)
          · unfold f3_isFull f3_add
            rw [holds_s s1 cs]
            by_cases c1 : z = 1
            · rw [c1]
              simp (disch := omega) only [iI_add, iI_sub, iI_mul, iI_lt, iI_le, iI_eq, iI_lt0, iI_0lt, iI_le0, iI_0le, iI_eq0, iI_div, iI_rem, iI_max, iI_min, iI_abs, ib_iI, aI_get, aI_upd, iB_eq0, iB_eqi0, iB_eqi1, iB_t, iB_f, iB_ok, okB_0, okB_1, nar0, nar1, o2, o4, o6, o20, o36, o140, Option.bind_some, if_true, if_false, if_pos, if_neg, Int.reduceAdd, Int.reduceSub, Int.reduceMul, Int.reduceNeg, Int.zero_add, Int.add_zero, Bool.true_eq_false]
            · rw [show z = 0 by omega]
              simp (disch := omega) only [iI_add, iI_sub, iI_mul, iI_lt, iI_le, iI_eq, iI_lt0, iI_0lt, iI_le0, iI_0le, iI_eq0, iI_div, iI_rem, iI_max, iI_min, iI_abs, ib_iI, aI_get, aI_upd, iB_eq0, iB_eqi0, iB_eqi1, iB_t, iB_f, iB_ok, okB_0, okB_1, nar0, nar1, o2, o4, o6, o20, o36, o140, Option.bind_some, if_true, if_false, if_pos, if_neg, Int.reduceAdd, Int.reduceSub, Int.reduceMul, Int.reduceNeg, Int.zero_add, Int.add_zero, Bool.true_eq_false]
          · simp (disch := omega) only [iI_add, iI_sub, iI_mul, iI_lt, iI_le, iI_eq, iI_lt0, iI_0lt, iI_le0, iI_0le, iI_eq0, iI_div, iI_rem, iI_max, iI_min, iI_abs, ib_iI, aI_get, aI_upd, iB_eq0, iB_eqi0, iB_eqi1, iB_t, iB_f, iB_ok, okB_0, okB_1, nar0, nar1, o2, o4, o6, o20, o36, o140, Option.bind_some, if_true, if_false, if_pos, if_neg, Int.reduceAdd, Int.reduceSub, Int.reduceMul, Int.reduceNeg, Int.zero_add, Int.add_zero, Bool.true_eq_false]
        · refine ⟨iI (-4), O, F, C, S, h, ?_, ?_⟩
          · unfold f3_isFull
            simp (disch := omega) only [iI_add, iI_sub, iI_mul, iI_lt, iI_le, iI_eq, iI_lt0, iI_0lt, iI_le0, iI_0le, iI_eq0, iI_div, iI_rem, iI_max, iI_min, iI_abs, ib_iI, aI_get, aI_upd, iB_eq0, iB_eqi0, iB_eqi1, iB_t, iB_f, iB_ok, okB_0, okB_1, nar0, nar1, o2, o4, o6, o20, o36, o140, Option.bind_some, if_true, if_false, if_pos, if_neg, Int.reduceAdd, Int.reduceSub, Int.reduceMul, Int.reduceNeg, Int.zero_add, Int.add_zero, Bool.true_eq_false]
          · simp (disch := omega) only [iI_add, iI_sub, iI_mul, iI_lt, iI_le, iI_eq, iI_lt0, iI_0lt, iI_le0, iI_0le, iI_eq0, iI_div, iI_rem, iI_max, iI_min, iI_abs, ib_iI, aI_get, aI_upd, iB_eq0, iB_eqi0, iB_eqi1, iB_t, iB_f, iB_ok, okB_0, okB_1, nar0, nar1, o2, o4, o6, o20, o36, o140, Option.bind_some, if_true, if_false, if_pos, if_neg, Int.reduceAdd, Int.reduceSub, Int.reduceMul, Int.reduceNeg, Int.zero_add, Int.add_zero, Bool.true_eq_false]
      · rw [decide_eq_false cz]
        refine ⟨iI (-2), O, F, C, S, h, ?_, ?_⟩
        · by_cases c1 : z < 0
          · simp (disch := omega) only [iI_add, iI_sub, iI_mul, iI_lt, iI_le, iI_eq, iI_lt0, iI_0lt, iI_le0, iI_0le, iI_eq0, iI_div, iI_rem, iI_max, iI_min, iI_abs, ib_iI, aI_get, aI_upd, iB_eq0, iB_eqi0, iB_eqi1, iB_t, iB_f, iB_ok, okB_0, okB_1, nar0, nar1, o2, o4, o6, o20, o36, o140, Option.bind_some, if_true, if_false, if_pos, if_neg, Int.reduceAdd, Int.reduceSub, Int.reduceMul, Int.reduceNeg, Int.zero_add, Int.add_zero, Bool.true_eq_false]
          · simp (disch := omega) only [iI_add, iI_sub, iI_mul, iI_lt, iI_le, iI_eq, iI_lt0, iI_0lt, iI_le0, iI_0le, iI_eq0, iI_div, iI_rem, iI_max, iI_min, iI_abs, ib_iI, aI_get, aI_upd, iB_eq0, iB_eqi0, iB_eqi1, iB_t, iB_f, iB_ok, okB_0, okB_1, nar0, nar1, o2, o4, o6, o20, o36, o140, Option.bind_some, if_true, if_false, if_pos, if_neg, Int.reduceAdd, Int.reduceSub, Int.reduceMul, Int.reduceNeg, Int.zero_add, Int.add_zero, Bool.true_eq_false]
        · simp (disch := omega) only [iI_add, iI_sub, iI_mul, iI_lt, iI_le, iI_eq, iI_lt0, iI_0lt, iI_le0, iI_0le, iI_eq0, iI_div, iI_rem, iI_max, iI_min, iI_abs, ib_iI, aI_get, aI_upd, iB_eq0, iB_eqi0, iB_eqi1, iB_t, iB_f, iB_ok, okB_0, okB_1, nar0, nar1, o2, o4, o6, o20, o36, o140, Option.bind_some, if_true, if_false, if_pos, if_neg, Int.reduceAdd, Int.reduceSub, Int.reduceMul, Int.reduceNeg, Int.zero_add, Int.add_zero, Bool.true_eq_false]
    · rw [decide_eq_false cy, decide_eq_true (by omega)]
      refine ⟨iI (-2), O, F, C, S, h, ?_, ?_⟩
      · simp (disch := omega) only [iI_add, iI_sub, iI_mul, iI_lt, iI_le, iI_eq, iI_lt0, iI_0lt, iI_le0, iI_0le, iI_eq0, iI_div, iI_rem, iI_max, iI_min, iI_abs, ib_iI, aI_get, aI_upd, iB_eq0, iB_eqi0, iB_eqi1, iB_t, iB_f, iB_ok, okB_0, okB_1, nar0, nar1, o2, o4, o6, o20, o36, o140, Option.bind_some, if_true, if_false, if_pos, if_neg, Int.reduceAdd, Int.reduceSub, Int.reduceMul, Int.reduceNeg, Int.zero_add, Int.add_zero, Bool.true_eq_false]
      · simp (disch := omega) only [iI_add, iI_sub, iI_mul, iI_lt, iI_le, iI_eq, iI_lt0, iI_0lt, iI_le0, iI_0le, iI_eq0, iI_div, iI_rem, iI_max, iI_min, iI_abs, ib_iI, aI_get, aI_upd, iB_eq0, iB_eqi0, iB_eqi1, iB_t, iB_f, iB_ok, okB_0, okB_1, nar0, nar1, o2, o4, o6, o20, o36, o140, Option.bind_some, if_true, if_false, if_pos, if_neg, Int.reduceAdd, Int.reduceSub, Int.reduceMul, Int.reduceNeg, Int.zero_add, Int.add_zero, Bool.true_eq_false]
  · rw [decide_eq_false cw]
    refine ⟨iI (-1), O, F, C, S, h, ?_, ?_⟩
    · simp (disch := omega) only [iI_add, iI_sub, iI_mul, iI_lt, iI_le, iI_eq, iI_lt0, iI_0lt, iI_le0, iI_0le, iI_eq0, iI_div, iI_rem, iI_max, iI_min, iI_abs, ib_iI, aI_get, aI_upd, iB_eq0, iB_eqi0, iB_eqi1, iB_t, iB_f, iB_ok, okB_0, okB_1, nar0, nar1, o2, o4, o6, o20, o36, o140, Option.bind_some, if_true, if_false, if_pos, if_neg, Int.reduceAdd, Int.reduceSub, Int.reduceMul, Int.reduceNeg, Int.zero_add, Int.add_zero]
    · simp (disch := omega) only [iI_add, iI_sub, iI_mul, iI_lt, iI_le, iI_eq, iI_lt0, iI_0lt, iI_le0, iI_0le, iI_eq0, iI_div, iI_rem, iI_max, iI_min, iI_abs, ib_iI, aI_get, aI_upd, iB_eq0, iB_eqi0, iB_eqi1, iB_t, iB_f, iB_ok, okB_0, okB_1, nar0, nar1, o2, o4, o6, o20, o36, o140, Option.bind_some, if_true, if_false, if_pos, if_neg, Int.reduceAdd, Int.reduceSub, Int.reduceMul, Int.reduceNeg, Int.zero_add, Int.add_zero]
/-- whether what is seen from the j-th on would be so -/
def agF (g : Int → Bool) : Nat → Int → Bool
  | 0, _ => true
  | c + 1, j => g j && agF g c (j + 1)
def gS (K P U : Int → Int) (T : Int) (O F C : Int → Int) (w s h : Int) : Int → Bool := fun j => decide (O j ≠ w) || decide (iB (en P U T (pw K h s w (F j)) (F j) 15) = iI (C j))
theorem L_agree {K P U : Int → Int} {W T : Int} {O F C : Int → Int} {S w s h : Int} (hG : GOK K P U W T) (hS : SOK O F C S) (hw1 : 0 ≤ w) (hw2 : w < W) (hs1 : 0 ≤ s) (hs2 : s ≤ 9) (hh1 : 0 ≤ h) (hh2 : h ≤ 1) : ∀ (c : Nat) (j : Int) (N : Nat), j + (c : Int) = S → 0 ≤ j → c < N → l3_agree_3 (fun _ => some (iI 1)) (iI w) (iI s) (iI h) (aI O) (aI F) (aI C) (iI S) (aI K) (aI P) (aI U) (iI T) N (iI j) = some (iB (agF (gS K P U T O F C w s h) c j)) := by
  obtain ⟨s1, s2, hk⟩ := id hS
  obtain ⟨g1, g2, g3, g4⟩ := id hG
  have kw := g3 w hw1 hw2
  intro c
  induction c with
  | zero =>
    intro j N h1 h2 h3
    obtain ⟨N, rfl⟩ : ∃ q, N = q + 1 := ⟨N - 1, by omega⟩
    obtain rfl : j = S := by omega
    rw [l3_agree_3, agF]
    simp (disch := omega) only [iI_add, iI_sub, iI_mul, iI_lt, iI_le, iI_eq, iI_lt0, iI_0lt, iI_le0, iI_0le, iI_eq0, iI_div, iI_rem, iI_max, iI_min, iI_abs, ib_iI, aI_get, aI_upd, iB_eq0, iB_eqi0, iB_eqi1, iB_t, iB_f, iB_ok, okB_0, okB_1, nar0, nar1, o2, o4, o6, o20, o36, o140, Option.bind_some, if_true, if_false, if_pos, if_neg, Int.reduceAdd, Int.reduceSub, Int.reduceMul, Int.reduceNeg, Int.zero_add, Int.add_zero]
  | succ c ih =>
    intro j N h1 h2 h3
    obtain ⟨N, rfl⟩ : ∃ q, N = q + 1 := ⟨N - 1, by omega⟩
    have ih2 := ih (j + 1) N (by omega) (by omega) (by omega)
    obtain ⟨k1, k2, k3⟩ := hk j h2 (by omega)
    rw [l3_agree_3, agF, if_neg (by rw [iI_le (by omega) (by omega) (by omega) (by omega)]; omega), holds_s h2 (by omega), Option.bind_some, if_neg (by decide), ib_iI h2 (by omega) (by decide), if_pos rfl, aI_get h2 (by omega), aI_get h2 (by omega), aI_get h2 (by omega), powerWith_s (by omega) (by omega) hw1 (by omega) kw.1 kw.2 hh1 hh2 k2.1 k2.2]
    have hp : -200 ≤ pw K h s w (F j) ∧ pw K h s w (F j) ≤ 200 := by
      unfold pw
      split <;> omega
    rw [if_pos rfl, Option.bind_some, if_pos rfl, isEnough_s g4 hp.1 hp.2 k2.1 k2.2 (by decide) (by decide), Option.bind_some, if_pos rfl, iI_add, ih2]
    unfold gS
    by_cases co : O j = w
    · rw [if_pos (by rw [co]), decide_eq_false (by omega), Bool.false_or]
      by_cases ce : iB (en P U T (pw K h s w (F j)) (F j) 15) = iI (C j)
      · rw [if_pos ce, decide_eq_true ce, Bool.true_and]
      · rw [if_neg ce, decide_eq_false ce, Bool.false_and]
        rfl
    · rw [if_neg (by rw [iI_eq (by omega) (by omega) (by omega) (by omega)]; exact co), decide_eq_true co, Bool.true_or, Bool.true_and]
theorem L_fits {K P U M : Int → Int} {W T : Int} {O F C : Int → Int} {S w s : Int} (k : Int32 → Int32 → Option Int32) (hG : GOK K P U W T) (hS : SOK O F C S) (hw1 : 0 ≤ w) (hw2 : w < W) (hs1 : 0 ≤ s) (hs2 : s ≤ 9) (hh1 : 0 ≤ M 7) (hh2 : M 7 ≤ 1) : ∀ (c : Nat) (j : Int) (N : Nat) (b : Bool), j + (c : Int) = S → 0 ≤ j → c < N → l6_may_26 k (iI w) (iI s) (iI T) (iI S) (aI K) (aI P) (aI U) (aI M) (aI O) (aI F) (aI C) N (iB b) (iI j) = k (iB (b && agF (gS K P U T O F C w s (M 7)) c j)) (iI S) := by
  obtain ⟨s1, s2, hk⟩ := id hS
  obtain ⟨g1, g2, g3, g4⟩ := id hG
  have kw := g3 w hw1 hw2
  intro c
  induction c with
  | zero =>
    intro j N b h1 h2 h3
    obtain ⟨N, rfl⟩ : ∃ q, N = q + 1 := ⟨N - 1, by omega⟩
    obtain rfl : j = S := by omega
    rw [l6_may_26, agF, Bool.and_true]
    simp (disch := omega) only [iI_add, iI_sub, iI_mul, iI_lt, iI_le, iI_eq, iI_lt0, iI_0lt, iI_le0, iI_0le, iI_eq0, iI_div, iI_rem, iI_max, iI_min, iI_abs, ib_iI, aI_get, aI_upd, iB_eq0, iB_eqi0, iB_eqi1, iB_t, iB_f, iB_ok, okB_0, okB_1, nar0, nar1, o2, o4, o6, o20, o36, o140, Option.bind_some, if_true, if_false, if_pos, if_neg, Int.reduceAdd, Int.reduceSub, Int.reduceMul, Int.reduceNeg, Int.zero_add, Int.add_zero]
  | succ c ih =>
    intro j N b h1 h2 h3
    obtain ⟨N, rfl⟩ : ∃ q, N = q + 1 := ⟨N - 1, by omega⟩
    have ih2 := fun b => ih (j + 1) N b (by omega) (by omega) (by omega)
    obtain ⟨k1, k2, k3⟩ := hk j h2 (by omega)
    have it := ih2 true
    have if_ := ih2 false
    rw [iB_t, Bool.true_and] at it
    rw [iB_f, Bool.false_and] at if_
    have hj : ¬ (iI S ≤ iI j) := by rw [iI_le (by omega) (by omega) (by omega) (by omega)]; omega
    rw [l6_may_26, agF, if_neg hj, iI_add]
    cases b with
    | false =>
      rw [if_pos (by decide), if_, Bool.false_and]
    | true =>
      rw [if_neg (by decide), ib_iI h2 (by omega) (by decide), if_pos rfl, aI_get h2 (by omega), aI_get h2 (by omega), aI_get h2 (by omega), comesBy_s g4 (by omega) (by omega) hw1 (by omega) kw.1 kw.2 hh1 hh2 k2.1 k2.2 (by decide) (by decide), Bool.true_and, it, if_]
      rw [if_pos rfl, Option.bind_some, if_pos rfl]
      unfold gS
      by_cases co : O j = w
      · rw [if_pos (by rw [co]), decide_eq_false (by omega), Bool.false_or]
        by_cases c1 : C j = 1
        · rw [c1, if_pos rfl]
          cases en P U T (pw K (M 7) s w (F j)) (F j) 15 with
          | true => rw [if_pos (by decide), decide_eq_true (by decide), Bool.true_and]
          | false => rw [if_neg (by decide), decide_eq_false (by decide), Bool.false_and]
        · rw [show C j = 0 by omega, if_neg (by decide)]
          cases en P U T (pw K (M 7) s w (F j)) (F j) 15 with
          | true => rw [if_neg (by decide), decide_eq_false (by decide), Bool.false_and]
          | false => rw [if_pos (by decide), decide_eq_true (by decide), Bool.true_and]
      · rw [if_neg (by rw [iI_eq (by omega) (by omega) (by omega) (by omega)]; exact co), decide_eq_true co, Bool.true_or, Bool.true_and]
/-- the set of strengths -/
def mayA (G : Int → Bool) : Nat → Int → Int32 → Int32
  | 0, _, z => z
  | c + 1, s, z => mayA G c (s + 1) (if G s = true then z ||| ((iI 1) <<< (iI s &&& 31)) else z)
theorem L_may5 {K P U : Int → Int} {W T : Int} {O F C : Int → Int} {S w h : Int} (hG : GOK K P U W T) (hS : SOK O F C S) (hw1 : 0 ≤ w) (hw2 : w < W) (hh1 : 0 ≤ h) (hh2 : h ≤ 1) : ∀ (c : Nat) (s : Int) (N : Nat) (z : Int32), s + (c : Int) = 10 → 0 ≤ s → c < N → l5_may_17 (fun v2 v3 => some v2) (iI w) (aI K) (aI P) (aI U) (iI T) (iI h) (aI O) (aI F) (aI C) (iI S) N z (iI s) = some (mayA (fun s => agF (gS K P U T O F C w s h) S.toNat 0) c s z) := by
  have hS2 := hS.2.1
  have hS1 := hS.1
  intro c
  induction c with
  | zero =>
    intro s N z h1 h2 h3
    obtain ⟨N, rfl⟩ : ∃ q, N = q + 1 := ⟨N - 1, by omega⟩
    obtain rfl : s = 10 := by omega
    rw [l5_may_17, if_pos (by decide)]
    rfl
  | succ c ih =>
    intro s N z h1 h2 h3
    obtain ⟨N, rfl⟩ : ∃ q, N = q + 1 := ⟨N - 1, by omega⟩
    have ih2 := fun z => ih (s + 1) N z (by omega) (by omega) (by omega)
    rw [l5_may_17, if_neg (by rw [iI_lt (by decide) (by decide) (by omega) (by omega)]; omega), iI_add, mayA]
    unfold f3_agree
    rw [L_agree hG hS hw1 hw2 h2 (by omega) hh1 hh2 S.toNat 0 FU (by omega) (by decide) (by unfold FU; omega), Option.bind_some, ih2, ih2]
    cases agF (gS K P U T O F C w s h) S.toNat 0 with
    | true => rw [if_neg (by decide), if_pos rfl]
    | false => rw [if_pos (by decide), if_neg (by decide)]
theorem L_may6 {K P U M : Int → Int} {W T : Int} {O F C : Int → Int} {S w : Int} (hG : GOK K P U W T) (hS : SOK O F C S) (hw1 : 0 ≤ w) (hw2 : w < W) (hh1 : 0 ≤ M 7) (hh2 : M 7 ≤ 1) : ∀ (c : Nat) (s : Int) (N : Nat) (z : Int32), s + (c : Int) = 10 → 0 ≤ s → c < N → l6_may_14 (fun v2 v3 => some v2) (iI w) (iI T) (iI S) (aI K) (aI P) (aI U) (aI M) (aI O) (aI F) (aI C) N z (iI s) = some (mayA (fun s => agF (gS K P U T O F C w s (M 7)) S.toNat 0) c s z) := by
  have hS2 := hS.2.1
  have hS1 := hS.1
  intro c
  induction c with
  | zero =>
    intro s N z h1 h2 h3
    obtain ⟨N, rfl⟩ : ∃ q, N = q + 1 := ⟨N - 1, by omega⟩
    obtain rfl : s = 10 := by omega
    rw [l6_may_14, if_pos (by decide)]
    rfl
  | succ c ih =>
    intro s N z h1 h2 h3
    obtain ⟨N, rfl⟩ : ∃ q, N = q + 1 := ⟨N - 1, by omega⟩
    have ih2 := fun z => ih (s + 1) N z (by omega) (by omega) (by omega)
    have e0 : z ||| iI 0 = z := by
      rw [← iI_zero]
      exact Int32.or_zero
    rw [l6_may_14, if_neg (by rw [iI_le (by decide) (by decide) (by omega) (by omega)]; omega), iI_add, mayA, show iI 1 = iB true from rfl, L_fits _ hG hS hw1 hw2 h2 (by omega) hh1 hh2 S.toNat 0 FU true (by omega) (by decide) (by unfold FU; omega), Bool.true_and, e0, ih2, ih2]
    cases agF (gS K P U T O F C w s (M 7)) S.toNat 0 with
    | true => rw [if_neg (by decide), if_pos rfl]
    | false => rw [if_pos (by decide), if_neg (by decide)]
theorem op_may {K P U M : Int → Int} {W T : Int} {d : DZ} (h : CX K P U W T d M) {O F C : Int → Int} {S : Int} (hS : SOK O F C S) (v : Int32) : Same (f5_may v (aI K) (aI P) (aI U) (iI W) (iI T) (iI (dH d)) (aI O) (aI F) (aI C) (iI S)) (f6_may v (iI W) (iI T) (iI S) (aI K) (aI P) (aI U) (aI M) (aI O) (aI F) (aI C)) := by
  obtain ⟨w, h1, h2, rfl⟩ := iI_of v
  obtain ⟨hG, hd, hM⟩ := id h
  obtain ⟨q1, q2, q3, q4, q5, q6, q7, q8, q9, q10⟩ := id hd
  have e7 : M 7 = dH d := hM.2.2.2.2.1
  unfold f5_may f6_may
  rw [hasWord_s h1 h2 hG.1 hG.2.1, isWord_s h1 h2 hG.1 hG.2.1]
  by_cases c : 0 ≤ w ∧ w < W
  · have k5 := L_may5 hG hS c.1 c.2 q7 q8 10 0 FU (iI 0) (by decide) (by decide) (by unfold FU; omega)
    have k6 := L_may6 (M := M) hG hS c.1 c.2 (by omega) (by omega) 10 0 FU (iI 0) (by decide) (by decide) (by unfold FU; omega)
    rw [decide_eq_true c, Option.bind_some, Option.bind_some, if_neg (by decide), if_neg (by decide)]
    rw [e7] at k6
    exact ⟨_, k5, k6⟩
  · rw [decide_eq_false c]
    exact ⟨iI (-1), by simp (disch := omega) only [iI_add, iI_sub, iI_mul, iI_lt, iI_le, iI_eq, iI_lt0, iI_0lt, iI_le0, iI_0le, iI_eq0, iI_div, iI_rem, iI_max, iI_min, iI_abs, ib_iI, aI_get, aI_upd, iB_eq0, iB_eqi0, iB_eqi1, iB_t, iB_f, iB_ok, okB_0, okB_1, nar0, nar1, o2, o4, o6, o20, o36, o140, Option.bind_some, if_true, if_false, if_pos, if_neg, Int.reduceAdd, Int.reduceSub, Int.reduceMul, Int.reduceNeg, Int.zero_add, Int.add_zero], by simp (disch := omega) only [iI_add, iI_sub, iI_mul, iI_lt, iI_le, iI_eq, iI_lt0, iI_0lt, iI_le0, iI_0le, iI_eq0, iI_div, iI_rem, iI_max, iI_min, iI_abs, ib_iI, aI_get, aI_upd, iB_eq0, iB_eqi0, iB_eqi1, iB_t, iB_f, iB_ok, okB_0, okB_1, nar0, nar1, o2, o4, o6, o20, o36, o140, Option.bind_some, if_true, if_false, if_pos, if_neg, Int.reduceAdd, Int.reduceSub, Int.reduceMul, Int.reduceNeg, Int.zero_add, Int.add_zero]⟩
