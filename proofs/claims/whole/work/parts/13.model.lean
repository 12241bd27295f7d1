/-! the reference's fields and dog, in Int -/
theorem uz_eq {f : Int → Int} {k v j : Int} (h : j = k) : uz f k v j = v := if_pos h
theorem in_s {v a b : Int} (h1 : -2147483648 ≤ v) (h2 : v < 2147483648) (h3 : -2147483648 ≤ a) (h4 : a < 2147483648) (h5 : -2147483648 ≤ b) (h6 : b < 2147483648) : f6_in (iI v).toInt64 (lI a) (lI b) = some (iB (decide (a ≤ v ∧ v ≤ b))) := by
  rw [iI_long h1 h2, f6_in_s h1 h2 h3 h4 h5 h6]
theorem isWord_s {w W : Int} (h1 : -2147483648 ≤ w) (h2 : w < 2147483648) (h3 : 0 ≤ W) (h4 : W ≤ 4) : f6_isWord (iI w) (iI W) = some (iB (decide (0 ≤ w ∧ w < W))) := by
  unfold f6_isWord
  rw [iI_sub, lN0, iI_long (by omega : -2147483648 ≤ W - 1) (by omega), in_s h1 h2 (by decide) (by decide) (by omega) (by omega), Option.bind_some, if_pos (iB_ok _)]
  congr 2
  by_cases c : 0 ≤ w ∧ w < W
  · rw [decide_eq_true (by omega), decide_eq_true (by omega)]
  · rw [decide_eq_false (by omega), decide_eq_false (by omega)]
theorem has_s {m t : Int} (h1 : 0 ≤ m) (h2 : m < 16) (h3 : 0 ≤ t) (h4 : t < 4) : f6_has (iI m) (iI t) = some (iI (bt m t)) := by
  unfold f6_has
  rw [sh_bt h1 h2 h3 h4]
  rcases bt_01 m t with h | h
  · rw [h]
    rfl
  · rw [h]
    rfl
theorem L_mpull {P U : Int → Int} {T y m : Int} (hF : FOK P U T) (hy1 : 0 ≤ y) (hy2 : y ≤ 9) (hm1 : 0 ≤ m) (hm2 : m < 16) (k : Int32 → Int32 → Option Int32) : ∀ (j t n : Nat), (t : Int) + (j : Int) = T → j < n → l6_pullAt_5 k (iI y) (iI m) (iI T) (aI P) (aI U) n (iI (plN P U y m t)) (iI (t : Int)) = k (iI (pl P U T y m)) (iI T) := by
  intro j
  induction j with
  | zero =>
    intro t n ht hn
    obtain ⟨n, rfl⟩ : ∃ q, n = q + 1 := ⟨n - 1, by omega⟩
    have hT := hF.1
    have hT2 := hF.2.1
    rw [l6_pullAt_5]
    have e : T.toNat = t := by omega
    unfold pl
    rw [e, show T = (t : Int) by omega]
    simp (disch := omega) only [iI_add, iI_sub, iI_mul, iI_lt, iI_le, iI_eq, iI_lt0, iI_0lt, iI_le0, iI_0le, iI_eq0, iI_div, iI_rem, iI_max, iI_min, iI_abs, ib_iI, aI_get, aI_upd, iB_eq0, iB_eqi0, iB_eqi1, iB_t, iB_f, iB_ok, okB_0, okB_1, nar0, nar1, o2, o4, o6, o20, o36, o140, Option.bind_some, if_true, if_false, if_pos, if_neg, Int.reduceAdd, Int.reduceSub, Int.reduceMul, Int.reduceNeg, Int.zero_add, Int.add_zero]
  | succ j ih =>
    intro t n ht hn
    obtain ⟨n, rfl⟩ : ∃ q, n = q + 1 := ⟨n - 1, by omega⟩
    have hT := hF.1
    have hT2 := hF.2.1
    have h1 := plN_b (y := y) (m := m) hF t (by omega)
    have h2 := hF.2.2 (t : Int) (by omega) (by omega)
    have ih2 := ih (t + 1) n (by omega) (by omega)
    rw [l6_pullAt_5, has_s hm1 hm2 (by omega) (by omega)]
    rcases bt_01 m (t : Int) with hb | hb
    · rw [hb]
      have e : plN P U y m (t + 1) = plN P U y m t := by
        rw [plN, if_neg (by omega)]
      rw [e] at ih2
      by_cases c1 : y ≤ P (t : Int)
      · simp (disch := omega) only [iI_add, iI_sub, iI_mul, iI_lt, iI_le, iI_eq, iI_lt0, iI_0lt, iI_le0, iI_0le, iI_eq0, iI_div, iI_rem, iI_max, iI_min, iI_abs, ib_iI, aI_get, aI_upd, iB_eq0, iB_eqi0, iB_eqi1, iB_t, iB_f, iB_ok, okB_0, okB_1, nar0, nar1, o2, o4, o6, o20, o36, o140, Option.bind_some, if_true, if_false, if_pos, if_neg, Int.reduceAdd, Int.reduceSub, Int.reduceMul, Int.reduceNeg, Int.zero_add, Int.add_zero]
        exact ih2
      · simp (disch := omega) only [iI_add, iI_sub, iI_mul, iI_lt, iI_le, iI_eq, iI_lt0, iI_0lt, iI_le0, iI_0le, iI_eq0, iI_div, iI_rem, iI_max, iI_min, iI_abs, ib_iI, aI_get, aI_upd, iB_eq0, iB_eqi0, iB_eqi1, iB_t, iB_f, iB_ok, okB_0, okB_1, nar0, nar1, o2, o4, o6, o20, o36, o140, Option.bind_some, if_true, if_false, if_pos, if_neg, Int.reduceAdd, Int.reduceSub, Int.reduceMul, Int.reduceNeg, Int.zero_add, Int.add_zero]
        exact ih2
    · rw [hb]
      have e : plN P U y m (t + 1) = max (plN P U y m t) (tz P U y (t : Int)) := by
        rw [plN, if_pos hb]
      rw [e] at ih2
      unfold tz at ih2
      by_cases c1 : y ≤ P (t : Int)
      · by_cases c2 : U (t : Int) - (P (t : Int) - y) ≤ plN P U y m t
        · simp (disch := omega) only [iI_add, iI_sub, iI_mul, iI_lt, iI_le, iI_eq, iI_lt0, iI_0lt, iI_le0, iI_0le, iI_eq0, iI_div, iI_rem, iI_max, iI_min, iI_abs, ib_iI, aI_get, aI_upd, iB_eq0, iB_eqi0, iB_eqi1, iB_t, iB_f, iB_ok, okB_0, okB_1, nar0, nar1, o2, o4, o6, o20, o36, o140, Option.bind_some, if_true, if_false, if_pos, if_neg, Int.reduceAdd, Int.reduceSub, Int.reduceMul, Int.reduceNeg, Int.zero_add, Int.add_zero]
          rw [show max (plN P U y m t) (U (t : Int) - max (P (t : Int) - y) (-(P (t : Int) - y))) = plN P U y m t by omega] at ih2
          exact ih2
        · simp (disch := omega) only [iI_add, iI_sub, iI_mul, iI_lt, iI_le, iI_eq, iI_lt0, iI_0lt, iI_le0, iI_0le, iI_eq0, iI_div, iI_rem, iI_max, iI_min, iI_abs, ib_iI, aI_get, aI_upd, iB_eq0, iB_eqi0, iB_eqi1, iB_t, iB_f, iB_ok, okB_0, okB_1, nar0, nar1, o2, o4, o6, o20, o36, o140, Option.bind_some, if_true, if_false, if_pos, if_neg, Int.reduceAdd, Int.reduceSub, Int.reduceMul, Int.reduceNeg, Int.zero_add, Int.add_zero]
          rw [show max (plN P U y m t) (U (t : Int) - max (P (t : Int) - y) (-(P (t : Int) - y))) = U (t : Int) - (P (t : Int) - y) by omega] at ih2
          exact ih2
      · by_cases c2 : U (t : Int) - (y - P (t : Int)) ≤ plN P U y m t
        · simp (disch := omega) only [iI_add, iI_sub, iI_mul, iI_lt, iI_le, iI_eq, iI_lt0, iI_0lt, iI_le0, iI_0le, iI_eq0, iI_div, iI_rem, iI_max, iI_min, iI_abs, ib_iI, aI_get, aI_upd, iB_eq0, iB_eqi0, iB_eqi1, iB_t, iB_f, iB_ok, okB_0, okB_1, nar0, nar1, o2, o4, o6, o20, o36, o140, Option.bind_some, if_true, if_false, if_pos, if_neg, Int.reduceAdd, Int.reduceSub, Int.reduceMul, Int.reduceNeg, Int.zero_add, Int.add_zero]
          rw [show max (plN P U y m t) (U (t : Int) - max (P (t : Int) - y) (-(P (t : Int) - y))) = plN P U y m t by omega] at ih2
          exact ih2
        · simp (disch := omega) only [iI_add, iI_sub, iI_mul, iI_lt, iI_le, iI_eq, iI_lt0, iI_0lt, iI_le0, iI_0le, iI_eq0, iI_div, iI_rem, iI_max, iI_min, iI_abs, ib_iI, aI_get, aI_upd, iB_eq0, iB_eqi0, iB_eqi1, iB_t, iB_f, iB_ok, okB_0, okB_1, nar0, nar1, o2, o4, o6, o20, o36, o140, Option.bind_some, if_true, if_false, if_pos, if_neg, Int.reduceAdd, Int.reduceSub, Int.reduceMul, Int.reduceNeg, Int.zero_add, Int.add_zero]
          rw [show max (plN P U y m t) (U (t : Int) - max (P (t : Int) - y) (-(P (t : Int) - y))) = U (t : Int) - (y - P (t : Int)) by omega] at ih2
          exact ih2
theorem mpull_s {P U : Int → Int} {T y m : Int} (hF : FOK P U T) (hy1 : 0 ≤ y) (hy2 : y ≤ 9) (hm1 : 0 ≤ m) (hm2 : m < 16) : f6_pullAt (iI y) (iI m) (iI T) (aI P) (aI U) = some (iI (pl P U T y m)) := by
  have hT := hF.1
  have hT2 := hF.2.1
  unfold f6_pullAt
  exact L_mpull hF hy1 hy2 hm1 hm2 _ T.toNat 0 FU (by omega) (by unfold FU; omega)
theorem mpower_s {K M : Int → Int} {s w y : Int} (hs1 : -100 ≤ s) (hs2 : s ≤ 100) (hw1 : 0 ≤ w) (hw2 : w < 4) (hK1 : 0 ≤ K w) (hK2 : K w ≤ 3) (hh1 : 0 ≤ M 7) (hh2 : M 7 ≤ 1) (hy1 : 0 ≤ y) (hy2 : y ≤ 9) : f6_power (iI s) (iI w) (iI y) (aI K) (aI M) = some (iI (pw K (M 7) s w y)) := by
  unfold f6_power pw
  by_cases c1 : K w = 1
  · rw [if_pos c1]
    simp (disch := omega) only [iI_add, iI_sub, iI_mul, iI_lt, iI_le, iI_eq, iI_lt0, iI_0lt, iI_le0, iI_0le, iI_eq0, iI_div, iI_rem, iI_max, iI_min, iI_abs, ib_iI, aI_get, aI_upd, iB_eq0, iB_eqi0, iB_eqi1, iB_t, iB_f, iB_ok, okB_0, okB_1, nar0, nar1, o2, o4, o6, o20, o36, o140, Option.bind_some, if_true, if_false, if_pos, if_neg, Int.reduceAdd, Int.reduceSub, Int.reduceMul, Int.reduceNeg, Int.zero_add, Int.add_zero]
  · rw [if_neg c1]
    simp (disch := omega) only [iI_add, iI_sub, iI_mul, iI_lt, iI_le, iI_eq, iI_lt0, iI_0lt, iI_le0, iI_0le, iI_eq0, iI_div, iI_rem, iI_max, iI_min, iI_abs, ib_iI, aI_get, aI_upd, iB_eq0, iB_eqi0, iB_eqi1, iB_t, iB_f, iB_ok, okB_0, okB_1, nar0, nar1, o2, o4, o6, o20, o36, o140, Option.bind_some, if_true, if_false, if_pos, if_neg, Int.reduceAdd, Int.reduceSub, Int.reduceMul, Int.reduceNeg, Int.zero_add, Int.add_zero]
theorem comesBy_s {K P U M : Int → Int} {T s w y m : Int} (hF : FOK P U T) (hs1 : -50 ≤ s) (hs2 : s ≤ 50) (hw1 : 0 ≤ w) (hw2 : w < 4) (hK1 : 0 ≤ K w) (hK2 : K w ≤ 3) (hh1 : 0 ≤ M 7) (hh2 : M 7 ≤ 1) (hy1 : 0 ≤ y) (hy2 : y ≤ 9) (hm1 : 0 ≤ m) (hm2 : m < 16) : f6_comesBy (iI s) (iI w) (iI y) (iI m) (iI T) (aI K) (aI P) (aI U) (aI M) = some (iB (en P U T (pw K (M 7) s w y) y m)) := by
  have hb := pl_b (y := y) (m := m) hF
  have hp := pw_b (K := K) (s := s) (w := w) hh1 hh2 hy1 hy2
  unfold f6_comesBy en
  rw [mpower_s (by omega) (by omega) hw1 hw2 hK1 hK2 hh1 hh2 hy1 hy2, mpull_s hF hy1 hy2 hm1 hm2]
  generalize pw K (M 7) s w y = p at hp ⊢
  by_cases c1 : p ≤ 0
  · rw [decide_eq_false (by omega)]
    simp (disch := omega) only [iI_add, iI_sub, iI_mul, iI_lt, iI_le, iI_eq, iI_lt0, iI_0lt, iI_le0, iI_0le, iI_eq0, iI_div, iI_rem, iI_max, iI_min, iI_abs, ib_iI, aI_get, aI_upd, iB_eq0, iB_eqi0, iB_eqi1, iB_t, iB_f, iB_ok, okB_0, okB_1, nar0, nar1, o2, o4, o6, o20, o36, o140, Option.bind_some, if_true, if_false, if_pos, if_neg, Int.reduceAdd, Int.reduceSub, Int.reduceMul, Int.reduceNeg, Int.zero_add, Int.add_zero]
  · by_cases c2 : p < pl P U T y m
    · rw [decide_eq_false (by omega)]
      simp (disch := omega) only [iI_add, iI_sub, iI_mul, iI_lt, iI_le, iI_eq, iI_lt0, iI_0lt, iI_le0, iI_0le, iI_eq0, iI_div, iI_rem, iI_max, iI_min, iI_abs, ib_iI, aI_get, aI_upd, iB_eq0, iB_eqi0, iB_eqi1, iB_t, iB_f, iB_ok, okB_0, okB_1, nar0, nar1, o2, o4, o6, o20, o36, o140, Option.bind_some, if_true, if_false, if_pos, if_neg, Int.reduceAdd, Int.reduceSub, Int.reduceMul, Int.reduceNeg, Int.zero_add, Int.add_zero]
    · rw [decide_eq_true (by omega)]
      simp (disch := omega) only [iI_add, iI_sub, iI_mul, iI_lt, iI_le, iI_eq, iI_lt0, iI_0lt, iI_le0, iI_0le, iI_eq0, iI_div, iI_rem, iI_max, iI_min, iI_abs, ib_iI, aI_get, aI_upd, iB_eq0, iB_eqi0, iB_eqi1, iB_t, iB_f, iB_ok, okB_0, okB_1, nar0, nar1, o2, o4, o6, o20, o36, o140, Option.bind_some, if_true, if_false, if_pos, if_neg, Int.reduceAdd, Int.reduceSub, Int.reduceMul, Int.reduceNeg, Int.zero_add, Int.add_zero]
theorem comesNow_s {K P U M : Int → Int} {T w y : Int} (hF : FOK P U T) (hs1 : -50 ≤ M w) (hs2 : M w ≤ 50) (hw1 : 0 ≤ w) (hw2 : w < 4) (hK1 : 0 ≤ K w) (hK2 : K w ≤ 3) (hh1 : 0 ≤ M 7) (hh2 : M 7 ≤ 1) (hy1 : 0 ≤ y) (hy2 : y ≤ 9) : f6_comesNow (iI w) (iI y) (iI T) (aI K) (aI P) (aI U) (aI M) = some (iB (br K P U T M (M 7) w y)) := by
  unfold f6_comesNow br
  rw [ib_iI hw1 (by omega) (by decide), if_pos rfl, aI_get hw1 (by omega), comesBy_s hF hs1 hs2 hw1 hw2 hK1 hK2 hh1 hh2 hy1 hy2 (by decide) (by decide), Option.bind_some, if_pos (iB_ok _)]
theorem wears_s {K : Int → Int} {w : Int} (hw1 : 0 ≤ w) (hw2 : w < 4) (hK1 : 0 ≤ K w) (hK2 : K w ≤ 3) : f6_wears (iI w) (aI K) = some (iI (if K w = 2 then 2 else 1)) := by
  unfold f6_wears
  by_cases c1 : K w = 2
  · rw [if_pos c1]
    simp (disch := omega) only [iI_add, iI_sub, iI_mul, iI_lt, iI_le, iI_eq, iI_lt0, iI_0lt, iI_le0, iI_0le, iI_eq0, iI_div, iI_rem, iI_max, iI_min, iI_abs, ib_iI, aI_get, aI_upd, iB_eq0, iB_eqi0, iB_eqi1, iB_t, iB_f, iB_ok, okB_0, okB_1, nar0, nar1, o2, o4, o6, o20, o36, o140, Option.bind_some, if_true, if_false, if_pos, if_neg, Int.reduceAdd, Int.reduceSub, Int.reduceMul, Int.reduceNeg, Int.zero_add, Int.add_zero]
  · rw [if_neg c1]
    simp (disch := omega) only [iI_add, iI_sub, iI_mul, iI_lt, iI_le, iI_eq, iI_lt0, iI_0lt, iI_le0, iI_0le, iI_eq0, iI_div, iI_rem, iI_max, iI_min, iI_abs, ib_iI, aI_get, aI_upd, iB_eq0, iB_eqi0, iB_eqi1, iB_t, iB_f, iB_ok, okB_0, okB_1, nar0, nar1, o2, o4, o6, o20, o36, o140, Option.bind_some, if_true, if_false, if_pos, if_neg, Int.reduceAdd, Int.reduceSub, Int.reduceMul, Int.reduceNeg, Int.zero_add, Int.add_zero]
/-! a dog in the reference's row: ten cells from b on -/
def MR (W : Int) (M : Int → Int) (b : Int) (d : DZ) : Prop := (∀ w : Int, 0 ≤ w → w < W → M (b + w) = dS d w) ∧ M (b + 4) = dC d ∧ M (b + 5) = dY d ∧ M (b + 6) = dO d ∧ M (b + 7) = dH d ∧ M (b + 8) = dL d ∧ M (b + 9) = dK d
/-- what changes is in the ten cells -/
def MF (M M2 : Int → Int) (b : Int) : Prop := ∀ j : Int, j < b ∨ b + 10 ≤ j → M2 j = M j
theorem br_congr {K P U s s2 : Int → Int} {T h w y : Int} (e : s w = s2 w) : br K P U T s h w y = br K P U T s2 h w y := by
  unfold br
  rw [e]
theorem pw_adj {K : Int → Int} {h h2 s w y : Int} : pw K h (s + (h2 - h)) w y = pw K h2 s w y := by
  unfold pw
  omega
theorem callOn_s {K P U M : Int → Int} {W T w lev : Int} {d : DZ} (hG : GOK K P U W T) (hd : DOK W d) (hM : MR W M (10 * lev) d) (hl : lev = 0 ∨ lev = 1) (hh1 : 0 ≤ M 7) (hh2 : M 7 ≤ 1) (hw1 : 0 ≤ w) (hw2 : w < W) : ∃ M2 : Int → Int, f6_callOn (iI lev) (iI w) (iI T) (aI K) (aI P) (aI U) (aI M) = some (iB (callB K P U T w d), aI M2) ∧ MR W M2 (10 * lev) (callD K P U T w d) ∧ MF M M2 (10 * lev) := by
  obtain ⟨g1, g2, g3, g4⟩ := hG
  obtain ⟨h1, h2, h3, h4, h5, h6, h7, h8, h9, h10⟩ := hd
  obtain ⟨r1, r2, r3, r4, r5, r6, r7⟩ := hM
  have hs := h1 w hw1 hw2
  have hk := g3 w hw1 hw2
  have r0 := r1 w hw1 hw2
  have hbnd : 0 ≤ 10 * lev ∧ 10 * lev ≤ 10 := by omega
  have e1 : (iI 10 * iI lev : Int32) = iI (10 * lev) := iI_mul 10 lev
  generalize 10 * lev = b at *
  unfold f6_callOn
  rw [e1, iI_add, iI_add, iI_add, iI_add, iI_add]
  rw [aI_get (by omega) (by omega), aI_get (by omega) (by omega), aI_get (by omega) (by omega), aI_get (by omega) (by omega), aI_get (by omega) (by omega), r0, r3, r5, r7, iI_sub, iI_add, comesBy_s g4 (by omega) (by omega) hw1 (by omega) (by omega) (by omega) hh1 hh2 h4 h5 (by decide) (by decide), pw_adj, wears_s hw1 (by omega) (by omega) (by omega)]
  have e : en P U T (pw K (dH d) (dS d w) w (dY d)) (dY d) 15 = callB K P U T w d := rfl
  rw [e]
  cases hb : callB K P U T w d with
  | true =>
    have ed : callD K P U T w d = (dS d, dC d, 0, w, dK d + 1, dH d, dL d) := if_pos hb
    rw [ed]
    refine ⟨uz (uz (uz M (b + 9) (dK d + 1)) (b + 5) 0) (b + 6) w, ?_, ⟨fun v hv1 hv2 => ?_, ?_, ?_, ?_, ?_, ?_, ?_⟩, fun j hj => ?_⟩
    · simp (disch := omega) only [iI_add, iI_sub, iI_mul, iI_lt, iI_le, iI_eq, iI_lt0, iI_0lt, iI_le0, iI_0le, iI_eq0, iI_div, iI_rem, iI_max, iI_min, iI_abs, ib_iI, aI_get, aI_upd, iB_eq0, iB_eqi0, iB_eqi1, iB_t, iB_f, iB_ok, okB_0, okB_1, nar0, nar1, o2, o4, o6, o20, o36, o140, Option.bind_some, if_true, if_false, if_pos, if_neg, Int.reduceAdd, Int.reduceSub, Int.reduceMul, Int.reduceNeg, Int.zero_add, Int.add_zero]
    · rw [uz_ne (by omega), uz_ne (by omega), uz_ne (by omega)]; exact r1 v hv1 hv2
    · rw [uz_ne (by omega), uz_ne (by omega), uz_ne (by omega)]; exact r2
    · rw [uz_ne (by omega), uz_eq (by omega)]
    · rw [uz_eq (by omega)]
    · rw [uz_ne (by omega), uz_ne (by omega), uz_ne (by omega)]; exact r5
    · rw [uz_ne (by omega), uz_ne (by omega), uz_ne (by omega)]; exact r6
    · rw [uz_ne (by omega), uz_ne (by omega), uz_eq (by omega)]
    · rw [uz_ne (by omega), uz_ne (by omega), uz_ne (by omega)]
  | false =>
    have ed : callD K P U T w d = (uz (dS d) w (cut9 (dS d w + (if K w = 2 then -2 else -1))), dC d, min 9 (dY d + 1), -9, dK d + 1, dH d, dL d) := if_neg (by rw [hb]; decide)
    rw [ed]
    have ek : (if K w = 2 then -2 else -1 : Int) = -(if K w = 2 then 2 else 1 : Int) := by split <;> rfl
    rw [ek]
    have hq : 1 ≤ (if K w = 2 then 2 else 1 : Int) ∧ (if K w = 2 then 2 else 1 : Int) ≤ 2 := by split <;> omega
    generalize (if K w = 2 then 2 else 1 : Int) = q at hq ⊢
    refine ⟨uz (uz (uz (uz M (b + 9) (dK d + 1)) (b + w) (cut9 (dS d w + -q))) (b + 6) (-9)) (b + 5) (min 9 (dY d + 1)), ?_, ⟨fun v hv1 hv2 => ?_, ?_, ?_, ?_, ?_, ?_, ?_⟩, fun j hj => ?_⟩
    · have e5 : uz M (b + 9) (dK d + 1) (b + w) = dS d w := by rw [uz_ne (by omega), r0]
      by_cases c1 : 0 ≤ dS d w - q
      · rw [show cut9 (dS d w + -q) = dS d w - q by unfold cut9; omega]
        by_cases c2 : 9 ≤ dY d
        · rw [show min 9 (dY d + 1) = 9 by omega]
          simp (disch := omega) only [iI_add, iI_sub, iI_mul, iI_lt, iI_le, iI_eq, iI_lt0, iI_0lt, iI_le0, iI_0le, iI_eq0, iI_div, iI_rem, iI_max, iI_min, iI_abs, ib_iI, aI_get, aI_upd, iB_eq0, iB_eqi0, iB_eqi1, iB_t, iB_f, iB_ok, okB_0, okB_1, nar0, nar1, o2, o4, o6, o20, o36, o140, Option.bind_some, if_true, if_false, if_pos, if_neg, Int.reduceAdd, Int.reduceSub, Int.reduceMul, Int.reduceNeg, Int.zero_add, Int.add_zero, e5]
        · rw [show min 9 (dY d + 1) = dY d + 1 by omega]
          simp (disch := omega) only [iI_add, iI_sub, iI_mul, iI_lt, iI_le, iI_eq, iI_lt0, iI_0lt, iI_le0, iI_0le, iI_eq0, iI_div, iI_rem, iI_max, iI_min, iI_abs, ib_iI, aI_get, aI_upd, iB_eq0, iB_eqi0, iB_eqi1, iB_t, iB_f, iB_ok, okB_0, okB_1, nar0, nar1, o2, o4, o6, o20, o36, o140, Option.bind_some, if_true, if_false, if_pos, if_neg, Int.reduceAdd, Int.reduceSub, Int.reduceMul, Int.reduceNeg, Int.zero_add, Int.add_zero, e5]
      · rw [show cut9 (dS d w + -q) = 0 by unfold cut9; omega]
        by_cases c2 : 9 ≤ dY d
        · rw [show min 9 (dY d + 1) = 9 by omega]
          simp (disch := omega) only [iI_add, iI_sub, iI_mul, iI_lt, iI_le, iI_eq, iI_lt0, iI_0lt, iI_le0, iI_0le, iI_eq0, iI_div, iI_rem, iI_max, iI_min, iI_abs, ib_iI, aI_get, aI_upd, iB_eq0, iB_eqi0, iB_eqi1, iB_t, iB_f, iB_ok, okB_0, okB_1, nar0, nar1, o2, o4, o6, o20, o36, o140, Option.bind_some, if_true, if_false, if_pos, if_neg, Int.reduceAdd, Int.reduceSub, Int.reduceMul, Int.reduceNeg, Int.zero_add, Int.add_zero, e5]
        · rw [show min 9 (dY d + 1) = dY d + 1 by omega]
          simp (disch := omega) only [iI_add, iI_sub, iI_mul, iI_lt, iI_le, iI_eq, iI_lt0, iI_0lt, iI_le0, iI_0le, iI_eq0, iI_div, iI_rem, iI_max, iI_min, iI_abs, ib_iI, aI_get, aI_upd, iB_eq0, iB_eqi0, iB_eqi1, iB_t, iB_f, iB_ok, okB_0, okB_1, nar0, nar1, o2, o4, o6, o20, o36, o140, Option.bind_some, if_true, if_false, if_pos, if_neg, Int.reduceAdd, Int.reduceSub, Int.reduceMul, Int.reduceNeg, Int.zero_add, Int.add_zero, e5]
    · rw [uz_ne (by omega), uz_ne (by omega)]
      by_cases c : v = w
      · rw [c, uz_eq rfl]
        exact (uz_same _ _ _).symm
      · rw [uz_ne (by omega), uz_ne (by omega)]
        show _ = uz _ _ _ v
        rw [uz_ne c]
        exact r1 v hv1 hv2
    · rw [uz_ne (by omega), uz_ne (by omega), uz_ne (by omega), uz_ne (by omega)]; exact r2
    · rw [uz_eq (by omega)]
    · rw [uz_ne (by omega), uz_eq (by omega)]
    · rw [uz_ne (by omega), uz_ne (by omega), uz_ne (by omega), uz_ne (by omega)]; exact r5
    · rw [uz_ne (by omega), uz_ne (by omega), uz_ne (by omega), uz_ne (by omega)]; exact r6
    · rw [uz_ne (by omega), uz_ne (by omega), uz_ne (by omega), uz_eq (by omega)]
    · rw [uz_ne (by omega), uz_ne (by omega), uz_ne (by omega), uz_ne (by omega)]
