/-! the fields and the dog of the class, in Int -/
theorem strengthOf_s {s : Int → Int} {w : Int} (h1 : 0 ≤ w) (h2 : w < 4) : f0_strengthOf (iI w) (aI s) = some (iI (s w)) := by
  unfold f0_strengthOf
  simp (disch := omega) only [iI_add, iI_sub, iI_mul, iI_lt, iI_le, iI_eq, iI_lt0, iI_0lt, iI_le0, iI_0le, iI_eq0, iI_div, iI_rem, iI_max, iI_min, iI_abs, ib_iI, aI_get, aI_upd, iB_eq0, iB_eqi0, iB_eqi1, iB_t, iB_f, iB_ok, okB_0, okB_1, nar0, nar1, o2, o4, o6, o20, o36, o140, Option.bind_some, if_true, if_false, if_pos, if_neg, Int.reduceAdd, Int.reduceSub, Int.reduceMul, Int.reduceNeg, Int.zero_add, Int.add_zero]
theorem kindOf_s {s : Int → Int} {w : Int} (h1 : 0 ≤ w) (h2 : w < 4) : f1_kindOf (iI w) (aI s) = some (iI (s w)) := by
  unfold f1_kindOf
  simp (disch := omega) only [iI_add, iI_sub, iI_mul, iI_lt, iI_le, iI_eq, iI_lt0, iI_0lt, iI_le0, iI_0le, iI_eq0, iI_div, iI_rem, iI_max, iI_min, iI_abs, ib_iI, aI_get, aI_upd, iB_eq0, iB_eqi0, iB_eqi1, iB_t, iB_f, iB_ok, okB_0, okB_1, nar0, nar1, o2, o4, o6, o20, o36, o140, Option.bind_some, if_true, if_false, if_pos, if_neg, Int.reduceAdd, Int.reduceSub, Int.reduceMul, Int.reduceNeg, Int.zero_add, Int.add_zero]
theorem spotOf_s {s : Int → Int} {w : Int} (h1 : 0 ≤ w) (h2 : w < 4) : f1_spotOf (iI w) (aI s) = some (iI (s w)) := by
  unfold f1_spotOf
  simp (disch := omega) only [iI_add, iI_sub, iI_mul, iI_lt, iI_le, iI_eq, iI_lt0, iI_0lt, iI_le0, iI_0le, iI_eq0, iI_div, iI_rem, iI_max, iI_min, iI_abs, ib_iI, aI_get, aI_upd, iB_eq0, iB_eqi0, iB_eqi1, iB_t, iB_f, iB_ok, okB_0, okB_1, nar0, nar1, o2, o4, o6, o20, o36, o140, Option.bind_some, if_true, if_false, if_pos, if_neg, Int.reduceAdd, Int.reduceSub, Int.reduceMul, Int.reduceNeg, Int.zero_add, Int.add_zero]
theorem tugOf_s {s : Int → Int} {w : Int} (h1 : 0 ≤ w) (h2 : w < 4) : f1_tugOf (iI w) (aI s) = some (iI (s w)) := by
  unfold f1_tugOf
  simp (disch := omega) only [iI_add, iI_sub, iI_mul, iI_lt, iI_le, iI_eq, iI_lt0, iI_0lt, iI_le0, iI_0le, iI_eq0, iI_div, iI_rem, iI_max, iI_min, iI_abs, ib_iI, aI_get, aI_upd, iB_eq0, iB_eqi0, iB_eqi1, iB_t, iB_f, iB_ok, okB_0, okB_1, nar0, nar1, o2, o4, o6, o20, o36, o140, Option.bind_some, if_true, if_false, if_pos, if_neg, Int.reduceAdd, Int.reduceSub, Int.reduceMul, Int.reduceNeg, Int.zero_add, Int.add_zero]
theorem hasWord_s {w W : Int} (h1 : -2147483648 ≤ w) (h2 : w < 2147483648) (h3 : 0 ≤ W) (h4 : W ≤ 4) : f1_hasWord (iI w) (iI W) = some (iB (decide (0 ≤ w ∧ w < W))) := by
  unfold f1_hasWord
  by_cases c1 : w < 0
  · rw [decide_eq_false (by omega)]
    simp (disch := omega) only [iI_add, iI_sub, iI_mul, iI_lt, iI_le, iI_eq, iI_lt0, iI_0lt, iI_le0, iI_0le, iI_eq0, iI_div, iI_rem, iI_max, iI_min, iI_abs, ib_iI, aI_get, aI_upd, iB_eq0, iB_eqi0, iB_eqi1, iB_t, iB_f, iB_ok, okB_0, okB_1, nar0, nar1, o2, o4, o6, o20, o36, o140, Option.bind_some, if_true, if_false, if_pos, if_neg, Int.reduceAdd, Int.reduceSub, Int.reduceMul, Int.reduceNeg, Int.zero_add, Int.add_zero]
  · by_cases c2 : w < W
    · rw [decide_eq_true (by omega)]
      simp (disch := omega) only [iI_add, iI_sub, iI_mul, iI_lt, iI_le, iI_eq, iI_lt0, iI_0lt, iI_le0, iI_0le, iI_eq0, iI_div, iI_rem, iI_max, iI_min, iI_abs, ib_iI, aI_get, aI_upd, iB_eq0, iB_eqi0, iB_eqi1, iB_t, iB_f, iB_ok, okB_0, okB_1, nar0, nar1, o2, o4, o6, o20, o36, o140, Option.bind_some, if_true, if_false, if_pos, if_neg, Int.reduceAdd, Int.reduceSub, Int.reduceMul, Int.reduceNeg, Int.zero_add, Int.add_zero]
    · rw [decide_eq_false (by omega)]
      simp (disch := omega) only [iI_add, iI_sub, iI_mul, iI_lt, iI_le, iI_eq, iI_lt0, iI_0lt, iI_le0, iI_0le, iI_eq0, iI_div, iI_rem, iI_max, iI_min, iI_abs, ib_iI, aI_get, aI_upd, iB_eq0, iB_eqi0, iB_eqi1, iB_t, iB_f, iB_ok, okB_0, okB_1, nar0, nar1, o2, o4, o6, o20, o36, o140, Option.bind_some, if_true, if_false, if_pos, if_neg, Int.reduceAdd, Int.reduceSub, Int.reduceMul, Int.reduceNeg, Int.zero_add, Int.add_zero]
theorem hasThing_s {w W : Int} (h1 : -2147483648 ≤ w) (h2 : w < 2147483648) (h3 : 0 ≤ W) (h4 : W ≤ 4) : f1_hasThing (iI w) (iI W) = some (iB (decide (0 ≤ w ∧ w < W))) := by
  unfold f1_hasThing
  by_cases c1 : w < 0
  · rw [decide_eq_false (by omega)]
    simp (disch := omega) only [iI_add, iI_sub, iI_mul, iI_lt, iI_le, iI_eq, iI_lt0, iI_0lt, iI_le0, iI_0le, iI_eq0, iI_div, iI_rem, iI_max, iI_min, iI_abs, ib_iI, aI_get, aI_upd, iB_eq0, iB_eqi0, iB_eqi1, iB_t, iB_f, iB_ok, okB_0, okB_1, nar0, nar1, o2, o4, o6, o20, o36, o140, Option.bind_some, if_true, if_false, if_pos, if_neg, Int.reduceAdd, Int.reduceSub, Int.reduceMul, Int.reduceNeg, Int.zero_add, Int.add_zero]
  · by_cases c2 : w < W
    · rw [decide_eq_true (by omega)]
      simp (disch := omega) only [iI_add, iI_sub, iI_mul, iI_lt, iI_le, iI_eq, iI_lt0, iI_0lt, iI_le0, iI_0le, iI_eq0, iI_div, iI_rem, iI_max, iI_min, iI_abs, ib_iI, aI_get, aI_upd, iB_eq0, iB_eqi0, iB_eqi1, iB_t, iB_f, iB_ok, okB_0, okB_1, nar0, nar1, o2, o4, o6, o20, o36, o140, Option.bind_some, if_true, if_false, if_pos, if_neg, Int.reduceAdd, Int.reduceSub, Int.reduceMul, Int.reduceNeg, Int.zero_add, Int.add_zero]
    · rw [decide_eq_false (by omega)]
      simp (disch := omega) only [iI_add, iI_sub, iI_mul, iI_lt, iI_le, iI_eq, iI_lt0, iI_0lt, iI_le0, iI_0le, iI_eq0, iI_div, iI_rem, iI_max, iI_min, iI_abs, ib_iI, aI_get, aI_upd, iB_eq0, iB_eqi0, iB_eqi1, iB_t, iB_f, iB_ok, okB_0, okB_1, nar0, nar1, o2, o4, o6, o20, o36, o140, Option.bind_some, if_true, if_false, if_pos, if_neg, Int.reduceAdd, Int.reduceSub, Int.reduceMul, Int.reduceNeg, Int.zero_add, Int.add_zero]
/-! PULL -/
def bt (m t : Int) : Int := m / 2 ^ t.toNat % 2
theorem bt_01 (m t : Int) : bt m t = 0 ∨ bt m t = 1 := by
  unfold bt
  omega
theorem sh_bt {m t : Int} (h1 : 0 ≤ m) (h2 : m < 16) (h3 : 0 ≤ t) (h4 : t < 4) : (iI m >>> (iI t &&& 31)) &&& iI 1 = iI (bt m t) := by
  have key : ∀ m : Fin 16, ∀ t : Fin 4, (iI ((m.val : Nat) : Int) >>> (iI ((t.val : Nat) : Int) &&& 31)) &&& iI 1 = iI (bt ((m.val : Nat) : Int) ((t.val : Nat) : Int)) := by decide +kernel
  have h := key ⟨m.toNat, by omega⟩ ⟨t.toNat, by omega⟩
  have e1 : ((m.toNat : Nat) : Int) = m := by omega
  have e2 : ((t.toNat : Nat) : Int) = t := by omega
  simp only [e1, e2] at h
  exact h
def tz (P U : Int → Int) (y t : Int) : Int := U t - max (P t - y) (-(P t - y))
def plN (P U : Int → Int) (y m : Int) : Nat → Int
  | 0 => 0
  | t + 1 => if bt m (t : Int) = 1 then max (plN P U y m t) (tz P U y (t : Int)) else plN P U y m t
def pl (P U : Int → Int) (T y m : Int) : Int := plN P U y m T.toNat
def FOK (P U : Int → Int) (T : Int) : Prop := 0 ≤ T ∧ T ≤ 4 ∧ ∀ t : Int, 0 ≤ t → t < T → 0 ≤ P t ∧ P t ≤ 9 ∧ 1 ≤ U t ∧ U t ≤ 9
theorem plN_b {P U : Int → Int} {T y m : Int} (hF : FOK P U T) : ∀ t : Nat, (t : Int) ≤ T → 0 ≤ plN P U y m t ∧ plN P U y m t ≤ 9 := by
  intro t
  induction t with
  | zero => intro _; exact ⟨Int.le_refl _, show (0 : Int) ≤ 9 by decide⟩
  | succ t ih =>
    intro h
    have h1 := ih (by omega)
    have h2 := hF.2.2 (t : Int) (by omega) (by omega)
    unfold plN tz
    split <;> omega
theorem pl_b {P U : Int → Int} {T y m : Int} (hF : FOK P U T) : 0 ≤ pl P U T y m ∧ pl P U T y m ≤ 9 := plN_b hF T.toNat (by have := hF.1; omega)
theorem L_pull {P U : Int → Int} {T y m : Int} (hF : FOK P U T) (hy1 : 0 ≤ y) (hy2 : y ≤ 9) (hm1 : 0 ≤ m) (hm2 : m < 16) (k : Int32 → Int32 → Option Int32) : ∀ (j t n : Nat), (t : Int) + (j : Int) = T → j < n → l1_pullAt_5 k (iI y) (iI m) (aI P) (aI U) (iI T) n (iI (plN P U y m t)) (iI (t : Int)) = k (iI (pl P U T y m)) (iI T) := by
  intro j
  induction j with
  | zero =>
    intro t n ht hn
    obtain ⟨n, rfl⟩ : ∃ q, n = q + 1 := ⟨n - 1, by omega⟩
    have hT := hF.1
    have hT2 := hF.2.1
    rw [l1_pullAt_5]
    have e : T.toNat = t := by omega
    unfold pl
    rw [e, show T = (t : Int) by omega]
    simp (disch := omega) only [iI_add, iI_sub, iI_mul, iI_lt, iI_le, iI_eq, iI_lt0, iI_0lt, iI_le0, iI_0le, iI_eq0, iI_div, iI_rem, iI_max, iI_min, iI_abs, ib_iI, aI_get, aI_upd, iB_eq0, iB_eqi0, iB_eqi1, iB_t, iB_f, iB_ok, okB_0, okB_1, nar0, nar1, o2, o4, o6, o20, o36, o140, Option.bind_some, if_true, if_false, if_pos, if_neg, Int.reduceAdd, Int.reduceSub, Int.reduceMul, Int.reduceNeg, Int.zero_add, Int.add_zero]
  | succ j ih =>
    intro t n ht hn
    obtain ⟨n, rfl⟩ : ∃ q, n = q + 1 := ⟨n - 1, by omega⟩
    have hT := hF.1
    have hT2 := hF.2.1
    have h1 := plN_b (y := y) (m := m) hF t (by omega)
    have h2 := hF.2.2 (t : Int) (by omega) (by omega)
    have ih2 := ih (t + 1) n (by omega) (by omega)
    rw [l1_pullAt_5, sh_bt hm1 hm2 (by omega) (by omega), tugOf_s (by omega) (by omega), spotOf_s (by omega) (by omega)]
    rcases bt_01 m (t : Int) with hb | hb
    · rw [hb]
      have e : plN P U y m (t + 1) = plN P U y m t := by
        rw [plN, if_neg (by omega)]
      rw [e] at ih2
      simp (disch := omega) only [iI_add, iI_sub, iI_mul, iI_lt, iI_le, iI_eq, iI_lt0, iI_0lt, iI_le0, iI_0le, iI_eq0, iI_div, iI_rem, iI_max, iI_min, iI_abs, ib_iI, aI_get, aI_upd, iB_eq0, iB_eqi0, iB_eqi1, iB_t, iB_f, iB_ok, okB_0, okB_1, nar0, nar1, o2, o4, o6, o20, o36, o140, Option.bind_some, if_true, if_false, if_pos, if_neg, Int.reduceAdd, Int.reduceSub, Int.reduceMul, Int.reduceNeg, Int.zero_add, Int.add_zero]
      exact ih2
    · rw [hb]
      have e : plN P U y m (t + 1) = max (plN P U y m t) (tz P U y (t : Int)) := by
        rw [plN, if_pos hb]
      rw [e] at ih2
      unfold tz at ih2
      simp (disch := omega) only [iI_add, iI_sub, iI_mul, iI_lt, iI_le, iI_eq, iI_lt0, iI_0lt, iI_le0, iI_0le, iI_eq0, iI_div, iI_rem, iI_max, iI_min, iI_abs, ib_iI, aI_get, aI_upd, iB_eq0, iB_eqi0, iB_eqi1, iB_t, iB_f, iB_ok, okB_0, okB_1, nar0, nar1, o2, o4, o6, o20, o36, o140, Option.bind_some, if_true, if_false, if_pos, if_neg, Int.reduceAdd, Int.reduceSub, Int.reduceMul, Int.reduceNeg, Int.zero_add, Int.add_zero]
      exact ih2
theorem pull_s {P U : Int → Int} {T y m : Int} (hF : FOK P U T) (hy1 : 0 ≤ y) (hy2 : y ≤ 9) (hm1 : 0 ≤ m) (hm2 : m < 16) : f1_pullAt (iI y) (iI m) (aI P) (aI U) (iI T) = some (iI (pl P U T y m)) := by
  have hT := hF.1
  have hT2 := hF.2.1
  unfold f1_pullAt
  exact L_pull hF hy1 hy2 hm1 hm2 _ T.toNat 0 FU (by omega) (by unfold FU; omega)
/-! POWER, COMES -/
def pw (K : Int → Int) (h s w y : Int) : Int := s + h - (if K w = 1 then y / 4 else y / 2)
def en (P U : Int → Int) (T p y m : Int) : Bool := decide (1 ≤ p ∧ pl P U T y m ≤ p)
def br (K P U : Int → Int) (T : Int) (s : Int → Int) (h w y : Int) : Bool := en P U T (pw K h (s w) w y) y 15
theorem pw_b {K : Int → Int} {h s w y : Int} (hh1 : 0 ≤ h) (hh2 : h ≤ 1) (hy1 : 0 ≤ y) (hy2 : y ≤ 9) : s - 4 ≤ pw K h s w y ∧ pw K h s w y ≤ s + 1 := by
  unfold pw
  split <;> omega
theorem powerWith_s {K : Int → Int} {h s w y : Int} (hs1 : -100 ≤ s) (hs2 : s ≤ 100) (hw1 : 0 ≤ w) (hw2 : w < 4) (hK1 : 0 ≤ K w) (hK2 : K w ≤ 3) (hh1 : 0 ≤ h) (hh2 : h ≤ 1) (hy1 : 0 ≤ y) (hy2 : y ≤ 9) : f1_powerWith (iI s) (iI w) (iI h) (iI y) (aI K) = some (iI (pw K h s w y)) := by
  unfold f1_powerWith pw
  rw [kindOf_s hw1 hw2]
  by_cases c1 : K w = 1
  · by_cases c2 : h = 0
    · rw [if_pos c1, c2]
      simp (disch := omega) only [iI_add, iI_sub, iI_mul, iI_lt, iI_le, iI_eq, iI_lt0, iI_0lt, iI_le0, iI_0le, iI_eq0, iI_div, iI_rem, iI_max, iI_min, iI_abs, ib_iI, aI_get, aI_upd, iB_eq0, iB_eqi0, iB_eqi1, iB_t, iB_f, iB_ok, okB_0, okB_1, nar0, nar1, o2, o4, o6, o20, o36, o140, Option.bind_some, if_true, if_false, if_pos, if_neg, Int.reduceAdd, Int.reduceSub, Int.reduceMul, Int.reduceNeg, Int.zero_add, Int.add_zero]
    · rw [if_pos c1, show h = 1 by omega]
      simp (disch := omega) only [iI_add, iI_sub, iI_mul, iI_lt, iI_le, iI_eq, iI_lt0, iI_0lt, iI_le0, iI_0le, iI_eq0, iI_div, iI_rem, iI_max, iI_min, iI_abs, ib_iI, aI_get, aI_upd, iB_eq0, iB_eqi0, iB_eqi1, iB_t, iB_f, iB_ok, okB_0, okB_1, nar0, nar1, o2, o4, o6, o20, o36, o140, Option.bind_some, if_true, if_false, if_pos, if_neg, Int.reduceAdd, Int.reduceSub, Int.reduceMul, Int.reduceNeg, Int.zero_add, Int.add_zero]
  · by_cases c2 : h = 0
    · rw [if_neg c1, c2]
      simp (disch := omega) only [iI_add, iI_sub, iI_mul, iI_lt, iI_le, iI_eq, iI_lt0, iI_0lt, iI_le0, iI_0le, iI_eq0, iI_div, iI_rem, iI_max, iI_min, iI_abs, ib_iI, aI_get, aI_upd, iB_eq0, iB_eqi0, iB_eqi1, iB_t, iB_f, iB_ok, okB_0, okB_1, nar0, nar1, o2, o4, o6, o20, o36, o140, Option.bind_some, if_true, if_false, if_pos, if_neg, Int.reduceAdd, Int.reduceSub, Int.reduceMul, Int.reduceNeg, Int.zero_add, Int.add_zero]
    · rw [if_neg c1, show h = 1 by omega]
      simp (disch := omega) only [iI_add, iI_sub, iI_mul, iI_lt, iI_le, iI_eq, iI_lt0, iI_0lt, iI_le0, iI_0le, iI_eq0, iI_div, iI_rem, iI_max, iI_min, iI_abs, ib_iI, aI_get, aI_upd, iB_eq0, iB_eqi0, iB_eqi1, iB_t, iB_f, iB_ok, okB_0, okB_1, nar0, nar1, o2, o4, o6, o20, o36, o140, Option.bind_some, if_true, if_false, if_pos, if_neg, Int.reduceAdd, Int.reduceSub, Int.reduceMul, Int.reduceNeg, Int.zero_add, Int.add_zero]
theorem powerOf_s {K s : Int → Int} {h w y : Int} (hs1 : -100 ≤ s w) (hs2 : s w ≤ 100) (hw1 : 0 ≤ w) (hw2 : w < 4) (hK1 : 0 ≤ K w) (hK2 : K w ≤ 3) (hh1 : 0 ≤ h) (hh2 : h ≤ 1) (hy1 : 0 ≤ y) (hy2 : y ≤ 9) : f1_powerOf (iI w) (iI y) (aI K) (aI s) (iI h) = some (iI (pw K h (s w) w y)) := by
  unfold f1_powerOf
  rw [strengthOf_s hw1 hw2, Option.bind_some, powerWith_s hs1 hs2 hw1 hw2 hK1 hK2 hh1 hh2 hy1 hy2, Option.bind_some]
theorem isEnough_s {P U : Int → Int} {T p y m : Int} (hF : FOK P U T) (hp1 : -200 ≤ p) (hp2 : p ≤ 200) (hy1 : 0 ≤ y) (hy2 : y ≤ 9) (hm1 : 0 ≤ m) (hm2 : m < 16) : f1_isEnough (iI p) (iI y) (iI m) (aI P) (aI U) (iI T) = some (iB (en P U T p y m)) := by
  have hb := pl_b (y := y) (m := m) hF
  unfold f1_isEnough en
  rw [pull_s hF hy1 hy2 hm1 hm2]
  by_cases c1 : p < 1
  · rw [decide_eq_false (by omega)]
    simp (disch := omega) only [iI_add, iI_sub, iI_mul, iI_lt, iI_le, iI_eq, iI_lt0, iI_0lt, iI_le0, iI_0le, iI_eq0, iI_div, iI_rem, iI_max, iI_min, iI_abs, ib_iI, aI_get, aI_upd, iB_eq0, iB_eqi0, iB_eqi1, iB_t, iB_f, iB_ok, okB_0, okB_1, nar0, nar1, o2, o4, o6, o20, o36, o140, Option.bind_some, if_true, if_false, if_pos, if_neg, Int.reduceAdd, Int.reduceSub, Int.reduceMul, Int.reduceNeg, Int.zero_add, Int.add_zero]
  · by_cases c2 : p < pl P U T y m
    · rw [decide_eq_false (by omega)]
      simp (disch := omega) only [iI_add, iI_sub, iI_mul, iI_lt, iI_le, iI_eq, iI_lt0, iI_0lt, iI_le0, iI_0le, iI_eq0, iI_div, iI_rem, iI_max, iI_min, iI_abs, ib_iI, aI_get, aI_upd, iB_eq0, iB_eqi0, iB_eqi1, iB_t, iB_f, iB_ok, okB_0, okB_1, nar0, nar1, o2, o4, o6, o20, o36, o140, Option.bind_some, if_true, if_false, if_pos, if_neg, Int.reduceAdd, Int.reduceSub, Int.reduceMul, Int.reduceNeg, Int.zero_add, Int.add_zero]
    · rw [decide_eq_true (by omega)]
      simp (disch := omega) only [iI_add, iI_sub, iI_mul, iI_lt, iI_le, iI_eq, iI_lt0, iI_0lt, iI_le0, iI_0le, iI_eq0, iI_div, iI_rem, iI_max, iI_min, iI_abs, ib_iI, aI_get, aI_upd, iB_eq0, iB_eqi0, iB_eqi1, iB_t, iB_f, iB_ok, okB_0, okB_1, nar0, nar1, o2, o4, o6, o20, o36, o140, Option.bind_some, if_true, if_false, if_pos, if_neg, Int.reduceAdd, Int.reduceSub, Int.reduceMul, Int.reduceNeg, Int.zero_add, Int.add_zero]
theorem brings_s {K P U s : Int → Int} {T h w y : Int} (hF : FOK P U T) (hs1 : -100 ≤ s w) (hs2 : s w ≤ 100) (hw1 : 0 ≤ w) (hw2 : w < 4) (hK1 : 0 ≤ K w) (hK2 : K w ≤ 3) (hh1 : 0 ≤ h) (hh2 : h ≤ 1) (hy1 : 0 ≤ y) (hy2 : y ≤ 9) : f1_brings (iI w) (iI y) (aI K) (aI P) (aI U) (iI T) (aI s) (iI h) = some (iB (br K P U T s h w y)) := by
  have hb := pw_b (K := K) (s := s w) (w := w) hh1 hh2 hy1 hy2
  unfold f1_brings br
  rw [powerOf_s hs1 hs2 hw1 hw2 hK1 hK2 hh1 hh2 hy1 hy2, Option.bind_some, isEnough_s hF (by omega) (by omega) hy1 hy2 (by decide) (by decide), Option.bind_some, if_pos (iB_ok _)]
