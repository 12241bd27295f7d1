/-! figures of a number -/
theorem p10_b {m : Nat} (h : m ≤ 6) : 1 ≤ 10 ^ m ∧ 10 ^ m ≤ 1000000 := by
  have : ∀ q : Fin 7, 1 ≤ 10 ^ q.val ∧ 10 ^ q.val ≤ 1000000 := by decide
  exact this ⟨m, by omega⟩
theorem p10_s (i : Nat) : ((10 ^ (i + 1) : Nat) : Int) = ((10 ^ i : Nat) : Int) * 10 := by
  rw [Nat.pow_succ, Int.natCast_mul]
  rfl
theorem L_ten5 (k : Int32 → Int32 → Option Int32) {m : Nat} (hm : m ≤ 6) : ∀ (c i n : Nat), i + c = m → c < n → l5_tenTo_4 k (iI (m : Int)) n (iI ((10 ^ i : Nat) : Int)) (iI (i : Int)) = k (iI ((10 ^ m : Nat) : Int)) (iI (m : Int)) := by
  intro c
  induction c with
  | zero =>
    intro i n h1 h2
    obtain ⟨n, rfl⟩ : ∃ q, n = q + 1 := ⟨n - 1, by omega⟩
    obtain rfl : i = m := by omega
    rw [l5_tenTo_4]
    simp (disch := omega) only [iI_add, iI_sub, iI_mul, iI_lt, iI_le, iI_eq, iI_lt0, iI_0lt, iI_le0, iI_0le, iI_eq0, iI_div, iI_rem, iI_max, iI_min, iI_abs, ib_iI, aI_get, aI_upd, iB_eq0, iB_eqi0, iB_eqi1, iB_t, iB_f, iB_ok, okB_0, okB_1, nar0, nar1, o2, o4, o6, o20, o36, o140, Option.bind_some, if_true, if_false, if_pos, if_neg, Int.reduceAdd, Int.reduceSub, Int.reduceMul, Int.reduceNeg, Int.zero_add, Int.add_zero]
  | succ c ih =>
    intro i n h1 h2
    obtain ⟨n, rfl⟩ : ∃ q, n = q + 1 := ⟨n - 1, by omega⟩
    have ih2 := ih (i + 1) n (by omega) (by omega)
    rw [p10_s, show ((i + 1 : Nat) : Int) = (i : Int) + 1 from rfl] at ih2
    rw [l5_tenTo_4]
    simp (disch := omega) only [iI_add, iI_sub, iI_mul, iI_lt, iI_le, iI_eq, iI_lt0, iI_0lt, iI_le0, iI_0le, iI_eq0, iI_div, iI_rem, iI_max, iI_min, iI_abs, ib_iI, aI_get, aI_upd, iB_eq0, iB_eqi0, iB_eqi1, iB_t, iB_f, iB_ok, okB_0, okB_1, nar0, nar1, o2, o4, o6, o20, o36, o140, Option.bind_some, if_true, if_false, if_pos, if_neg, Int.reduceAdd, Int.reduceSub, Int.reduceMul, Int.reduceNeg, Int.zero_add, Int.add_zero]
    exact ih2
theorem ten5 {m : Nat} (hm : m ≤ 6) : f5_tenTo (iI (m : Int)) = some (iI ((10 ^ m : Nat) : Int)) := by
  unfold f5_tenTo
  exact L_ten5 (fun v1 v2 => some v1) hm m 0 FU (by omega) (by unfold FU; omega)
theorem L_ten6 (k : Int32 → Int32 → Option Int32) {m : Nat} (hm : m ≤ 6) : ∀ (c i n : Nat), i + c = m → c < n → l6_tenTo_4 k (iI (m : Int)) n (iI ((10 ^ i : Nat) : Int)) (iI (i : Int)) = k (iI ((10 ^ m : Nat) : Int)) (iI (m : Int)) := by
  intro c
  induction c with
  | zero =>
    intro i n h1 h2
    obtain ⟨n, rfl⟩ : ∃ q, n = q + 1 := ⟨n - 1, by omega⟩
    obtain rfl : i = m := by omega
    rw [l6_tenTo_4]
    simp (disch := omega) only [iI_add, iI_sub, iI_mul, iI_lt, iI_le, iI_eq, iI_lt0, iI_0lt, iI_le0, iI_0le, iI_eq0, iI_div, iI_rem, iI_max, iI_min, iI_abs, ib_iI, aI_get, aI_upd, iB_eq0, iB_eqi0, iB_eqi1, iB_t, iB_f, iB_ok, okB_0, okB_1, nar0, nar1, o2, o4, o6, o20, o36, o140, Option.bind_some, if_true, if_false, if_pos, if_neg, Int.reduceAdd, Int.reduceSub, Int.reduceMul, Int.reduceNeg, Int.zero_add, Int.add_zero]
  | succ c ih =>
    intro i n h1 h2
    obtain ⟨n, rfl⟩ : ∃ q, n = q + 1 := ⟨n - 1, by omega⟩
    have ih2 := ih (i + 1) n (by omega) (by omega)
    rw [p10_s, show ((i + 1 : Nat) : Int) = (i : Int) + 1 from rfl] at ih2
    rw [l6_tenTo_4]
    simp (disch := omega) only [iI_add, iI_sub, iI_mul, iI_lt, iI_le, iI_eq, iI_lt0, iI_0lt, iI_le0, iI_0le, iI_eq0, iI_div, iI_rem, iI_max, iI_min, iI_abs, ib_iI, aI_get, aI_upd, iB_eq0, iB_eqi0, iB_eqi1, iB_t, iB_f, iB_ok, okB_0, okB_1, nar0, nar1, o2, o4, o6, o20, o36, o140, Option.bind_some, if_true, if_false, if_pos, if_neg, Int.reduceAdd, Int.reduceSub, Int.reduceMul, Int.reduceNeg, Int.zero_add, Int.add_zero]
    exact ih2
theorem ten6 {m : Nat} (hm : m ≤ 6) : f6_tenTo (iI (m : Int)) = some (iI ((10 ^ m : Nat) : Int)) := by
  unfold f6_tenTo
  exact L_ten6 (fun v1 v2 => some v1) hm m 0 FU (by omega) (by unfold FU; omega)
/-- the p-th of the n figures of f -/
def dg (n f p : Nat) : Nat := f / 10 ^ (n - 1 - p) % 10
theorem dg_b (n f p : Nat) : dg n f p ≤ 9 := by
  unfold dg
  omega
theorem L_fig (k : Int32 → Int32 → Option Int32) {n : Nat} (hn : n ≤ 6) : ∀ (c x j N : Nat), j + c = n → c < N → x ≤ 1000000 → l5_figureOf_7 k (iI (n : Int)) N (iI (x : Int)) (iI (j : Int)) = k (iI ((x / 10 ^ c : Nat) : Int)) (iI (n : Int)) := by
  intro c
  induction c with
  | zero =>
    intro x j N h1 h2 h3
    obtain ⟨N, rfl⟩ : ∃ q, N = q + 1 := ⟨N - 1, by omega⟩
    obtain rfl : j = n := by omega
    rw [l5_figureOf_7, Nat.pow_zero, Nat.div_one]
    simp (disch := omega) only [iI_add, iI_sub, iI_mul, iI_lt, iI_le, iI_eq, iI_lt0, iI_0lt, iI_le0, iI_0le, iI_eq0, iI_div, iI_rem, iI_max, iI_min, iI_abs, ib_iI, aI_get, aI_upd, iB_eq0, iB_eqi0, iB_eqi1, iB_t, iB_f, iB_ok, okB_0, okB_1, nar0, nar1, o2, o4, o6, o20, o36, o140, Option.bind_some, if_true, if_false, if_pos, if_neg, Int.reduceAdd, Int.reduceSub, Int.reduceMul, Int.reduceNeg, Int.zero_add, Int.add_zero]
  | succ c ih =>
    intro x j N h1 h2 h3
    obtain ⟨N, rfl⟩ : ∃ q, N = q + 1 := ⟨N - 1, by omega⟩
    have ih2 := ih (x / 10) (j + 1) N (by omega) (by omega) (by omega)
    rw [show x / 10 / 10 ^ c = x / 10 ^ (c + 1) by rw [Nat.div_div_eq_div_mul, Nat.pow_succ, Nat.mul_comm], show ((x / 10 : Nat) : Int) = (x : Int) / 10 from rfl, show ((j + 1 : Nat) : Int) = (j : Int) + 1 from rfl] at ih2
    rw [l5_figureOf_7]
    simp (disch := omega) only [iI_add, iI_sub, iI_mul, iI_lt, iI_le, iI_eq, iI_lt0, iI_0lt, iI_le0, iI_0le, iI_eq0, iI_div, iI_rem, iI_max, iI_min, iI_abs, ib_iI, aI_get, aI_upd, iB_eq0, iB_eqi0, iB_eqi1, iB_t, iB_f, iB_ok, okB_0, okB_1, nar0, nar1, o2, o4, o6, o20, o36, o140, Option.bind_some, if_true, if_false, if_pos, if_neg, Int.reduceAdd, Int.reduceSub, Int.reduceMul, Int.reduceNeg, Int.zero_add, Int.add_zero]
    exact ih2
theorem figureOf_s {n f p : Nat} (hn : n ≤ 6) (hp : p < n) (hf : f ≤ 1000000) : f5_figureOf (iI (f : Int)) (iI (n : Int)) (iI (p : Int)) = some (iI (dg n f p : Int)) := by
  unfold f5_figureOf
  have h := L_fig (fun v3 v4 => some (rmI v3 (iI 10))) hn (n - 1 - p) f (p + 1) FU (by omega) (by unfold FU; omega) hf
  rw [show ((p + 1 : Nat) : Int) = (p : Int) + 1 from rfl] at h
  have hx : f / 10 ^ (n - 1 - p) ≤ f := Nat.div_le_self _ _
  rw [iI_add, h]
  unfold dg
  generalize f / 10 ^ (n - 1 - p) = y at *
  rw [iI_rem (by omega) (by omega) (by decide) (by decide)]
  rfl
theorem mfig_s {n f p : Nat} (hn : n ≤ 6) (hp : p < n) (hf : f ≤ 1000000) : rmI (iI (f : Int) / iI ((10 ^ (n - 1 - p) : Nat) : Int)) (iI 10) = iI (dg n f p : Int) := by
  have hb := p10_b (m := n - 1 - p) (by omega)
  have hx : f / 10 ^ (n - 1 - p) ≤ f := Nat.div_le_self _ _
  rw [iI_div (by omega) (by omega) (by omega) (by omega), ← Int.natCast_ediv]
  unfold dg
  generalize f / 10 ^ (n - 1 - p) = y at *
  rw [iI_rem (by omega) (by omega) (by decide) (by decide)]
  rfl
theorem mten_s {n p : Nat} (hn : n ≤ 6) (hp : p < n) : f6_tenTo ((iI (n : Int) - iI 1) - iI (p : Int)) = some (iI ((10 ^ (n - 1 - p) : Nat) : Int)) := by
  rw [iI_sub, iI_sub, show (n : Int) - 1 - (p : Int) = ((n - 1 - p : Nat) : Int) by omega, ten6 (by omega)]
