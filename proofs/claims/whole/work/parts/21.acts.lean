/-! shelves and rows of acts -/
theorem setNumber_s {N : Nat} {A : Int → Int} {j v : Int} (hN : N ≤ 140) (h1 : 0 ≤ j) (h2 : j < (N : Int)) : f2_setNumber N (iI j) (iI v) (aI A) = some (aI (uz A j v)) := by
  unfold f2_setNumber
  simp (disch := omega) only [oN, iI_add, iI_sub, iI_mul, iI_lt, iI_le, iI_eq, iI_lt0, iI_0lt, iI_le0, iI_0le, iI_eq0, iI_div, iI_rem, iI_max, iI_min, iI_abs, ib_iI, aI_get, aI_upd, iB_eq0, iB_eqi0, iB_eqi1, iB_t, iB_f, iB_ok, okB_0, okB_1, nar0, nar1, o2, o4, o6, o20, o36, o140, Option.bind_some, if_true, if_false, if_pos, if_neg, Int.reduceAdd, Int.reduceSub, Int.reduceMul, Int.reduceNeg, Int.zero_add, Int.add_zero]
theorem numberAt_s {N : Nat} {A : Int → Int} {j : Int} (hN : N ≤ 140) (h1 : 0 ≤ j) (h2 : j < (N : Int)) : f2_numberAt N (iI j) (aI A) = some (iI (A j)) := by
  unfold f2_numberAt
  simp (disch := omega) only [oN, iI_add, iI_sub, iI_mul, iI_lt, iI_le, iI_eq, iI_lt0, iI_0lt, iI_le0, iI_0le, iI_eq0, iI_div, iI_rem, iI_max, iI_min, iI_abs, ib_iI, aI_get, aI_upd, iB_eq0, iB_eqi0, iB_eqi1, iB_t, iB_f, iB_ok, okB_0, okB_1, nar0, nar1, o2, o4, o6, o20, o36, o140, Option.bind_some, if_true, if_false, if_pos, if_neg, Int.reduceAdd, Int.reduceSub, Int.reduceMul, Int.reduceNeg, Int.zero_add, Int.add_zero]
def putF (A : Int → Int) (b : Int) (d : DZ) : Int → Int := uz (uz (uz (uz (uz (uz (uz (uz (uz (uz A b (dS d 0)) (b + 1) (dS d 1)) (b + 2) (dS d 2)) (b + 3) (dS d 3)) (b + 4) (dC d)) (b + 5) (dY d)) (b + 6) (dO d)) (b + 7) (dK d)) (b + 8) (dH d)) (b + 9) (dL d)
/-- a dog in the class's shelf: ten cells from b on -/
def CR (W : Int) (A : Int → Int) (b : Int) (d : DZ) : Prop := (∀ w : Int, 0 ≤ w → w < W → A (b + w) = dS d w) ∧ A (b + 4) = dC d ∧ A (b + 5) = dY d ∧ A (b + 6) = dO d ∧ A (b + 7) = dK d ∧ A (b + 8) = dH d ∧ A (b + 9) = dL d
theorem putF_ne {A : Int → Int} {b j : Int} {d : DZ} (h : j < b ∨ b + 10 ≤ j) : putF A b d j = A j := by
  unfold putF
  rw [uz_ne (by omega), uz_ne (by omega), uz_ne (by omega), uz_ne (by omega), uz_ne (by omega), uz_ne (by omega), uz_ne (by omega), uz_ne (by omega), uz_ne (by omega), uz_ne (by omega)]
theorem CR_put {W : Int} (A : Int → Int) (b : Int) (d : DZ) (hW : W ≤ 4) : CR W (putF A b d) b d := by
  unfold putF
  refine ⟨fun w h1 h2 => ?_, ?_, ?_, ?_, ?_, ?_, ?_⟩
  · rw [uz_ne (by omega), uz_ne (by omega), uz_ne (by omega), uz_ne (by omega), uz_ne (by omega), uz_ne (by omega)]
    by_cases c3 : w = 3
    · rw [c3, uz_same]
    · rw [uz_ne (by omega)]
      by_cases c2 : w = 2
      · rw [c2, uz_same]
      · rw [uz_ne (by omega)]
        by_cases c1 : w = 1
        · rw [c1, uz_same]
        · rw [uz_ne (by omega), show w = 0 by omega, Int.add_zero, uz_same]
  · rw [uz_ne (by omega), uz_ne (by omega), uz_ne (by omega), uz_ne (by omega), uz_ne (by omega), uz_same]
  · rw [uz_ne (by omega), uz_ne (by omega), uz_ne (by omega), uz_ne (by omega), uz_same]
  · rw [uz_ne (by omega), uz_ne (by omega), uz_ne (by omega), uz_same]
  · rw [uz_ne (by omega), uz_ne (by omega), uz_same]
  · rw [uz_ne (by omega), uz_same]
  · rw [uz_same]
theorem put_l {N : Nat} {A s : Int → Int} {b : Int} (hN : N ≤ 140) (h1 : 0 ≤ b) (h2 : b + 10 ≤ (N : Int)) (k : Int32 → AZ → Option AZ) (n : Nat) : l2_put_8 k (iI b) (aI s) N (n + 1 + 1 + 1 + 1 + 1) (iI 0) (aI A) = k (iI 4) (aI (uz (uz (uz (uz A b (s 0)) (b + 1) (s 1)) (b + 2) (s 2)) (b + 3) (s 3))) := by
  rw [l2_put_8]
  simp (disch := omega) only [iI_add, iI_sub, iI_mul, iI_lt, iI_le, iI_eq, iI_lt0, iI_0lt, iI_le0, iI_0le, iI_eq0, iI_div, iI_rem, iI_max, iI_min, iI_abs, ib_iI, aI_get, aI_upd, iB_eq0, iB_eqi0, iB_eqi1, iB_t, iB_f, iB_ok, okB_0, okB_1, nar0, nar1, o2, o4, o6, o20, o36, o140, Option.bind_some, if_true, if_false, if_pos, if_neg, Int.reduceAdd, Int.reduceSub, Int.reduceMul, Int.reduceNeg, Int.zero_add, Int.add_zero, strengthOf_s, setNumber_s]
  rw [l2_put_8]
  simp (disch := omega) only [iI_add, iI_sub, iI_mul, iI_lt, iI_le, iI_eq, iI_lt0, iI_0lt, iI_le0, iI_0le, iI_eq0, iI_div, iI_rem, iI_max, iI_min, iI_abs, ib_iI, aI_get, aI_upd, iB_eq0, iB_eqi0, iB_eqi1, iB_t, iB_f, iB_ok, okB_0, okB_1, nar0, nar1, o2, o4, o6, o20, o36, o140, Option.bind_some, if_true, if_false, if_pos, if_neg, Int.reduceAdd, Int.reduceSub, Int.reduceMul, Int.reduceNeg, Int.zero_add, Int.add_zero, strengthOf_s, setNumber_s]
  rw [l2_put_8]
  simp (disch := omega) only [iI_add, iI_sub, iI_mul, iI_lt, iI_le, iI_eq, iI_lt0, iI_0lt, iI_le0, iI_0le, iI_eq0, iI_div, iI_rem, iI_max, iI_min, iI_abs, ib_iI, aI_get, aI_upd, iB_eq0, iB_eqi0, iB_eqi1, iB_t, iB_f, iB_ok, okB_0, okB_1, nar0, nar1, o2, o4, o6, o20, o36, o140, Option.bind_some, if_true, if_false, if_pos, if_neg, Int.reduceAdd, Int.reduceSub, Int.reduceMul, Int.reduceNeg, Int.zero_add, Int.add_zero, strengthOf_s, setNumber_s]
  rw [l2_put_8]
  simp (disch := omega) only [iI_add, iI_sub, iI_mul, iI_lt, iI_le, iI_eq, iI_lt0, iI_0lt, iI_le0, iI_0le, iI_eq0, iI_div, iI_rem, iI_max, iI_min, iI_abs, ib_iI, aI_get, aI_upd, iB_eq0, iB_eqi0, iB_eqi1, iB_t, iB_f, iB_ok, okB_0, okB_1, nar0, nar1, o2, o4, o6, o20, o36, o140, Option.bind_some, if_true, if_false, if_pos, if_neg, Int.reduceAdd, Int.reduceSub, Int.reduceMul, Int.reduceNeg, Int.zero_add, Int.add_zero, strengthOf_s, setNumber_s]
  rw [l2_put_8]
  simp (disch := omega) only [iI_add, iI_sub, iI_mul, iI_lt, iI_le, iI_eq, iI_lt0, iI_0lt, iI_le0, iI_0le, iI_eq0, iI_div, iI_rem, iI_max, iI_min, iI_abs, ib_iI, aI_get, aI_upd, iB_eq0, iB_eqi0, iB_eqi1, iB_t, iB_f, iB_ok, okB_0, okB_1, nar0, nar1, o2, o4, o6, o20, o36, o140, Option.bind_some, if_true, if_false, if_pos, if_neg, Int.reduceAdd, Int.reduceSub, Int.reduceMul, Int.reduceNeg, Int.zero_add, Int.add_zero, strengthOf_s, setNumber_s]
theorem FU5 : FU = 19995 + 1 + 1 + 1 + 1 + 1 := rfl
theorem put_s {N : Nat} {A : Int → Int} {p W : Int} {d : DZ} (hN : N ≤ 140) (h1 : 0 ≤ p) (h2 : 10 * p + 10 ≤ (N : Int)) (hd : DOK W d) : f2_put N (iI p) (aI A) (aI (dS d)) (iI (dC d)) (iI (dY d)) (iI (dO d)) (iI (dK d)) (iI (dH d)) (iI (dL d)) = some (aI (putF A (10 * p) d)) := by
  obtain ⟨q1, q2, q3, q4, q5, q6, q7, q8, q9, q10⟩ := hd
  unfold f2_put
  rw [iI_mul, show p * 10 = 10 * p by omega, FU5, put_l hN (by omega) h2]
  have hb1 : 0 ≤ 10 * p := by omega
  generalize 10 * p = b at *
  have e5 : b + 4 + 1 = b + 5 := by omega
  have e6 : b + 4 + 2 = b + 6 := by omega
  have e7 : b + 4 + 3 = b + 7 := by omega
  have e8 : b + 4 + 4 = b + 8 := by omega
  have e9 : b + 4 + 5 = b + 9 := by omega
  rw [asNumber_z q7 q8, asNumber_z q9 q10]
  simp (disch := omega) only [iI_add, iI_sub, iI_mul, iI_lt, iI_le, iI_eq, iI_lt0, iI_0lt, iI_le0, iI_0le, iI_eq0, iI_div, iI_rem, iI_max, iI_min, iI_abs, ib_iI, aI_get, aI_upd, iB_eq0, iB_eqi0, iB_eqi1, iB_t, iB_f, iB_ok, okB_0, okB_1, nar0, nar1, o2, o4, o6, o20, o36, o140, Option.bind_some, if_true, if_false, if_pos, if_neg, Int.reduceAdd, Int.reduceSub, Int.reduceMul, Int.reduceNeg, Int.zero_add, Int.add_zero, e5, e6, e7, e8, e9, setNumber_s]
  rfl
theorem take_l {N : Nat} {A s : Int → Int} {b : Int} (hN : N ≤ 140) (h1 : 0 ≤ b) (h2 : b + 10 ≤ (N : Int)) (k : Int32 → AZ → Option (AZ × Int32 × Int32 × Int32 × Int32 × Int32 × Int32)) (n : Nat) : l2_take_8 k (iI b) (aI A) N (n + 1 + 1 + 1 + 1 + 1) (iI 0) (aI s) = k (iI 4) (aI (cp4 (fun w => A (b + w)) s)) := by
  have e := cp4_e (fun w => A (b + w)) s
  rw [← e]
  rw [l2_take_8]
  simp (disch := omega) only [iI_add, iI_sub, iI_mul, iI_lt, iI_le, iI_eq, iI_lt0, iI_0lt, iI_le0, iI_0le, iI_eq0, iI_div, iI_rem, iI_max, iI_min, iI_abs, ib_iI, aI_get, aI_upd, iB_eq0, iB_eqi0, iB_eqi1, iB_t, iB_f, iB_ok, okB_0, okB_1, nar0, nar1, o2, o4, o6, o20, o36, o140, Option.bind_some, if_true, if_false, if_pos, if_neg, Int.reduceAdd, Int.reduceSub, Int.reduceMul, Int.reduceNeg, Int.zero_add, Int.add_zero, numberAt_s, setStrength_s]
  rw [l2_take_8]
  simp (disch := omega) only [iI_add, iI_sub, iI_mul, iI_lt, iI_le, iI_eq, iI_lt0, iI_0lt, iI_le0, iI_0le, iI_eq0, iI_div, iI_rem, iI_max, iI_min, iI_abs, ib_iI, aI_get, aI_upd, iB_eq0, iB_eqi0, iB_eqi1, iB_t, iB_f, iB_ok, okB_0, okB_1, nar0, nar1, o2, o4, o6, o20, o36, o140, Option.bind_some, if_true, if_false, if_pos, if_neg, Int.reduceAdd, Int.reduceSub, Int.reduceMul, Int.reduceNeg, Int.zero_add, Int.add_zero, numberAt_s, setStrength_s]
  rw [l2_take_8]
  simp (disch := omega) only [iI_add, iI_sub, iI_mul, iI_lt, iI_le, iI_eq, iI_lt0, iI_0lt, iI_le0, iI_0le, iI_eq0, iI_div, iI_rem, iI_max, iI_min, iI_abs, ib_iI, aI_get, aI_upd, iB_eq0, iB_eqi0, iB_eqi1, iB_t, iB_f, iB_ok, okB_0, okB_1, nar0, nar1, o2, o4, o6, o20, o36, o140, Option.bind_some, if_true, if_false, if_pos, if_neg, Int.reduceAdd, Int.reduceSub, Int.reduceMul, Int.reduceNeg, Int.zero_add, Int.add_zero, numberAt_s, setStrength_s]
  rw [l2_take_8]
  simp (disch := omega) only [iI_add, iI_sub, iI_mul, iI_lt, iI_le, iI_eq, iI_lt0, iI_0lt, iI_le0, iI_0le, iI_eq0, iI_div, iI_rem, iI_max, iI_min, iI_abs, ib_iI, aI_get, aI_upd, iB_eq0, iB_eqi0, iB_eqi1, iB_t, iB_f, iB_ok, okB_0, okB_1, nar0, nar1, o2, o4, o6, o20, o36, o140, Option.bind_some, if_true, if_false, if_pos, if_neg, Int.reduceAdd, Int.reduceSub, Int.reduceMul, Int.reduceNeg, Int.zero_add, Int.add_zero, numberAt_s, setStrength_s]
  rw [l2_take_8]
  simp (disch := omega) only [iI_add, iI_sub, iI_mul, iI_lt, iI_le, iI_eq, iI_lt0, iI_0lt, iI_le0, iI_0le, iI_eq0, iI_div, iI_rem, iI_max, iI_min, iI_abs, ib_iI, aI_get, aI_upd, iB_eq0, iB_eqi0, iB_eqi1, iB_t, iB_f, iB_ok, okB_0, okB_1, nar0, nar1, o2, o4, o6, o20, o36, o140, Option.bind_some, if_true, if_false, if_pos, if_neg, Int.reduceAdd, Int.reduceSub, Int.reduceMul, Int.reduceNeg, Int.zero_add, Int.add_zero, numberAt_s, setStrength_s]
theorem take_s {N : Nat} {A s : Int → Int} {p W : Int} {d : DZ} (hN : N ≤ 140) (h1 : 0 ≤ p) (h2 : 10 * p + 10 ≤ (N : Int)) (hd : DOK W d) (hA : CR W A (10 * p) d) : f2_take N (iI p) (aI A) (aI s) = some (aI (cp4 (fun w => A (10 * p + w)) s), iI (dC d), iI (dY d), iI (dO d), iI (dK d), iI (dH d), iI (dL d)) := by
  obtain ⟨q1, q2, q3, q4, q5, q6, q7, q8, q9, q10⟩ := hd
  obtain ⟨r1, r2, r3, r4, r5, r6, r7⟩ := hA
  unfold f2_take
  rw [iI_mul, show p * 10 = 10 * p by omega, FU5, take_l hN (by omega) h2]
  have hb1 : 0 ≤ 10 * p := by omega
  generalize 10 * p = b at *
  have e5 : b + 4 + 1 = b + 5 := by omega
  have e6 : b + 4 + 2 = b + 6 := by omega
  have e7 : b + 4 + 3 = b + 7 := by omega
  have e8 : b + 4 + 4 = b + 8 := by omega
  have e9 : b + 4 + 5 = b + 9 := by omega
  simp (disch := omega) only [iI_add, iI_sub, iI_mul, iI_lt, iI_le, iI_eq, iI_lt0, iI_0lt, iI_le0, iI_0le, iI_eq0, iI_div, iI_rem, iI_max, iI_min, iI_abs, ib_iI, aI_get, aI_upd, iB_eq0, iB_eqi0, iB_eqi1, iB_t, iB_f, iB_ok, okB_0, okB_1, nar0, nar1, o2, o4, o6, o20, o36, o140, Option.bind_some, if_true, if_false, if_pos, if_neg, Int.reduceAdd, Int.reduceSub, Int.reduceMul, Int.reduceNeg, Int.zero_add, Int.add_zero, e5, e6, e7, e8, e9, numberAt_s, r2, r3, r4, r5, r6, r7]
  by_cases c1 : dH d = 1
  · by_cases c2 : dL d = 1
    · rw [c1, c2]
      simp (disch := omega) only [iI_add, iI_sub, iI_mul, iI_lt, iI_le, iI_eq, iI_lt0, iI_0lt, iI_le0, iI_0le, iI_eq0, iI_div, iI_rem, iI_max, iI_min, iI_abs, ib_iI, aI_get, aI_upd, iB_eq0, iB_eqi0, iB_eqi1, iB_t, iB_f, iB_ok, okB_0, okB_1, nar0, nar1, o2, o4, o6, o20, o36, o140, Option.bind_some, if_true, if_false, if_pos, if_neg, Int.reduceAdd, Int.reduceSub, Int.reduceMul, Int.reduceNeg, Int.zero_add, Int.add_zero]
    · rw [c1, show dL d = 0 by omega]
      simp (disch := omega) only [iI_add, iI_sub, iI_mul, iI_lt, iI_le, iI_eq, iI_lt0, iI_0lt, iI_le0, iI_0le, iI_eq0, iI_div, iI_rem, iI_max, iI_min, iI_abs, ib_iI, aI_get, aI_upd, iB_eq0, iB_eqi0, iB_eqi1, iB_t, iB_f, iB_ok, okB_0, okB_1, nar0, nar1, o2, o4, o6, o20, o36, o140, Option.bind_some, if_true, if_false, if_pos, if_neg, Int.reduceAdd, Int.reduceSub, Int.reduceMul, Int.reduceNeg, Int.zero_add, Int.add_zero]
  · by_cases c2 : dL d = 1
    · rw [c2, show dH d = 0 by omega]
      simp (disch := omega) only [iI_add, iI_sub, iI_mul, iI_lt, iI_le, iI_eq, iI_lt0, iI_0lt, iI_le0, iI_0le, iI_eq0, iI_div, iI_rem, iI_max, iI_min, iI_abs, ib_iI, aI_get, aI_upd, iB_eq0, iB_eqi0, iB_eqi1, iB_t, iB_f, iB_ok, okB_0, okB_1, nar0, nar1, o2, o4, o6, o20, o36, o140, Option.bind_some, if_true, if_false, if_pos, if_neg, Int.reduceAdd, Int.reduceSub, Int.reduceMul, Int.reduceNeg, Int.zero_add, Int.add_zero]
    · rw [show dL d = 0 by omega, show dH d = 0 by omega]
      simp (disch := omega) only [iI_add, iI_sub, iI_mul, iI_lt, iI_le, iI_eq, iI_lt0, iI_0lt, iI_le0, iI_0le, iI_eq0, iI_div, iI_rem, iI_max, iI_min, iI_abs, ib_iI, aI_get, aI_upd, iB_eq0, iB_eqi0, iB_eqi1, iB_t, iB_f, iB_ok, okB_0, okB_1, nar0, nar1, o2, o4, o6, o20, o36, o140, Option.bind_some, if_true, if_false, if_pos, if_neg, Int.reduceAdd, Int.reduceSub, Int.reduceMul, Int.reduceNeg, Int.zero_add, Int.add_zero]
/-- the first row dropped, so far as j -/
def drp (A : Int → Int) (t : Int) : Int → Int := fun j => if 0 ≤ j ∧ j < t then A (j + 10) else A j
theorem L_drop (A : Int → Int) (k : Int32 → AZ → Option AZ) : ∀ (f i n : Nat), i + f = 130 → f < n → l2_dropFirst_3 k 140 n (iI ((i : Int) + 10)) (aI (drp A (i : Int))) = k (iI 140) (aI (drp A 130)) := by
  intro f
  induction f with
  | zero =>
    intro i n h1 h2
    obtain ⟨n, rfl⟩ : ∃ q, n = q + 1 := ⟨n - 1, by omega⟩
    obtain rfl : i = 130 := by omega
    rw [l2_dropFirst_3, if_pos (by decide)]
    rfl
  | succ f ih =>
    intro i n h1 h2
    obtain ⟨n, rfl⟩ : ∃ q, n = q + 1 := ⟨n - 1, by omega⟩
    have ih2 := ih (i + 1) n (by omega) (by omega)
    rw [show ((i + 1 : Nat) : Int) = (i : Int) + 1 from rfl] at ih2
    have e1 : uz (drp A (i : Int)) ((i : Int) + 10 - 10) (drp A (i : Int) ((i : Int) + 10)) = drp A ((i : Int) + 1) := by
      funext j
      unfold uz drp
      by_cases c : j = (i : Int)
      · rw [if_pos (by omega), if_neg (by omega), if_pos (by omega), c]
      · rw [if_neg (by omega)]
        by_cases c2 : 0 ≤ j ∧ j < (i : Int)
        · rw [if_pos c2, if_pos (by omega)]
        · rw [if_neg c2, if_neg (by omega)]
    have e2 : (i : Int) + 10 + 1 = (i : Int) + 1 + 10 := by omega
    rw [l2_dropFirst_3, oN]
    simp (disch := omega) only [iI_add, iI_sub, iI_mul, iI_lt, iI_le, iI_eq, iI_lt0, iI_0lt, iI_le0, iI_0le, iI_eq0, iI_div, iI_rem, iI_max, iI_min, iI_abs, ib_iI, aI_get, aI_upd, iB_eq0, iB_eqi0, iB_eqi1, iB_t, iB_f, iB_ok, okB_0, okB_1, nar0, nar1, o2, o4, o6, o20, o36, o140, Option.bind_some, if_true, if_false, if_pos, if_neg, Int.reduceAdd, Int.reduceSub, Int.reduceMul, Int.reduceNeg, Int.zero_add, Int.add_zero, setNumber_s, e1, e2]
    exact ih2
theorem drop_s (A : Int → Int) : f2_dropFirst 140 (aI A) = some (aI (drp A 130)) := by
  have h := L_drop A (fun v1 nu => some nu) 130 0 FU (by omega) (by unfold FU; omega)
  have e : drp A ((0 : Nat) : Int) = A := by
    funext j
    unfold drp
    rw [if_neg (by omega)]
  rw [e] at h
  exact h
/-- the reference's row x: a copy of the first ten cells -/
def rowF (R M : Int → Int) (b t : Int) : Int → Int := fun j => if b ≤ j ∧ j < b + t then M (j - b) else R j
theorem L_keepAct (R M : Int → Int) {x : Int} (hx1 : 0 ≤ x) (hx2 : x < 14) (k : Int32 → AZ → Option (Int32 × Int32 × AZ)) : ∀ (f i n : Nat), i + f = 10 → f < n → l6_keepAct_2 k (iI x) (aI M) n (iI (i : Int)) (aI (rowF R M (10 * x) (i : Int))) = k (iI 10) (aI (rowF R M (10 * x) 10)) := by
  intro f
  induction f with
  | zero =>
    intro i n h1 h2
    obtain ⟨n, rfl⟩ : ∃ q, n = q + 1 := ⟨n - 1, by omega⟩
    obtain rfl : i = 10 := by omega
    rw [l6_keepAct_2, if_pos (by decide)]
    rfl
  | succ f ih =>
    intro i n h1 h2
    obtain ⟨n, rfl⟩ : ∃ q, n = q + 1 := ⟨n - 1, by omega⟩
    have ih2 := ih (i + 1) n (by omega) (by omega)
    rw [show ((i + 1 : Nat) : Int) = (i : Int) + 1 from rfl] at ih2
    have e1 : uz (rowF R M (10 * x) (i : Int)) (10 * x + (i : Int)) (M (i : Int)) = rowF R M (10 * x) ((i : Int) + 1) := by
      funext j
      unfold uz rowF
      by_cases c : j = 10 * x + (i : Int)
      · rw [if_pos c, if_pos (by omega), show j - 10 * x = (i : Int) by omega]
      · rw [if_neg c]
        by_cases c2 : 10 * x ≤ j ∧ j < 10 * x + (i : Int)
        · rw [if_pos c2, if_pos (by omega)]
        · rw [if_neg c2, if_neg (by omega)]
    rw [l6_keepAct_2]
    simp (disch := omega) only [iI_add, iI_sub, iI_mul, iI_lt, iI_le, iI_eq, iI_lt0, iI_0lt, iI_le0, iI_0le, iI_eq0, iI_div, iI_rem, iI_max, iI_min, iI_abs, ib_iI, aI_get, aI_upd, iB_eq0, iB_eqi0, iB_eqi1, iB_t, iB_f, iB_ok, okB_0, okB_1, nar0, nar1, o2, o4, o6, o20, o36, o140, Option.bind_some, if_true, if_false, if_pos, if_neg, Int.reduceAdd, Int.reduceSub, Int.reduceMul, Int.reduceNeg, Int.zero_add, Int.add_zero, e1]
    exact ih2
theorem keepAct_s (R M : Int → Int) {x a : Int} (hx1 : 0 ≤ x) (hx2 : x < 14) (ha1 : 0 ≤ a) (ha2 : a ≤ 14) : f6_keepAct (iI a) (iI x) (aI M) (aI R) = some (iI (if 14 ≤ a then 14 else a + 1), iI ((x + 1) % 14), aI (rowF R M (10 * x) 10)) := by
  have e : rowF R M (10 * x) ((0 : Nat) : Int) = R := by
    funext j
    unfold rowF
    rw [if_neg (by omega)]
  unfold f6_keepAct
  have h := fun k => L_keepAct R M hx1 hx2 k 10 0 FU (by omega) (by unfold FU; omega)
  rw [e] at h
  rw [show (iI 0) = iI ((0 : Nat) : Int) from rfl, h]
  by_cases c : 14 ≤ a
  · rw [if_pos c]
    simp (disch := omega) only [iI_add, iI_sub, iI_mul, iI_lt, iI_le, iI_eq, iI_lt0, iI_0lt, iI_le0, iI_0le, iI_eq0, iI_div, iI_rem, iI_max, iI_min, iI_abs, ib_iI, aI_get, aI_upd, iB_eq0, iB_eqi0, iB_eqi1, iB_t, iB_f, iB_ok, okB_0, okB_1, nar0, nar1, o2, o4, o6, o20, o36, o140, Option.bind_some, if_true, if_false, if_pos, if_neg, Int.reduceAdd, Int.reduceSub, Int.reduceMul, Int.reduceNeg, Int.zero_add, Int.add_zero]
  · rw [if_neg c]
    simp (disch := omega) only [iI_add, iI_sub, iI_mul, iI_lt, iI_le, iI_eq, iI_lt0, iI_0lt, iI_le0, iI_0le, iI_eq0, iI_div, iI_rem, iI_max, iI_min, iI_abs, ib_iI, aI_get, aI_upd, iB_eq0, iB_eqi0, iB_eqi1, iB_t, iB_f, iB_ok, okB_0, okB_1, nar0, nar1, o2, o4, o6, o20, o36, o140, Option.bind_some, if_true, if_false, if_pos, if_neg, Int.reduceAdd, Int.reduceSub, Int.reduceMul, Int.reduceNeg, Int.zero_add, Int.add_zero]
theorem L_undo (R M : Int → Int) {x : Int} (hx1 : 0 ≤ x) (hx2 : x < 14) (k : Int32 → AZ → Option (Int32 × Int32 × Int32 × AZ)) : ∀ (f i n : Nat), i + f = 10 → f < n → l6_undo_36 k (iI x) (aI R) n (iI (i : Int)) (aI (rowF M (fun j => R (10 * x + j)) 0 (i : Int))) = k (iI 10) (aI (rowF M (fun j => R (10 * x + j)) 0 10)) := by
  intro f
  induction f with
  | zero =>
    intro i n h1 h2
    obtain ⟨n, rfl⟩ : ∃ q, n = q + 1 := ⟨n - 1, by omega⟩
    obtain rfl : i = 10 := by omega
    rw [l6_undo_36, if_pos (by decide)]
    rfl
  | succ f ih =>
    intro i n h1 h2
    obtain ⟨n, rfl⟩ : ∃ q, n = q + 1 := ⟨n - 1, by omega⟩
    have ih2 := ih (i + 1) n (by omega) (by omega)
    rw [show ((i + 1 : Nat) : Int) = (i : Int) + 1 from rfl] at ih2
    have e1 : uz (rowF M (fun j => R (10 * x + j)) 0 (i : Int)) (i : Int) (R (10 * x + (i : Int))) = rowF M (fun j => R (10 * x + j)) 0 ((i : Int) + 1) := by
      funext j
      unfold uz rowF
      by_cases c : j = (i : Int)
      · rw [if_pos c, if_pos (by omega), show j - 0 = (i : Int) by omega]
      · rw [if_neg c]
        by_cases c2 : 0 ≤ j ∧ j < 0 + (i : Int)
        · rw [if_pos c2, if_pos (by omega)]
        · rw [if_neg c2, if_neg (by omega)]
    rw [l6_undo_36]
    simp (disch := omega) only [iI_add, iI_sub, iI_mul, iI_lt, iI_le, iI_eq, iI_lt0, iI_0lt, iI_le0, iI_0le, iI_eq0, iI_div, iI_rem, iI_max, iI_min, iI_abs, ib_iI, aI_get, aI_upd, iB_eq0, iB_eqi0, iB_eqi1, iB_t, iB_f, iB_ok, okB_0, okB_1, nar0, nar1, o2, o4, o6, o20, o36, o140, Option.bind_some, if_true, if_false, if_pos, if_neg, Int.reduceAdd, Int.reduceSub, Int.reduceMul, Int.reduceNeg, Int.zero_add, Int.add_zero, e1]
    exact ih2
