/-! keep, again -/
def KR (W : Int) (A R kz : Int → Int) : Prop := ∀ s : Int, 0 ≤ s → s < 2 → (kz s = 0 ∨ kz s = 1) ∧ (kz s = 1 → ∃ d : DZ, DOK W d ∧ CR W A (10 * s) d ∧ MR W R (10 * s) d)
theorem KR_0 {W : Int} (A R : Int → Int) {kz : Int → Int} (h0 : kz 0 = 0) (h1 : kz 1 = 0) : KR W A R kz := by
  intro s s1 s2
  have : kz s = 0 := by
    by_cases c : s = 0
    · rw [c]; exact h0
    · rw [show s = 1 by omega]; exact h1
  exact ⟨Or.inl this, fun q => absurd q (by omega)⟩
theorem noSlot_s {s : Int} (h1 : -2147483648 ≤ s) (h2 : s < 2147483648) : f5_isNoSlot (iI s) = some (iB (decide (¬ (0 ≤ s ∧ s ≤ 1)))) := by
  unfold f5_isNoSlot
  by_cases c : s < 0
  · rw [decide_eq_true (by omega)]
    simp (disch := omega) only [iI_add, iI_sub, iI_mul, iI_lt, iI_le, iI_eq, iI_lt0, iI_0lt, iI_le0, iI_0le, iI_eq0, iI_div, iI_rem, iI_max, iI_min, iI_abs, ib_iI, aI_get, aI_upd, iB_eq0, iB_eqi0, iB_eqi1, iB_t, iB_f, iB_ok, okB_0, okB_1, nar0, nar1, o2, o4, o6, o20, o36, o140, Option.bind_some, if_true, if_false, if_pos, if_neg, Int.reduceAdd, Int.reduceSub, Int.reduceMul, Int.reduceNeg, Int.zero_add, Int.add_zero]
  · by_cases c2 : s < 2
    · rw [decide_eq_false (by omega)]
      simp (disch := omega) only [iI_add, iI_sub, iI_mul, iI_lt, iI_le, iI_eq, iI_lt0, iI_0lt, iI_le0, iI_0le, iI_eq0, iI_div, iI_rem, iI_max, iI_min, iI_abs, ib_iI, aI_get, aI_upd, iB_eq0, iB_eqi0, iB_eqi1, iB_t, iB_f, iB_ok, okB_0, okB_1, nar0, nar1, o2, o4, o6, o20, o36, o140, Option.bind_some, if_true, if_false, if_pos, if_neg, Int.reduceAdd, Int.reduceSub, Int.reduceMul, Int.reduceNeg, Int.zero_add, Int.add_zero]
    · rw [decide_eq_true (by omega)]
      simp (disch := omega) only [iI_add, iI_sub, iI_mul, iI_lt, iI_le, iI_eq, iI_lt0, iI_0lt, iI_le0, iI_0le, iI_eq0, iI_div, iI_rem, iI_max, iI_min, iI_abs, ib_iI, aI_get, aI_upd, iB_eq0, iB_eqi0, iB_eqi1, iB_t, iB_f, iB_ok, okB_0, okB_1, nar0, nar1, o2, o4, o6, o20, o36, o140, Option.bind_some, if_true, if_false, if_pos, if_neg, Int.reduceAdd, Int.reduceSub, Int.reduceMul, Int.reduceNeg, Int.zero_add, Int.add_zero]
theorem L_keep (R M : Int → Int) {x : Int} (hx1 : 0 ≤ x) (hx2 : x < 2) (k : Int32 → AZ → Option (Int32 × AZ × AZ)) : ∀ (f i n : Nat), i + f = 10 → f < n → l6_keep_21 k (iI x) (aI M) n (iI (i : Int)) (aI (rowF R M (10 * x) (i : Int))) = k (iI 10) (aI (rowF R M (10 * x) 10)) := by
  intro f
  induction f with
  | zero =>
    intro i n h1 h2
    obtain ⟨n, rfl⟩ : ∃ q, n = q + 1 := ⟨n - 1, by omega⟩
    obtain rfl : i = 10 := by omega
    rw [l6_keep_21, if_pos (by decide)]
    rfl
  | succ f ih =>
    intro i n h1 h2
    obtain ⟨n, rfl⟩ : ∃ q, n = q + 1 := ⟨n - 1, by omega⟩
    have ih2 := ih (i + 1) n (by omega) (by omega)
    rw [show ((i + 1 : Nat) : Int) = (i : Int) + 1 from rfl] at ih2
    have e1 : uz (rowF R M (10 * x) (i : Int)) (10 * x + (i : Int)) (M (i : Int)) = rowF R M (10 * x) ((i : Int) + 1) := by
      funext j
      unfold uz rowF
      by_cases c : j = 10 * x + (i : Int)
      · rw [if_pos c, if_pos (by omega), show j - 10 * x = (i : Int) by omega]
      · rw [if_neg c]
        by_cases c2 : 10 * x ≤ j ∧ j < 10 * x + (i : Int)
        · rw [if_pos c2, if_pos (by omega)]
        · rw [if_neg c2, if_neg (by omega)]
    rw [l6_keep_21]
    simp (disch := omega) only [iI_add, iI_sub, iI_mul, iI_lt, iI_le, iI_eq, iI_lt0, iI_0lt, iI_le0, iI_0le, iI_eq0, iI_div, iI_rem, iI_max, iI_min, iI_abs, ib_iI, aI_get, aI_upd, iB_eq0, iB_eqi0, iB_eqi1, iB_t, iB_f, iB_ok, okB_0, okB_1, nar0, nar1, o2, o4, o6, o20, o36, o140, Option.bind_some, if_true, if_false, if_pos, if_neg, Int.reduceAdd, Int.reduceSub, Int.reduceMul, Int.reduceNeg, Int.zero_add, Int.add_zero, e1]
    exact ih2
theorem L_again (R M : Int → Int) {x : Int} (hx1 : 0 ≤ x) (hx2 : x < 2) (k : Int32 → AZ → Option (Int32 × Int32 × AZ)) : ∀ (f i n : Nat), i + f = 10 → f < n → l6_again_26 k (iI x) (aI R) n (iI (i : Int)) (aI (rowF M (fun j => R (10 * x + j)) 0 (i : Int))) = k (iI 10) (aI (rowF M (fun j => R (10 * x + j)) 0 10)) := by
  intro f
  induction f with
  | zero =>
    intro i n h1 h2
    obtain ⟨n, rfl⟩ : ∃ q, n = q + 1 := ⟨n - 1, by omega⟩
    obtain rfl : i = 10 := by omega
    rw [l6_again_26, if_pos (by decide)]
    rfl
  | succ f ih =>
    intro i n h1 h2
    obtain ⟨n, rfl⟩ : ∃ q, n = q + 1 := ⟨n - 1, by omega⟩
    have ih2 := ih (i + 1) n (by omega) (by omega)
    rw [show ((i + 1 : Nat) : Int) = (i : Int) + 1 from rfl] at ih2
    have e1 : uz (rowF M (fun j => R (10 * x + j)) 0 (i : Int)) (i : Int) (R (10 * x + (i : Int))) = rowF M (fun j => R (10 * x + j)) 0 ((i : Int) + 1) := by
      funext j
      unfold uz rowF
      by_cases c : j = (i : Int)
      · rw [if_pos c, if_pos (by omega), show j - 0 = (i : Int) by omega]
      · rw [if_neg c]
        by_cases c2 : 0 ≤ j ∧ j < 0 + (i : Int)
        · rw [if_pos c2, if_pos (by omega)]
        · rw [if_neg c2, if_neg (by omega)]
    rw [l6_again_26]
    simp (disch := omega) only [iI_add, iI_sub, iI_mul, iI_lt, iI_le, iI_eq, iI_lt0, iI_0lt, iI_le0, iI_0le, iI_eq0, iI_div, iI_rem, iI_max, iI_min, iI_abs, ib_iI, aI_get, aI_upd, iB_eq0, iB_eqi0, iB_eqi1, iB_t, iB_f, iB_ok, okB_0, okB_1, nar0, nar1, o2, o4, o6, o20, o36, o140, Option.bind_some, if_true, if_false, if_pos, if_neg, Int.reduceAdd, Int.reduceSub, Int.reduceMul, Int.reduceNeg, Int.zero_add, Int.add_zero, e1]
    exact ih2
theorem op_keep {K P U M : Int → Int} {W T : Int} {d : DZ} {A R kz : Int → Int} (h : CX K P U W T d M) (hk : KR W A R kz) (v : Int32) : ∃ (r : Int32) (A2 R2 kz2 : Int → Int), KR W A2 R2 kz2 ∧ f5_keep v (aI (dS d)) (iI (dC d)) (iI (dY d)) (iI (dO d)) (iI (dK d)) (iI (dH d)) (iI (dL d)) (aI A) (aI kz) = some (r, aI A2, aI kz2) ∧ f6_keep v (aI M) (aI kz) (aI R) = some (r, aI kz2, aI R2) := by
  obtain ⟨s, s1, s2, rfl⟩ := iI_of v
  obtain ⟨hG, hd, hM⟩ := id h
  have hW2 := hG.2.1
  unfold f5_keep f6_keep
  rw [noSlot_s s1 s2, lN0, lN1, in_s s1 s2 (by decide) (by decide) (by decide) (by decide)]
  by_cases c : 0 ≤ s ∧ s ≤ 1
  · rw [decide_eq_true c, decide_eq_false (by omega)]
    have g9 : aI M (iI 9).toNatClampNeg = iI (dK d) := by rw [aI_get (by decide) (by decide)]; exact congrArg iI hM.2.2.2.2.2.2
    have ep := put_s (A := A) (p := s) (N := 20) (by decide) c.1 (by omega) hd
    have e : rowF R M (10 * s) ((0 : Nat) : Int) = R := by
      funext j
      unfold rowF
      rw [if_neg (by omega)]
    have hL := fun k => L_keep R M c.1 (by omega) k 10 0 FU (by omega) (by unfold FU; omega)
    rw [e] at hL
    refine ⟨iI (dK d), putF A (10 * s) d, rowF R M (10 * s) 10, uz kz s 1, ?_, ?_, ?_⟩
    · intro x x1 x2
      by_cases cx : x = s
      · subst cx
        rw [uz_same]
        exact ⟨Or.inr rfl, fun _ => ⟨d, hd, CR_put A _ d hW2, MR_move hW2 hM (fun i i1 i2 => row_in i1 i2)⟩⟩
      · rw [uz_ne cx]
        obtain ⟨k1, k2⟩ := hk x x1 x2
        refine ⟨k1, fun q => ?_⟩
        obtain ⟨d3, f1, f2, f3⟩ := k2 q
        exact ⟨d3, f1, CR_move hW2 f2 (fun i i1 i2 => putF_ne (by omega)), MR_move hW2 f3 (fun i i1 i2 => row_ne (by omega))⟩
    · simp (disch := omega) only [iI_add, iI_sub, iI_mul, iI_lt, iI_le, iI_eq, iI_lt0, iI_0lt, iI_le0, iI_0le, iI_eq0, iI_div, iI_rem, iI_max, iI_min, iI_abs, ib_iI, aI_get, aI_upd, iB_eq0, iB_eqi0, iB_eqi1, iB_t, iB_f, iB_ok, okB_0, okB_1, nar0, nar1, o2, o4, o6, o20, o36, o140, Option.bind_some, if_true, if_false, if_pos, if_neg, Int.reduceAdd, Int.reduceSub, Int.reduceMul, Int.reduceNeg, Int.zero_add, Int.add_zero, ep]
    · rw [Option.bind_some, if_neg (by decide), ib_iI c.1 (by omega) (by decide), if_pos rfl, show (iI 0) = iI ((0 : Nat) : Int) from rfl, hL, g9, nar1, aI_upd c.1 (by omega)]
  · rw [decide_eq_false c, decide_eq_true (by omega)]
    refine ⟨iI (-1), A, R, kz, hk, ?_, ?_⟩
    · simp (disch := omega) only [iI_add, iI_sub, iI_mul, iI_lt, iI_le, iI_eq, iI_lt0, iI_0lt, iI_le0, iI_0le, iI_eq0, iI_div, iI_rem, iI_max, iI_min, iI_abs, ib_iI, aI_get, aI_upd, iB_eq0, iB_eqi0, iB_eqi1, iB_t, iB_f, iB_ok, okB_0, okB_1, nar0, nar1, o2, o4, o6, o20, o36, o140, Option.bind_some, if_true, if_false, if_pos, if_neg, Int.reduceAdd, Int.reduceSub, Int.reduceMul, Int.reduceNeg, Int.zero_add, Int.add_zero, Bool.true_eq_false]
    · simp (disch := omega) only [iI_add, iI_sub, iI_mul, iI_lt, iI_le, iI_eq, iI_lt0, iI_0lt, iI_le0, iI_0le, iI_eq0, iI_div, iI_rem, iI_max, iI_min, iI_abs, ib_iI, aI_get, aI_upd, iB_eq0, iB_eqi0, iB_eqi1, iB_t, iB_f, iB_ok, okB_0, okB_1, nar0, nar1, o2, o4, o6, o20, o36, o140, Option.bind_some, if_true, if_false, if_pos, if_neg, Int.reduceAdd, Int.reduceSub, Int.reduceMul, Int.reduceNeg, Int.zero_add, Int.add_zero]
theorem op_again {K P U M : Int → Int} {W T : Int} {d : DZ} {A R kz : Int → Int} (h : CX K P U W T d M) (hk : KR W A R kz) (v a : Int32) : ∃ (r : Int32) (d2 : DZ) (M2 : Int → Int) (a2 : Int32), CX K P U W T d2 M2 ∧ (a2 = a ∨ a2 = iI 0) ∧ f5_again v (aI (dS d)) (iI (dC d)) (iI (dY d)) (iI (dO d)) (iI (dK d)) (iI (dH d)) (iI (dL d)) (aI A) (aI kz) a = some (r, aI (dS d2), iI (dC d2), iI (dY d2), iI (dO d2), iI (dK d2), iI (dH d2), iI (dL d2), a2) ∧ f6_again v a (aI M) (aI kz) (aI R) = some (r, a2, aI M2) := by
  obtain ⟨s, s1, s2, rfl⟩ := iI_of v
  obtain ⟨hG, hd, hM⟩ := id h
  have hW2 := hG.2.1
  have eT : ¬ (iB true = 0) := by decide
  have eF : iB false = 0 := by decide
  unfold f5_again f6_again
  rw [noSlot_s s1 s2, lN0, lN1, in_s s1 s2 (by decide) (by decide) (by decide) (by decide)]
  by_cases c : 0 ≤ s ∧ s ≤ 1
  · rw [decide_eq_true c, decide_eq_false (by omega)]
    obtain ⟨k1, k2⟩ := hk s c.1 (by omega)
    by_cases c1 : kz s = 1
    · obtain ⟨d3, f1, f2, f3⟩ := k2 c1
      have e : rowF M (fun j => R (10 * s + j)) 0 ((0 : Nat) : Int) = M := by
        funext j
        unfold rowF
        rw [if_neg (by omega)]
      have hL := fun k => L_again R M c.1 (by omega) k 10 0 FU (by omega) (by unfold FU; omega)
      rw [e] at hL
      have hr : ∀ i : Int, 0 ≤ i → i < 10 → rowF M (fun j => R (10 * s + j)) 0 10 (0 + i) = R (10 * s + i) := fun i i1 i2 => by
        rw [row_in i1 i2, Int.zero_add]
      have hm := MR_move (b2 := 0) hW2 f3 hr
      have g9 : aI (rowF M (fun j => R (10 * s + j)) 0 10) (iI 9).toNatClampNeg = iI (dK d3) := by rw [aI_get (by decide) (by decide)]; exact congrArg iI hm.2.2.2.2.2.2
      refine ⟨iI (dK d3), (cp4 (fun w => A (10 * s + w)) (dS d), dC d3, dY d3, dO d3, dK d3, dH d3, dL d3), rowF M (fun j => R (10 * s + j)) 0 10, iI 0, ⟨hG, ⟨?_, f1.2⟩, ?_⟩, Or.inr rfl, ?_, ?_⟩
      · intro w w1 w2
        show 0 ≤ cp4 (fun w => A (10 * s + w)) (dS d) w ∧ cp4 (fun w => A (10 * s + w)) (dS d) w ≤ 9
        rw [cp4_in w1 (by omega), f2.1 w w1 w2]
        exact f1.1 w w1 w2
      · refine ⟨fun w w1 w2 => ?_, hm.2⟩
        rw [hm.1 w w1 w2]
        show _ = cp4 (fun w => A (10 * s + w)) (dS d) w
        rw [cp4_in w1 (by omega), f2.1 w w1 w2]
      · rw [Option.bind_some, if_pos eF, ib_iI c.1 (by omega) (by decide), if_pos rfl, aI_get c.1 (by omega), c1, if_neg (by decide), take_s (by decide) c.1 (by omega) f1 f2, Option.bind_some]
      · rw [Option.bind_some, if_neg eT, ib_iI c.1 (by omega) (by decide), if_pos rfl, aI_get c.1 (by omega), c1, if_neg (by decide), show (iI 0) = iI ((0 : Nat) : Int) from rfl, hL, g9]
    · refine ⟨iI (-3), d, M, a, h, Or.inl rfl, ?_, ?_⟩
      · rw [Option.bind_some, if_pos eF, ib_iI c.1 (by omega) (by decide), if_pos rfl, aI_get c.1 (by omega), show kz s = 0 by omega, if_pos (by decide)]
      · rw [Option.bind_some, if_neg eT, ib_iI c.1 (by omega) (by decide), if_pos rfl, aI_get c.1 (by omega), show kz s = 0 by omega, if_pos (by decide)]
  · rw [decide_eq_false c, decide_eq_true (by omega)]
    refine ⟨iI (-1), d, M, a, h, Or.inl rfl, ?_, ?_⟩
    · rw [Option.bind_some, if_neg eT]
    · rw [Option.bind_some, if_pos eF]
