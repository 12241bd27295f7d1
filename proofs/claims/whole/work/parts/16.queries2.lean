/-! best -/
def betN (f : Int → Bool) (p : Int → Int) : Nat → Int
  | 0 => -9
  | t + 1 => if f (t : Int) = true ∧ (betN f p t = -9 ∨ p (betN f p t) < p (t : Int)) then (t : Int) else betN f p t
theorem betN_b (f : Int → Bool) (p : Int → Int) : ∀ t : Nat, betN f p t = -9 ∨ (0 ≤ betN f p t ∧ betN f p t < (t : Int) ∧ f (betN f p t) = true) := by
  intro t
  induction t with
  | zero => exact Or.inl rfl
  | succ t ih =>
    unfold betN
    split
    · next h => exact Or.inr ⟨by omega, by omega, h.1⟩
    · rcases ih with h | h
      · exact Or.inl h
      · exact Or.inr ⟨h.1, by omega, h.2.2⟩
def mostN (f : Int → Bool) (p : Int → Int) (t : Nat) : Int := if betN f p t = -9 then 0 else p (betN f p t)
theorem br_pos {K P U : Int → Int} {T : Int} {s : Int → Int} {h w y : Int} (hb : br K P U T s h w y = true) : 1 ≤ pw K h (s w) w y := by
  unfold br en at hb
  exact (of_decide_eq_true hb).1
theorem L_best {K P U M : Int → Int} {W T y : Int} {d : DZ} (h : CX K P U W T d M) (hy1 : 0 ≤ y) (hy2 : y ≤ 9) (k : Int32 → Int32 → Int32 → Option Int32) : ∀ (j t n : Nat), (t : Int) + (j : Int) = W → j < n → l5_best_18 k (iI y) (aI K) (aI P) (aI U) (iI W) (iI T) (aI (dS d)) (iI (dH d)) n (iI (betN (fun w => br K P U T (dS d) (dH d) w y) (fun w => pw K (dH d) (dS d w) w y) t)) (iI (mostN (fun w => br K P U T (dS d) (dH d) w y) (fun w => pw K (dH d) (dS d w) w y) t)) (iI (t : Int)) = k (iI (betN (fun w => br K P U T (dS d) (dH d) w y) (fun w => pw K (dH d) (dS d w) w y) W.toNat)) (iI (mostN (fun w => br K P U T (dS d) (dH d) w y) (fun w => pw K (dH d) (dS d w) w y) W.toNat)) (iI W) := by
  intro j
  induction j with
  | zero =>
    intro t n ht hn
    obtain ⟨n, rfl⟩ : ∃ q, n = q + 1 := ⟨n - 1, by omega⟩
    have hW := h.1.1
    have hW2 := h.1.2.1
    rw [l5_best_18, show W.toNat = t by omega, show W = (t : Int) by omega]
    simp (disch := omega) only [iI_add, iI_sub, iI_mul, iI_lt, iI_le, iI_eq, iI_lt0, iI_0lt, iI_le0, iI_0le, iI_eq0, iI_div, iI_rem, iI_max, iI_min, iI_abs, ib_iI, aI_get, aI_upd, iB_eq0, iB_eqi0, iB_eqi1, iB_t, iB_f, iB_ok, okB_0, okB_1, nar0, nar1, o2, o4, o6, o20, o36, o140, Option.bind_some, if_true, if_false, if_pos, if_neg, Int.reduceAdd, Int.reduceSub, Int.reduceMul, Int.reduceNeg, Int.zero_add, Int.add_zero]
  | succ j ih =>
    intro t n ht hn
    obtain ⟨n, rfl⟩ : ∃ q, n = q + 1 := ⟨n - 1, by omega⟩
    have hW := h.1.1
    have hW2 := h.1.2.1
    have ih2 := ih (t + 1) n (by omega) (by omega)
    obtain ⟨a1, a2, a3, a4, a5, a6, a7, a8, a9, a10, a11, a12⟩ := CX_w h (w := (t : Int)) (by omega) (by omega)
    have hp := pw_b (K := K) (s := dS d (t : Int)) (w := (t : Int)) a8 a9 hy1 hy2
    have hbb := betN_b (fun w => br K P U T (dS d) (dH d) w y) (fun w => pw K (dH d) (dS d w) w y) t
    have hmb : -20 ≤ mostN (fun w => br K P U T (dS d) (dH d) w y) (fun w => pw K (dH d) (dS d w) w y) t ∧ mostN (fun w => br K P U T (dS d) (dH d) w y) (fun w => pw K (dH d) (dS d w) w y) t ≤ 20 := by
      unfold mostN
      rcases hbb with q | q
      · rw [if_pos q]
        omega
      · rw [if_neg (by omega)]
        obtain ⟨b1, b2, b3, b4, b5, b6, b7, b8, b9, b10, b11, b12⟩ := CX_w h q.1 (by omega)
        have := pw_b (K := K) (s := dS d (betN (fun w => br K P U T (dS d) (dH d) w y) (fun w => pw K (dH d) (dS d w) w y) t)) (w := betN (fun w => br K P U T (dS d) (dH d) w y) (fun w => pw K (dH d) (dS d w) w y) t) a8 a9 hy1 hy2
        show -20 ≤ pw K (dH d) _ _ y ∧ pw K (dH d) _ _ y ≤ 20
        omega
    rw [l5_best_18, powerOf_s (by omega) (by omega) (by omega) (by omega) a4 a5 a8 a9 hy1 hy2, cbr h (by omega) (by omega) hy1 hy2]
    cases hb : br K P U T (dS d) (dH d) (t : Int) y with
    | false =>
      have e1 : betN (fun w => br K P U T (dS d) (dH d) w y) (fun w => pw K (dH d) (dS d w) w y) (t + 1) = betN (fun w => br K P U T (dS d) (dH d) w y) (fun w => pw K (dH d) (dS d w) w y) t := by
        rw [betN, if_neg (fun q => by rw [hb] at q; exact absurd q.1 (by decide))]
      have e2 : mostN (fun w => br K P U T (dS d) (dH d) w y) (fun w => pw K (dH d) (dS d w) w y) (t + 1) = mostN (fun w => br K P U T (dS d) (dH d) w y) (fun w => pw K (dH d) (dS d w) w y) t := by
        unfold mostN
        rw [e1]
      rw [e1, e2] at ih2
      simp (disch := omega) only [iI_add, iI_sub, iI_mul, iI_lt, iI_le, iI_eq, iI_lt0, iI_0lt, iI_le0, iI_0le, iI_eq0, iI_div, iI_rem, iI_max, iI_min, iI_abs, ib_iI, aI_get, aI_upd, iB_eq0, iB_eqi0, iB_eqi1, iB_t, iB_f, iB_ok, okB_0, okB_1, nar0, nar1, o2, o4, o6, o20, o36, o140, Option.bind_some, if_true, if_false, if_pos, if_neg, Int.reduceAdd, Int.reduceSub, Int.reduceMul, Int.reduceNeg, Int.zero_add, Int.add_zero]
      exact ih2
    | true =>
      have hpos := br_pos hb
      by_cases c : pw K (dH d) (dS d (t : Int)) (t : Int) y ≤ mostN (fun w => br K P U T (dS d) (dH d) w y) (fun w => pw K (dH d) (dS d w) w y) t
      · have e0 : ¬ (betN (fun w => br K P U T (dS d) (dH d) w y) (fun w => pw K (dH d) (dS d w) w y) t = -9 ∨ (fun w => pw K (dH d) (dS d w) w y) (betN (fun w => br K P U T (dS d) (dH d) w y) (fun w => pw K (dH d) (dS d w) w y) t) < (fun w => pw K (dH d) (dS d w) w y) (t : Int)) := by
          intro q
          unfold mostN at c
          rcases q with q | q
          · rw [if_pos q] at c
            omega
          · by_cases q9 : betN (fun w => br K P U T (dS d) (dH d) w y) (fun w => pw K (dH d) (dS d w) w y) t = -9
            · rw [if_pos q9] at c
              omega
            · rw [if_neg q9] at c
              exact absurd c (Int.not_le.mpr q)
        have e1 : betN (fun w => br K P U T (dS d) (dH d) w y) (fun w => pw K (dH d) (dS d w) w y) (t + 1) = betN (fun w => br K P U T (dS d) (dH d) w y) (fun w => pw K (dH d) (dS d w) w y) t := by
          rw [betN, if_neg (fun q => e0 q.2)]
        have e2 : mostN (fun w => br K P U T (dS d) (dH d) w y) (fun w => pw K (dH d) (dS d w) w y) (t + 1) = mostN (fun w => br K P U T (dS d) (dH d) w y) (fun w => pw K (dH d) (dS d w) w y) t := by
          unfold mostN
          rw [e1]
        rw [e1, e2] at ih2
        simp (disch := omega) only [iI_add, iI_sub, iI_mul, iI_lt, iI_le, iI_eq, iI_lt0, iI_0lt, iI_le0, iI_0le, iI_eq0, iI_div, iI_rem, iI_max, iI_min, iI_abs, ib_iI, aI_get, aI_upd, iB_eq0, iB_eqi0, iB_eqi1, iB_t, iB_f, iB_ok, okB_0, okB_1, nar0, nar1, o2, o4, o6, o20, o36, o140, Option.bind_some, if_true, if_false, if_pos, if_neg, Int.reduceAdd, Int.reduceSub, Int.reduceMul, Int.reduceNeg, Int.zero_add, Int.add_zero]
        exact ih2
      · have e0 : betN (fun w => br K P U T (dS d) (dH d) w y) (fun w => pw K (dH d) (dS d w) w y) t = -9 ∨ (fun w => pw K (dH d) (dS d w) w y) (betN (fun w => br K P U T (dS d) (dH d) w y) (fun w => pw K (dH d) (dS d w) w y) t) < (fun w => pw K (dH d) (dS d w) w y) (t : Int) := by
          unfold mostN at c
          by_cases q9 : betN (fun w => br K P U T (dS d) (dH d) w y) (fun w => pw K (dH d) (dS d w) w y) t = -9
          · exact Or.inl q9
          · rw [if_neg q9] at c
            exact Or.inr (Int.not_le.mp c)
        have e1 : betN (fun w => br K P U T (dS d) (dH d) w y) (fun w => pw K (dH d) (dS d w) w y) (t + 1) = (t : Int) := by
          rw [betN, if_pos ⟨hb, e0⟩]
        have e2 : mostN (fun w => br K P U T (dS d) (dH d) w y) (fun w => pw K (dH d) (dS d w) w y) (t + 1) = pw K (dH d) (dS d (t : Int)) (t : Int) y := by
          unfold mostN
          rw [e1, if_neg (by omega)]
        rw [e1, e2] at ih2
        simp (disch := omega) only [iI_add, iI_sub, iI_mul, iI_lt, iI_le, iI_eq, iI_lt0, iI_0lt, iI_le0, iI_0le, iI_eq0, iI_div, iI_rem, iI_max, iI_min, iI_abs, ib_iI, aI_get, aI_upd, iB_eq0, iB_eqi0, iB_eqi1, iB_t, iB_f, iB_ok, okB_0, okB_1, nar0, nar1, o2, o4, o6, o20, o36, o140, Option.bind_some, if_true, if_false, if_pos, if_neg, Int.reduceAdd, Int.reduceSub, Int.reduceMul, Int.reduceNeg, Int.zero_add, Int.add_zero]
        exact ih2
theorem L_mbest {K P U M : Int → Int} {W T y : Int} {d : DZ} (h : CX K P U W T d M) (hy1 : 0 ≤ y) (hy2 : y ≤ 9) (k : Int32 → Int32 → Option Int32) : ∀ (j t n : Nat), (t : Int) + (j : Int) = W → j < n → l6_best_20 k (iI y) (iI W) (iI T) (aI K) (aI P) (aI U) (aI M) n (iI (betN (fun w => br K P U T (dS d) (dH d) w y) (fun w => pw K (dH d) (dS d w) w y) t)) (iI (t : Int)) = k (iI (betN (fun w => br K P U T (dS d) (dH d) w y) (fun w => pw K (dH d) (dS d w) w y) W.toNat)) (iI W) := by
  intro j
  induction j with
  | zero =>
    intro t n ht hn
    obtain ⟨n, rfl⟩ : ∃ q, n = q + 1 := ⟨n - 1, by omega⟩
    have hW := h.1.1
    have hW2 := h.1.2.1
    rw [l6_best_20, show W.toNat = t by omega, show W = (t : Int) by omega]
    simp (disch := omega) only [iI_add, iI_sub, iI_mul, iI_lt, iI_le, iI_eq, iI_lt0, iI_0lt, iI_le0, iI_0le, iI_eq0, iI_div, iI_rem, iI_max, iI_min, iI_abs, ib_iI, aI_get, aI_upd, iB_eq0, iB_eqi0, iB_eqi1, iB_t, iB_f, iB_ok, okB_0, okB_1, nar0, nar1, o2, o4, o6, o20, o36, o140, Option.bind_some, if_true, if_false, if_pos, if_neg, Int.reduceAdd, Int.reduceSub, Int.reduceMul, Int.reduceNeg, Int.zero_add, Int.add_zero]
  | succ j ih =>
    intro t n ht hn
    obtain ⟨n, rfl⟩ : ∃ q, n = q + 1 := ⟨n - 1, by omega⟩
    have hW := h.1.1
    have hW2 := h.1.2.1
    have ih2 := ih (t + 1) n (by omega) (by omega)
    obtain ⟨a1, a2, a3, a4, a5, a6, a7, a8, a9, a10, a11, a12⟩ := CX_w h (w := (t : Int)) (by omega) (by omega)
    have hp := pw_b (K := K) (s := dS d (t : Int)) (w := (t : Int)) a8 a9 hy1 hy2
    have hbb := betN_b (fun w => br K P U T (dS d) (dH d) w y) (fun w => pw K (dH d) (dS d w) w y) t
    rw [betN] at ih2
    rw [l6_best_20, cnow h (by omega) (by omega) hy1 hy2]
    generalize betN (fun w => br K P U T (dS d) (dH d) w y) (fun w => pw K (dH d) (dS d w) w y) t = b at hbb ih2 ⊢
    rcases hbb with q | q
    · subst q
      cases hb : br K P U T (dS d) (dH d) (t : Int) y with
      | false =>
        rw [if_neg (fun q => by rw [hb] at q; exact absurd q.1 (by decide))] at ih2
        simp (disch := omega) only [iI_add, iI_sub, iI_mul, iI_lt, iI_le, iI_eq, iI_lt0, iI_0lt, iI_le0, iI_0le, iI_eq0, iI_div, iI_rem, iI_max, iI_min, iI_abs, ib_iI, aI_get, aI_upd, iB_eq0, iB_eqi0, iB_eqi1, iB_t, iB_f, iB_ok, okB_0, okB_1, nar0, nar1, o2, o4, o6, o20, o36, o140, Option.bind_some, if_true, if_false, if_pos, if_neg, Int.reduceAdd, Int.reduceSub, Int.reduceMul, Int.reduceNeg, Int.zero_add, Int.add_zero]
        exact ih2
      | true =>
        rw [if_pos ⟨hb, Or.inl rfl⟩] at ih2
        simp (disch := omega) only [iI_add, iI_sub, iI_mul, iI_lt, iI_le, iI_eq, iI_lt0, iI_0lt, iI_le0, iI_0le, iI_eq0, iI_div, iI_rem, iI_max, iI_min, iI_abs, ib_iI, aI_get, aI_upd, iB_eq0, iB_eqi0, iB_eqi1, iB_t, iB_f, iB_ok, okB_0, okB_1, nar0, nar1, o2, o4, o6, o20, o36, o140, Option.bind_some, if_true, if_false, if_pos, if_neg, Int.reduceAdd, Int.reduceSub, Int.reduceMul, Int.reduceNeg, Int.zero_add, Int.add_zero]
        exact ih2
    · obtain ⟨b1, b2, b3, b4, b5, b6, b7, b8, b9, b10, b11, b12⟩ := CX_w h q.1 (by omega)
      have hp2 := pw_b (K := K) (s := dS d b) (w := b) a8 a9 hy1 hy2
      have e1 : aI M (iI (t : Int)).toNatClampNeg = iI (dS d (t : Int)) := by rw [aI_get (by omega) (by omega), a6]
      have e2 : aI M (iI b).toNatClampNeg = iI (dS d b) := by rw [aI_get q.1 (by omega), b6]
      rw [e1, e2, mpower_s (by omega) (by omega) (by omega) (by omega) a4 a5 (by omega) (by omega) hy1 hy2, mpower_s (by omega) (by omega) q.1 (by omega) b4 b5 (by omega) (by omega) hy1 hy2, a7]
      cases hb : br K P U T (dS d) (dH d) (t : Int) y with
      | false =>
        rw [if_neg (fun q => by rw [hb] at q; exact absurd q.1 (by decide))] at ih2
        by_cases c : pw K (dH d) (dS d (t : Int)) (t : Int) y ≤ pw K (dH d) (dS d b) b y
        · simp (disch := omega) only [iI_add, iI_sub, iI_mul, iI_lt, iI_le, iI_eq, iI_lt0, iI_0lt, iI_le0, iI_0le, iI_eq0, iI_div, iI_rem, iI_max, iI_min, iI_abs, ib_iI, aI_get, aI_upd, iB_eq0, iB_eqi0, iB_eqi1, iB_t, iB_f, iB_ok, okB_0, okB_1, nar0, nar1, o2, o4, o6, o20, o36, o140, Option.bind_some, if_true, if_false, if_pos, if_neg, Int.reduceAdd, Int.reduceSub, Int.reduceMul, Int.reduceNeg, Int.zero_add, Int.add_zero]
          exact ih2
        · simp (disch := omega) only [iI_add, iI_sub, iI_mul, iI_lt, iI_le, iI_eq, iI_lt0, iI_0lt, iI_le0, iI_0le, iI_eq0, iI_div, iI_rem, iI_max, iI_min, iI_abs, ib_iI, aI_get, aI_upd, iB_eq0, iB_eqi0, iB_eqi1, iB_t, iB_f, iB_ok, okB_0, okB_1, nar0, nar1, o2, o4, o6, o20, o36, o140, Option.bind_some, if_true, if_false, if_pos, if_neg, Int.reduceAdd, Int.reduceSub, Int.reduceMul, Int.reduceNeg, Int.zero_add, Int.add_zero]
          exact ih2
      | true =>
        by_cases c : pw K (dH d) (dS d (t : Int)) (t : Int) y ≤ pw K (dH d) (dS d b) b y
        · rw [if_neg (fun z => by rcases z.2 with z2 | z2; omega; exact absurd c (Int.not_le.mpr z2))] at ih2
          simp (disch := omega) only [iI_add, iI_sub, iI_mul, iI_lt, iI_le, iI_eq, iI_lt0, iI_0lt, iI_le0, iI_0le, iI_eq0, iI_div, iI_rem, iI_max, iI_min, iI_abs, ib_iI, aI_get, aI_upd, iB_eq0, iB_eqi0, iB_eqi1, iB_t, iB_f, iB_ok, okB_0, okB_1, nar0, nar1, o2, o4, o6, o20, o36, o140, Option.bind_some, if_true, if_false, if_pos, if_neg, Int.reduceAdd, Int.reduceSub, Int.reduceMul, Int.reduceNeg, Int.zero_add, Int.add_zero]
          exact ih2
        · rw [if_pos ⟨hb, Or.inr (Int.not_le.mp c)⟩] at ih2
          simp (disch := omega) only [iI_add, iI_sub, iI_mul, iI_lt, iI_le, iI_eq, iI_lt0, iI_0lt, iI_le0, iI_0le, iI_eq0, iI_div, iI_rem, iI_max, iI_min, iI_abs, ib_iI, aI_get, aI_upd, iB_eq0, iB_eqi0, iB_eqi1, iB_t, iB_f, iB_ok, okB_0, okB_1, nar0, nar1, o2, o4, o6, o20, o36, o140, Option.bind_some, if_true, if_false, if_pos, if_neg, Int.reduceAdd, Int.reduceSub, Int.reduceMul, Int.reduceNeg, Int.zero_add, Int.add_zero]
          exact ih2
theorem op_best {K P U M : Int → Int} {W T : Int} {d : DZ} (h : CX K P U W T d M) (v1 : Int32) : Same (f5_best v1 (aI K) (aI P) (aI U) (iI W) (iI T) (aI (dS d)) (iI (dH d))) (f6_best v1 (iI W) (iI T) (aI K) (aI P) (aI U) (aI M)) := by
  obtain ⟨y, h1, h2, rfl⟩ := iI_of v1
  have hW := h.1.1
  have hW2 := h.1.2.1
  unfold f5_best f6_best
  rw [isNoYard_s h1 h2, yard_s h1 h2]
  by_cases c : 0 ≤ y ∧ y ≤ 9
  · rw [decide_eq_false (by omega), decide_eq_true c]
    have e1 := L_best h c.1 c.2 (fun v2 v3 v4 => some v2) W.toNat 0 FU (by omega) (by unfold FU; omega)
    have e2 := L_mbest h c.1 c.2 (fun v2 v3 => some v2) W.toNat 0 FU (by omega) (by unfold FU; omega)
    refine ⟨iI (betN (fun w => br K P U T (dS d) (dH d) w y) (fun w => pw K (dH d) (dS d w) w y) W.toNat), ?_, ?_⟩
    · simp (disch := omega) only [iI_add, iI_sub, iI_mul, iI_lt, iI_le, iI_eq, iI_lt0, iI_0lt, iI_le0, iI_0le, iI_eq0, iI_div, iI_rem, iI_max, iI_min, iI_abs, ib_iI, aI_get, aI_upd, iB_eq0, iB_eqi0, iB_eqi1, iB_t, iB_f, iB_ok, okB_0, okB_1, nar0, nar1, o2, o4, o6, o20, o36, o140, Option.bind_some, if_true, if_false, if_pos, if_neg, Int.reduceAdd, Int.reduceSub, Int.reduceMul, Int.reduceNeg, Int.zero_add, Int.add_zero]
      exact e1
    · simp (disch := omega) only [iI_add, iI_sub, iI_mul, iI_lt, iI_le, iI_eq, iI_lt0, iI_0lt, iI_le0, iI_0le, iI_eq0, iI_div, iI_rem, iI_max, iI_min, iI_abs, ib_iI, aI_get, aI_upd, iB_eq0, iB_eqi0, iB_eqi1, iB_t, iB_f, iB_ok, okB_0, okB_1, nar0, nar1, o2, o4, o6, o20, o36, o140, Option.bind_some, if_true, if_false, if_pos, if_neg, Int.reduceAdd, Int.reduceSub, Int.reduceMul, Int.reduceNeg, Int.zero_add, Int.add_zero]
      exact e2
  · rw [decide_eq_true (by omega), decide_eq_false c]
    exact ⟨iI (-2), by simp (disch := omega) only [iI_add, iI_sub, iI_mul, iI_lt, iI_le, iI_eq, iI_lt0, iI_0lt, iI_le0, iI_0le, iI_eq0, iI_div, iI_rem, iI_max, iI_min, iI_abs, ib_iI, aI_get, aI_upd, iB_eq0, iB_eqi0, iB_eqi1, iB_t, iB_f, iB_ok, okB_0, okB_1, nar0, nar1, o2, o4, o6, o20, o36, o140, Option.bind_some, if_true, if_false, if_pos, if_neg, Int.reduceAdd, Int.reduceSub, Int.reduceMul, Int.reduceNeg, Int.zero_add, Int.add_zero], by simp (disch := omega) only [iI_add, iI_sub, iI_mul, iI_lt, iI_le, iI_eq, iI_lt0, iI_0lt, iI_le0, iI_0le, iI_eq0, iI_div, iI_rem, iI_max, iI_min, iI_abs, ib_iI, aI_get, aI_upd, iB_eq0, iB_eqi0, iB_eqi1, iB_t, iB_f, iB_ok, okB_0, okB_1, nar0, nar1, o2, o4, o6, o20, o36, o140, Option.bind_some, if_true, if_false, if_pos, if_neg, Int.reduceAdd, Int.reduceSub, Int.reduceMul, Int.reduceNeg, Int.zero_add, Int.add_zero]⟩
/-! good -/
theorem L_good {K P U M : Int → Int} {W T w y : Int} {d : DZ} (h : CX K P U W T d M) (hw1 : 0 ≤ w) (hw2 : w < W) (hy1 : 0 ≤ y) (hy2 : y ≤ 9) : ∀ (j t n n2 : Nat), dS d w + (t : Int) + (j : Int) = 10 → j < n → j < n2 → Same (l5_good_35 (fun _ => some (iI (-9))) (iI w) (iI y) (iI (dS d w)) (aI K) (aI P) (aI U) (iI T) (iI (dH d)) n (iI (t : Int))) (l6_good_27 (fun _ => some (iI (-9))) (iI w) (iI y) (iI T) (aI K) (aI P) (aI U) (aI M) n2 (iI (t : Int))) := by
  obtain ⟨a1, a2, a3, a4, a5, a6, a7, a8, a9, a10, a11, a12⟩ := CX_w h hw1 hw2
  have qw : aI M (iI w).toNatClampNeg = iI (dS d w) := by rw [aI_get hw1 (by omega), a6]
  intro j
  induction j with
  | zero =>
    intro t n n2 ht hn hn2
    obtain ⟨n, rfl⟩ : ∃ q, n = q + 1 := ⟨n - 1, by omega⟩
    obtain ⟨n2, rfl⟩ : ∃ q, n2 = q + 1 := ⟨n2 - 1, by omega⟩
    rw [l5_good_35, l6_good_27, qw]
    refine ⟨iI (-9), ?_, ?_⟩
    · simp (disch := omega) only [iI_add, iI_sub, iI_mul, iI_lt, iI_le, iI_eq, iI_lt0, iI_0lt, iI_le0, iI_0le, iI_eq0, iI_div, iI_rem, iI_max, iI_min, iI_abs, ib_iI, aI_get, aI_upd, iB_eq0, iB_eqi0, iB_eqi1, iB_t, iB_f, iB_ok, okB_0, okB_1, nar0, nar1, o2, o4, o6, o20, o36, o140, Option.bind_some, if_true, if_false, if_pos, if_neg, Int.reduceAdd, Int.reduceSub, Int.reduceMul, Int.reduceNeg, Int.zero_add, Int.add_zero]
    · simp (disch := omega) only [iI_add, iI_sub, iI_mul, iI_lt, iI_le, iI_eq, iI_lt0, iI_0lt, iI_le0, iI_0le, iI_eq0, iI_div, iI_rem, iI_max, iI_min, iI_abs, ib_iI, aI_get, aI_upd, iB_eq0, iB_eqi0, iB_eqi1, iB_t, iB_f, iB_ok, okB_0, okB_1, nar0, nar1, o2, o4, o6, o20, o36, o140, Option.bind_some, if_true, if_false, if_pos, if_neg, Int.reduceAdd, Int.reduceSub, Int.reduceMul, Int.reduceNeg, Int.zero_add, Int.add_zero]
  | succ j ih =>
    intro t n n2 ht hn hn2
    obtain ⟨n, rfl⟩ : ∃ q, n = q + 1 := ⟨n - 1, by omega⟩
    obtain ⟨n2, rfl⟩ : ∃ q, n2 = q + 1 := ⟨n2 - 1, by omega⟩
    have ih2 := ih (t + 1) n n2 (by omega) (by omega) (by omega)
    have hp := pw_b (K := K) (s := dS d w + (t : Int)) (w := w) a8 a9 hy1 hy2
    rw [l5_good_35, l6_good_27, qw, iI_add, powerWith_s (by omega) (by omega) hw1 (by omega) a4 a5 a8 a9 hy1 hy2, comesBy_s h.1.2.2.2 (by omega) (by omega) hw1 (by omega) a4 a5 (by omega) (by omega) hy1 hy2 (by decide) (by decide), a7]
    rw [Option.bind_some, isEnough_s h.1.2.2.2 (by omega) (by omega) hy1 hy2 (by decide) (by decide)]
    cases en P U T (pw K (dH d) (dS d w + (t : Int)) w y) y 15 with
    | true =>
      refine ⟨iI (t : Int), ?_, ?_⟩
      · simp (disch := omega) only [iI_add, iI_sub, iI_mul, iI_lt, iI_le, iI_eq, iI_lt0, iI_0lt, iI_le0, iI_0le, iI_eq0, iI_div, iI_rem, iI_max, iI_min, iI_abs, ib_iI, aI_get, aI_upd, iB_eq0, iB_eqi0, iB_eqi1, iB_t, iB_f, iB_ok, okB_0, okB_1, nar0, nar1, o2, o4, o6, o20, o36, o140, Option.bind_some, if_true, if_false, if_pos, if_neg, Int.reduceAdd, Int.reduceSub, Int.reduceMul, Int.reduceNeg, Int.zero_add, Int.add_zero]
      · simp (disch := omega) only [iI_add, iI_sub, iI_mul, iI_lt, iI_le, iI_eq, iI_lt0, iI_0lt, iI_le0, iI_0le, iI_eq0, iI_div, iI_rem, iI_max, iI_min, iI_abs, ib_iI, aI_get, aI_upd, iB_eq0, iB_eqi0, iB_eqi1, iB_t, iB_f, iB_ok, okB_0, okB_1, nar0, nar1, o2, o4, o6, o20, o36, o140, Option.bind_some, if_true, if_false, if_pos, if_neg, Int.reduceAdd, Int.reduceSub, Int.reduceMul, Int.reduceNeg, Int.zero_add, Int.add_zero]
    | false =>
      obtain ⟨r, e1, e2⟩ := ih2
      refine ⟨r, ?_, ?_⟩
      · simp (disch := omega) only [iI_add, iI_sub, iI_mul, iI_lt, iI_le, iI_eq, iI_lt0, iI_0lt, iI_le0, iI_0le, iI_eq0, iI_div, iI_rem, iI_max, iI_min, iI_abs, ib_iI, aI_get, aI_upd, iB_eq0, iB_eqi0, iB_eqi1, iB_t, iB_f, iB_ok, okB_0, okB_1, nar0, nar1, o2, o4, o6, o20, o36, o140, Option.bind_some, if_true, if_false, if_pos, if_neg, Int.reduceAdd, Int.reduceSub, Int.reduceMul, Int.reduceNeg, Int.zero_add, Int.add_zero]
        exact e1
      · simp (disch := omega) only [iI_add, iI_sub, iI_mul, iI_lt, iI_le, iI_eq, iI_lt0, iI_0lt, iI_le0, iI_0le, iI_eq0, iI_div, iI_rem, iI_max, iI_min, iI_abs, ib_iI, aI_get, aI_upd, iB_eq0, iB_eqi0, iB_eqi1, iB_t, iB_f, iB_ok, okB_0, okB_1, nar0, nar1, o2, o4, o6, o20, o36, o140, Option.bind_some, if_true, if_false, if_pos, if_neg, Int.reduceAdd, Int.reduceSub, Int.reduceMul, Int.reduceNeg, Int.zero_add, Int.add_zero]
        exact e2
theorem op_good {K P U M : Int → Int} {W T : Int} {d : DZ} (h : CX K P U W T d M) (v1 v2 : Int32) : Same (f5_good v1 v2 (aI K) (aI P) (aI U) (iI W) (iI T) (aI (dS d)) (iI (dH d))) (f6_good v1 v2 (iI W) (iI T) (aI K) (aI P) (aI U) (aI M)) := by
  obtain ⟨w, h1, h2, rfl⟩ := iI_of v1
  obtain ⟨y, h3, h4, rfl⟩ := iI_of v2
  have hW := h.1.1
  have hW2 := h.1.2.1
  unfold f5_good f6_good
  rw [hasWord_s h1 h2 hW hW2, isWord_s h1 h2 hW hW2, isNoYard_s h3 h4, yard_s h3 h4]
  by_cases c : 0 ≤ w ∧ w < W
  · rw [decide_eq_true c]
    by_cases cy : 0 ≤ y ∧ y ≤ 9
    · rw [decide_eq_false (by omega), decide_eq_true cy, strengthOf_s c.1 (by omega)]
      obtain ⟨a1, a2, a3, a4, a5, a6, a7, a8, a9, a10, a11, a12⟩ := CX_w h c.1 c.2
      obtain ⟨r, e1, e2⟩ := L_good h c.1 c.2 cy.1 cy.2 (10 - dS d w).toNat 0 FU FU (by omega) (by unfold FU; omega) (by unfold FU; omega)
      refine ⟨r, ?_, ?_⟩
      · simp (disch := omega) only [iI_add, iI_sub, iI_mul, iI_lt, iI_le, iI_eq, iI_lt0, iI_0lt, iI_le0, iI_0le, iI_eq0, iI_div, iI_rem, iI_max, iI_min, iI_abs, ib_iI, aI_get, aI_upd, iB_eq0, iB_eqi0, iB_eqi1, iB_t, iB_f, iB_ok, okB_0, okB_1, nar0, nar1, o2, o4, o6, o20, o36, o140, Option.bind_some, if_true, if_false, if_pos, if_neg, Int.reduceAdd, Int.reduceSub, Int.reduceMul, Int.reduceNeg, Int.zero_add, Int.add_zero]
        exact e1
      · simp (disch := omega) only [iI_add, iI_sub, iI_mul, iI_lt, iI_le, iI_eq, iI_lt0, iI_0lt, iI_le0, iI_0le, iI_eq0, iI_div, iI_rem, iI_max, iI_min, iI_abs, ib_iI, aI_get, aI_upd, iB_eq0, iB_eqi0, iB_eqi1, iB_t, iB_f, iB_ok, okB_0, okB_1, nar0, nar1, o2, o4, o6, o20, o36, o140, Option.bind_some, if_true, if_false, if_pos, if_neg, Int.reduceAdd, Int.reduceSub, Int.reduceMul, Int.reduceNeg, Int.zero_add, Int.add_zero]
        exact e2
    · rw [decide_eq_true (by omega), decide_eq_false cy]
      exact ⟨iI (-2), by simp (disch := omega) only [iI_add, iI_sub, iI_mul, iI_lt, iI_le, iI_eq, iI_lt0, iI_0lt, iI_le0, iI_0le, iI_eq0, iI_div, iI_rem, iI_max, iI_min, iI_abs, ib_iI, aI_get, aI_upd, iB_eq0, iB_eqi0, iB_eqi1, iB_t, iB_f, iB_ok, okB_0, okB_1, nar0, nar1, o2, o4, o6, o20, o36, o140, Option.bind_some, if_true, if_false, if_pos, if_neg, Int.reduceAdd, Int.reduceSub, Int.reduceMul, Int.reduceNeg, Int.zero_add, Int.add_zero], by simp (disch := omega) only [iI_add, iI_sub, iI_mul, iI_lt, iI_le, iI_eq, iI_lt0, iI_0lt, iI_le0, iI_0le, iI_eq0, iI_div, iI_rem, iI_max, iI_min, iI_abs, ib_iI, aI_get, aI_upd, iB_eq0, iB_eqi0, iB_eqi1, iB_t, iB_f, iB_ok, okB_0, okB_1, nar0, nar1, o2, o4, o6, o20, o36, o140, Option.bind_some, if_true, if_false, if_pos, if_neg, Int.reduceAdd, Int.reduceSub, Int.reduceMul, Int.reduceNeg, Int.zero_add, Int.add_zero]⟩
  · rw [decide_eq_false c]
    exact ⟨iI (-1), by simp (disch := omega) only [iI_add, iI_sub, iI_mul, iI_lt, iI_le, iI_eq, iI_lt0, iI_0lt, iI_le0, iI_0le, iI_eq0, iI_div, iI_rem, iI_max, iI_min, iI_abs, ib_iI, aI_get, aI_upd, iB_eq0, iB_eqi0, iB_eqi1, iB_t, iB_f, iB_ok, okB_0, okB_1, nar0, nar1, o2, o4, o6, o20, o36, o140, Option.bind_some, if_true, if_false, if_pos, if_neg, Int.reduceAdd, Int.reduceSub, Int.reduceMul, Int.reduceNeg, Int.zero_add, Int.add_zero], by simp (disch := omega) only [iI_add, iI_sub, iI_mul, iI_lt, iI_le, iI_eq, iI_lt0, iI_0lt, iI_le0, iI_0le, iI_eq0, iI_div, iI_rem, iI_max, iI_min, iI_abs, ib_iI, aI_get, aI_upd, iB_eq0, iB_eqi0, iB_eqi1, iB_t, iB_f, iB_ok, okB_0, okB_1, nar0, nar1, o2, o4, o6, o20, o36, o140, Option.bind_some, if_true, if_false, if_pos, if_neg, Int.reduceAdd, Int.reduceSub, Int.reduceMul, Int.reduceNeg, Int.zero_add, Int.add_zero]⟩
