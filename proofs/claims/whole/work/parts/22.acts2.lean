/-! the acts of both sides -/
def AR (W : Int) (A : Int → Int) (a : Int) (R : Int → Int) (x : Int) : Prop := 0 ≤ a ∧ a ≤ 14 ∧ 0 ≤ x ∧ x < 14 ∧ ∀ k : Int, 0 ≤ k → k < a → ∃ d : DZ, DOK W d ∧ CR W A (10 * k) d ∧ MR W R (10 * ((x - a + k) % 14)) d
theorem CR_move {W : Int} {A A2 : Int → Int} {b b2 : Int} {d : DZ} (hW : W ≤ 4) (h : CR W A b d) (e : ∀ i : Int, 0 ≤ i → i < 10 → A2 (b2 + i) = A (b + i)) : CR W A2 b2 d := by
  obtain ⟨r1, r2, r3, r4, r5, r6, r7⟩ := h
  refine ⟨fun w h1 h2 => ?_, ?_, ?_, ?_, ?_, ?_, ?_⟩
  · rw [e w h1 (by omega)]; exact r1 w h1 h2
  · rw [e 4 (by decide) (by decide)]; exact r2
  · rw [e 5 (by decide) (by decide)]; exact r3
  · rw [e 6 (by decide) (by decide)]; exact r4
  · rw [e 7 (by decide) (by decide)]; exact r5
  · rw [e 8 (by decide) (by decide)]; exact r6
  · rw [e 9 (by decide) (by decide)]; exact r7
theorem MR_move {W : Int} {A A2 : Int → Int} {b b2 : Int} {d : DZ} (hW : W ≤ 4) (h : MR W A b d) (e : ∀ i : Int, 0 ≤ i → i < 10 → A2 (b2 + i) = A (b + i)) : MR W A2 b2 d := by
  obtain ⟨r1, r2, r3, r4, r5, r6, r7⟩ := h
  refine ⟨fun w h1 h2 => ?_, ?_, ?_, ?_, ?_, ?_, ?_⟩
  · rw [e w h1 (by omega)]; exact r1 w h1 h2
  · rw [e 4 (by decide) (by decide)]; exact r2
  · rw [e 5 (by decide) (by decide)]; exact r3
  · rw [e 6 (by decide) (by decide)]; exact r4
  · rw [e 7 (by decide) (by decide)]; exact r5
  · rw [e 8 (by decide) (by decide)]; exact r6
  · rw [e 9 (by decide) (by decide)]; exact r7
theorem row_in {R M : Int → Int} {b i : Int} (h1 : 0 ≤ i) (h2 : i < 10) : rowF R M b 10 (b + i) = M (0 + i) := by
  unfold rowF
  rw [if_pos (by omega)]
  congr 1
  omega
theorem row_ne {R M : Int → Int} {b j : Int} (h : j < b ∨ b + 10 ≤ j) : rowF R M b 10 j = R j := by
  unfold rowF
  rw [if_neg (by omega)]
theorem AR_0 {W : Int} (A R : Int → Int) {x : Int} (h1 : 0 ≤ x) (h2 : x < 14) : AR W A 0 R x := ⟨Int.le_refl 0, by decide, h1, h2, fun k k1 k2 => absurd k2 (by omega)⟩
theorem rem_s {K P U : Int → Int} {W T : Int} {d : DZ} {M A R : Int → Int} {a x : Int} (h : CX K P U W T d M) (ha : AR W A a R x) : ∃ (A2 R2 : Int → Int) (a2 x2 : Int), AR W A2 a2 R2 x2 ∧ f5_remember (aI (dS d)) (iI (dC d)) (iI (dY d)) (iI (dO d)) (iI (dK d)) (iI (dH d)) (iI (dL d)) (aI A) (iI a) = some (aI A2, iI a2) ∧ f6_keepAct (iI a) (iI x) (aI M) (aI R) = some (iI a2, iI x2, aI R2) := by
  obtain ⟨hG, hd, hM⟩ := h
  obtain ⟨a1, a2, x1, x2, hk⟩ := ha
  have hW : W ≤ 4 := hG.2.1
  have key := keepAct_s R M x1 x2 a1 a2
  by_cases c : a < 14
  · rw [if_neg (by omega)] at key
    refine ⟨putF A (10 * a) d, rowF R M (10 * x) 10, a + 1, (x + 1) % 14, ⟨by omega, by omega, by omega, by omega, ?_⟩, ?_, key⟩
    · intro k k1 k2
      by_cases ck : k = a
      · subst ck
        refine ⟨d, hd, CR_put A _ d hW, ?_⟩
        rw [show ((x + 1) % 14 - (k + 1) + k) % 14 = x by omega]
        exact MR_move hW hM (fun i i1 i2 => row_in i1 i2)
      · obtain ⟨dk, g1, g2, g3⟩ := hk k k1 (by omega)
        refine ⟨dk, g1, CR_move hW g2 (fun i i1 i2 => putF_ne (by omega)), ?_⟩
        rw [show ((x + 1) % 14 - (a + 1) + k) % 14 = (x - a + k) % 14 by omega]
        have hr : (x - a + k) % 14 ≠ x := by omega
        generalize (x - a + k) % 14 = r at *
        exact MR_move hW g3 (fun i i1 i2 => row_ne (by omega))
    · unfold f5_remember
      rw [put_s (by decide) a1 (by omega) hd]
      simp (disch := omega) only [iI_add, iI_sub, iI_mul, iI_lt, iI_le, iI_eq, iI_lt0, iI_0lt, iI_le0, iI_0le, iI_eq0, iI_div, iI_rem, iI_max, iI_min, iI_abs, ib_iI, aI_get, aI_upd, iB_eq0, iB_eqi0, iB_eqi1, iB_t, iB_f, iB_ok, okB_0, okB_1, nar0, nar1, o2, o4, o6, o20, o36, o140, Option.bind_some, if_true, if_false, if_pos, if_neg, Int.reduceAdd, Int.reduceSub, Int.reduceMul, Int.reduceNeg, Int.zero_add, Int.add_zero]
  · obtain rfl : a = 14 := by omega
    rw [if_pos (by decide)] at key
    refine ⟨putF (drp A 130) 130 d, rowF R M (10 * x) 10, 14, (x + 1) % 14, ⟨by omega, by omega, by omega, by omega, ?_⟩, ?_, key⟩
    · intro k k1 k2
      by_cases ck : k = 13
      · subst ck
        refine ⟨d, hd, CR_put (drp A 130) 130 d hW, ?_⟩
        rw [show ((x + 1) % 14 - 14 + 13) % 14 = x by omega]
        exact MR_move hW hM (fun i i1 i2 => row_in i1 i2)
      · obtain ⟨dk, g1, g2, g3⟩ := hk (k + 1) (by omega) (by omega)
        refine ⟨dk, g1, CR_move hW g2 (fun i i1 i2 => ?_), ?_⟩
        · rw [putF_ne (by omega)]
          unfold drp
          rw [if_pos (by omega)]
          congr 1
          omega
        · rw [show ((x + 1) % 14 - 14 + k) % 14 = (x - 14 + (k + 1)) % 14 by omega]
          have hr : (x - 14 + (k + 1)) % 14 ≠ x := by omega
          generalize (x - 14 + (k + 1)) % 14 = r at *
          exact MR_move hW g3 (fun i i1 i2 => row_ne (by omega))
    · unfold f5_remember
      rw [drop_s]
      have e := put_s (A := drp A 130) (p := 13) (N := 140) (by decide) (by decide) (by decide) hd
      simp (disch := omega) only [iI_add, iI_sub, iI_mul, iI_lt, iI_le, iI_eq, iI_lt0, iI_0lt, iI_le0, iI_0le, iI_eq0, iI_div, iI_rem, iI_max, iI_min, iI_abs, ib_iI, aI_get, aI_upd, iB_eq0, iB_eqi0, iB_eqi1, iB_t, iB_f, iB_ok, okB_0, okB_1, nar0, nar1, o2, o4, o6, o20, o36, o140, Option.bind_some, if_true, if_false, if_pos, if_neg, Int.reduceAdd, Int.reduceSub, Int.reduceMul, Int.reduceNeg, Int.zero_add, Int.add_zero, e]
theorem MR_10 {W : Int} {M : Int → Int} {d : DZ} : MR W M (10 * 0) d = MR W M 0 d := by rw [Int.mul_zero]
theorem op_call {K P U : Int → Int} {W T : Int} {d : DZ} {M A R : Int → Int} {a x : Int} (h : CX K P U W T d M) (ha : AR W A a R x) (v : Int32) : ∃ (r : Int32) (d2 : DZ) (M2 A2 R2 : Int → Int) (a2 x2 : Int), CX K P U W T d2 M2 ∧ AR W A2 a2 R2 x2 ∧ (dC d2 = dC d ∧ dH d2 = dH d ∧ dL d2 = dL d) ∧ f5_call v (aI K) (aI P) (aI U) (iI W) (iI T) (aI (dS d)) (iI (dC d)) (iI (dY d)) (iI (dO d)) (iI (dK d)) (iI (dH d)) (iI (dL d)) (aI A) (iI a) = some (r, aI (dS d2), iI (dY d2), iI (dO d2), iI (dK d2), aI A2, iI a2) ∧ f6_call v (iI W) (iI T) (iI a) (iI x) (aI K) (aI P) (aI U) (aI M) (aI R) = some (r, iI a2, iI x2, aI M2, aI R2) := by
  obtain ⟨w, h1, h2, rfl⟩ := iI_of v
  obtain ⟨hG, hd, hM⟩ := id h
  obtain ⟨q1, q2, q3, q4, q5, q6, q7, q8, q9, q10⟩ := id hd
  obtain ⟨r1, r2, r3, r4, r5, r6, r7⟩ := id hM
  have hW := hG.1
  have hW2 := hG.2.1
  have g8 : aI M (iI 8).toNatClampNeg = iI (dL d) := by rw [aI_get (by decide) (by decide)]; exact congrArg iI r6
  unfold f5_call f6_call
  rw [hasWord_s h1 h2 hW hW2, isWord_s h1 h2 hW hW2]
  by_cases c : 0 ≤ w ∧ w < W
  · rw [decide_eq_true c]
    by_cases cl : dL d = 0
    · obtain ⟨A2, R2, a2, x2, b1, b2, b3⟩ := rem_s h ha
      obtain ⟨M2, e1, e2, e3⟩ := callOn_s (M := M) (lev := 0) hG hd (by rw [MR_10]; exact hM) (Or.inl rfl) (by rw [show M 7 = dH d from r5]; exact q7) (by rw [show M 7 = dH d from r5]; exact q8) c.1 c.2
      rw [MR_10] at e2
      refine ⟨iB (callB K P U T w d), callD K P U T w d, M2, A2, R2, a2, x2, ⟨hG, callD_ok hd c.1 c.2, e2⟩, b1, ?_, ?_, ?_⟩
      · unfold callD
        split <;> exact ⟨rfl, rfl, rfl⟩
      · rw [b2, callHim_s hG hd c.1 c.2, cl]
        simp (disch := omega) only [iI_add, iI_sub, iI_mul, iI_lt, iI_le, iI_eq, iI_lt0, iI_0lt, iI_le0, iI_0le, iI_eq0, iI_div, iI_rem, iI_max, iI_min, iI_abs, ib_iI, aI_get, aI_upd, iB_eq0, iB_eqi0, iB_eqi1, iB_t, iB_f, iB_ok, okB_0, okB_1, nar0, nar1, o2, o4, o6, o20, o36, o140, Option.bind_some, if_true, if_false, if_pos, if_neg, Int.reduceAdd, Int.reduceSub, Int.reduceMul, Int.reduceNeg, Int.zero_add, Int.add_zero, asNumber_s]
      · rw [g8, b3, e1, cl]
        cases callB K P U T w d with
        | true => simp (disch := omega) only [iI_add, iI_sub, iI_mul, iI_lt, iI_le, iI_eq, iI_lt0, iI_0lt, iI_le0, iI_0le, iI_eq0, iI_div, iI_rem, iI_max, iI_min, iI_abs, ib_iI, aI_get, aI_upd, iB_eq0, iB_eqi0, iB_eqi1, iB_t, iB_f, iB_ok, okB_0, okB_1, nar0, nar1, o2, o4, o6, o20, o36, o140, Option.bind_some, if_true, if_false, if_pos, if_neg, Int.reduceAdd, Int.reduceSub, Int.reduceMul, Int.reduceNeg, Int.zero_add, Int.add_zero]
        | false => simp (disch := omega) only [iI_add, iI_sub, iI_mul, iI_lt, iI_le, iI_eq, iI_lt0, iI_0lt, iI_le0, iI_0le, iI_eq0, iI_div, iI_rem, iI_max, iI_min, iI_abs, ib_iI, aI_get, aI_upd, iB_eq0, iB_eqi0, iB_eqi1, iB_t, iB_f, iB_ok, okB_0, okB_1, nar0, nar1, o2, o4, o6, o20, o36, o140, Option.bind_some, if_true, if_false, if_pos, if_neg, Int.reduceAdd, Int.reduceSub, Int.reduceMul, Int.reduceNeg, Int.zero_add, Int.add_zero]
    · refine ⟨iI (-3), d, M, A, R, a, x, h, ha, ⟨rfl, rfl, rfl⟩, ?_, ?_⟩
      · simp (disch := omega) only [iI_add, iI_sub, iI_mul, iI_lt, iI_le, iI_eq, iI_lt0, iI_0lt, iI_le0, iI_0le, iI_eq0, iI_div, iI_rem, iI_max, iI_min, iI_abs, ib_iI, aI_get, aI_upd, iB_eq0, iB_eqi0, iB_eqi1, iB_t, iB_f, iB_ok, okB_0, okB_1, nar0, nar1, o2, o4, o6, o20, o36, o140, Option.bind_some, if_true, if_false, if_pos, if_neg, Int.reduceAdd, Int.reduceSub, Int.reduceMul, Int.reduceNeg, Int.zero_add, Int.add_zero]
      · rw [g8, show dL d = 1 by omega]
        simp (disch := omega) only [iI_add, iI_sub, iI_mul, iI_lt, iI_le, iI_eq, iI_lt0, iI_0lt, iI_le0, iI_0le, iI_eq0, iI_div, iI_rem, iI_max, iI_min, iI_abs, ib_iI, aI_get, aI_upd, iB_eq0, iB_eqi0, iB_eqi1, iB_t, iB_f, iB_ok, okB_0, okB_1, nar0, nar1, o2, o4, o6, o20, o36, o140, Option.bind_some, if_true, if_false, if_pos, if_neg, Int.reduceAdd, Int.reduceSub, Int.reduceMul, Int.reduceNeg, Int.zero_add, Int.add_zero]
  · rw [decide_eq_false c]
    refine ⟨iI (-1), d, M, A, R, a, x, h, ha, ⟨rfl, rfl, rfl⟩, ?_, ?_⟩
    · simp (disch := omega) only [iI_add, iI_sub, iI_mul, iI_lt, iI_le, iI_eq, iI_lt0, iI_0lt, iI_le0, iI_0le, iI_eq0, iI_div, iI_rem, iI_max, iI_min, iI_abs, ib_iI, aI_get, aI_upd, iB_eq0, iB_eqi0, iB_eqi1, iB_t, iB_f, iB_ok, okB_0, okB_1, nar0, nar1, o2, o4, o6, o20, o36, o140, Option.bind_some, if_true, if_false, if_pos, if_neg, Int.reduceAdd, Int.reduceSub, Int.reduceMul, Int.reduceNeg, Int.zero_add, Int.add_zero]
    · simp (disch := omega) only [iI_add, iI_sub, iI_mul, iI_lt, iI_le, iI_eq, iI_lt0, iI_0lt, iI_le0, iI_0le, iI_eq0, iI_div, iI_rem, iI_max, iI_min, iI_abs, ib_iI, aI_get, aI_upd, iB_eq0, iB_eqi0, iB_eqi1, iB_t, iB_f, iB_ok, okB_0, okB_1, nar0, nar1, o2, o4, o6, o20, o36, o140, Option.bind_some, if_true, if_false, if_pos, if_neg, Int.reduceAdd, Int.reduceSub, Int.reduceMul, Int.reduceNeg, Int.zero_add, Int.add_zero]
theorem op_pay {K P U : Int → Int} {W T : Int} {d : DZ} {M A R : Int → Int} {a x : Int} (h : CX K P U W T d M) (ha : AR W A a R x) : ∃ (r : Int32) (d2 : DZ) (M2 A2 R2 : Int → Int) (a2 x2 : Int), CX K P U W T d2 M2 ∧ AR W A2 a2 R2 x2 ∧ (dY d2 = dY d ∧ dK d2 = dK d ∧ dH d2 = dH d ∧ dL d2 = dL d) ∧ f5_pay (aI (dS d)) (iI (dC d)) (iI (dY d)) (iI (dO d)) (iI (dK d)) (iI (dH d)) (iI (dL d)) (aI A) (iI a) = some (r, aI (dS d2), iI (dC d2), iI (dO d2), aI A2, iI a2) ∧ f6_pay (iI a) (iI x) (aI M) (aI R) = some (r, iI a2, iI x2, aI M2, aI R2) := by
  obtain ⟨hG, hd, hM⟩ := id h
  obtain ⟨q1, q2, q3, q4, q5, q6, q7, q8, q9, q10⟩ := id hd
  have hW := hG.1
  have hW2 := hG.2.1
  have hM0 : MR W M (10 * 0) d := by rw [MR_10]; exact hM
  unfold f5_pay f6_pay
  rw [canBePaid_s q2 q3 (by omega) (by omega), canPay_s hd hM0 (Or.inl rfl) hW2]
  show ∃ (r : Int32) (d2 : DZ) (M2 A2 R2 : Int → Int) (a2 x2 : Int), CX K P U W T d2 M2 ∧ AR W A2 a2 R2 x2 ∧ (dY d2 = dY d ∧ dK d2 = dK d ∧ dH d2 = dH d ∧ dL d2 = dL d) ∧ (some (iB (canPayB d))).bind _ = _ ∧ _
  cases hc : canPayB d with
  | false =>
    refine ⟨iI (-3), d, M, A, R, a, x, h, ha, ⟨rfl, rfl, rfl, rfl⟩, ?_, ?_⟩
    · simp (disch := omega) only [iI_add, iI_sub, iI_mul, iI_lt, iI_le, iI_eq, iI_lt0, iI_0lt, iI_le0, iI_0le, iI_eq0, iI_div, iI_rem, iI_max, iI_min, iI_abs, ib_iI, aI_get, aI_upd, iB_eq0, iB_eqi0, iB_eqi1, iB_t, iB_f, iB_ok, okB_0, okB_1, nar0, nar1, o2, o4, o6, o20, o36, o140, Option.bind_some, if_true, if_false, if_pos, if_neg, Int.reduceAdd, Int.reduceSub, Int.reduceMul, Int.reduceNeg, Int.zero_add, Int.add_zero]
    · simp (disch := omega) only [iI_add, iI_sub, iI_mul, iI_lt, iI_le, iI_eq, iI_lt0, iI_0lt, iI_le0, iI_0le, iI_eq0, iI_div, iI_rem, iI_max, iI_min, iI_abs, ib_iI, aI_get, aI_upd, iB_eq0, iB_eqi0, iB_eqi1, iB_t, iB_f, iB_ok, okB_0, okB_1, nar0, nar1, o2, o4, o6, o20, o36, o140, Option.bind_some, if_true, if_false, if_pos, if_neg, Int.reduceAdd, Int.reduceSub, Int.reduceMul, Int.reduceNeg, Int.zero_add, Int.add_zero]
  | true =>
    have hc2 := of_decide_eq_true hc
    have ho : 0 ≤ dO d ∧ dO d < W := by omega
    have hs := q1 (dO d) ho.1 ho.2
    obtain ⟨A2, R2, a2, x2, b1, b2, b3⟩ := rem_s h ha
    obtain ⟨M2, e1, e2, e3⟩ := payOn_s hd hM0 (Or.inl rfl) hW2 hc
    rw [MR_10] at e2
    refine ⟨iI (dS (payD d) (dO d)), payD d, M2, A2, R2, a2, x2, ⟨hG, payD_ok hd hc, e2⟩, b1, ⟨rfl, rfl, rfl, rfl⟩, ?_, ?_⟩
    · rw [b2, bePaid_s ho.1 (by omega) (by omega) (by omega)]
      simp (disch := omega) only [iI_add, iI_sub, iI_mul, iI_lt, iI_le, iI_eq, iI_lt0, iI_0lt, iI_le0, iI_0le, iI_eq0, iI_div, iI_rem, iI_max, iI_min, iI_abs, ib_iI, aI_get, aI_upd, iB_eq0, iB_eqi0, iB_eqi1, iB_t, iB_f, iB_ok, okB_0, okB_1, nar0, nar1, o2, o4, o6, o20, o36, o140, Option.bind_some, if_true, if_false, if_pos, if_neg, Int.reduceAdd, Int.reduceSub, Int.reduceMul, Int.reduceNeg, Int.zero_add, Int.add_zero, strengthOf_s]
      rfl
    · rw [b3, e1]
      simp (disch := omega) only [iI_add, iI_sub, iI_mul, iI_lt, iI_le, iI_eq, iI_lt0, iI_0lt, iI_le0, iI_0le, iI_eq0, iI_div, iI_rem, iI_max, iI_min, iI_abs, ib_iI, aI_get, aI_upd, iB_eq0, iB_eqi0, iB_eqi1, iB_t, iB_f, iB_ok, okB_0, okB_1, nar0, nar1, o2, o4, o6, o20, o36, o140, Option.bind_some, if_true, if_false, if_pos, if_neg, Int.reduceAdd, Int.reduceSub, Int.reduceMul, Int.reduceNeg, Int.zero_add, Int.add_zero]
