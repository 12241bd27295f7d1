/-! PAID, RUN, LEAD in the reference's row; the trial laid beside -/
theorem canPay_s {W M} {lev : Int} {d : DZ} (hd : DOK W d) (hM : MR W M (10 * lev) d) (hl : lev = 0 ∨ lev = 1) (hW : W ≤ 4) : f6_canPay (iI lev) (aI M) = some (iB (canPayB d)) := by
  obtain ⟨h1, h2, h3, h4, h5, h6, h7, h8, h9, h10⟩ := hd
  obtain ⟨r1, r2, r3, r4, r5, r6, r7⟩ := hM
  have hbnd : 0 ≤ 10 * lev ∧ 10 * lev ≤ 10 := by omega
  have e1 : (iI 10 * iI lev : Int32) = iI (10 * lev) := iI_mul 10 lev
  generalize 10 * lev = b at *
  unfold f6_canPay canPayB
  rw [e1, iI_add, iI_add, aI_get (by omega) (by omega), aI_get (by omega) (by omega), r2, r4]
  by_cases c1 : dO d = -9
  · rw [decide_eq_false (by omega), c1]
    simp (disch := omega) only [iI_add, iI_sub, iI_mul, iI_lt, iI_le, iI_eq, iI_lt0, iI_0lt, iI_le0, iI_0le, iI_eq0, iI_div, iI_rem, iI_max, iI_min, iI_abs, ib_iI, aI_get, aI_upd, iB_eq0, iB_eqi0, iB_eqi1, iB_t, iB_f, iB_ok, okB_0, okB_1, nar0, nar1, o2, o4, o6, o20, o36, o140, Option.bind_some, if_true, if_false, if_pos, if_neg, Int.reduceAdd, Int.reduceSub, Int.reduceMul, Int.reduceNeg, Int.zero_add, Int.add_zero]
  · by_cases c2 : dC d ≤ 0
    · rw [decide_eq_false (by omega)]
      simp (disch := omega) only [iI_add, iI_sub, iI_mul, iI_lt, iI_le, iI_eq, iI_lt0, iI_0lt, iI_le0, iI_0le, iI_eq0, iI_div, iI_rem, iI_max, iI_min, iI_abs, ib_iI, aI_get, aI_upd, iB_eq0, iB_eqi0, iB_eqi1, iB_t, iB_f, iB_ok, okB_0, okB_1, nar0, nar1, o2, o4, o6, o20, o36, o140, Option.bind_some, if_true, if_false, if_pos, if_neg, Int.reduceAdd, Int.reduceSub, Int.reduceMul, Int.reduceNeg, Int.zero_add, Int.add_zero]
    · rw [decide_eq_true (by omega)]
      simp (disch := omega) only [iI_add, iI_sub, iI_mul, iI_lt, iI_le, iI_eq, iI_lt0, iI_0lt, iI_le0, iI_0le, iI_eq0, iI_div, iI_rem, iI_max, iI_min, iI_abs, ib_iI, aI_get, aI_upd, iB_eq0, iB_eqi0, iB_eqi1, iB_t, iB_f, iB_ok, okB_0, okB_1, nar0, nar1, o2, o4, o6, o20, o36, o140, Option.bind_some, if_true, if_false, if_pos, if_neg, Int.reduceAdd, Int.reduceSub, Int.reduceMul, Int.reduceNeg, Int.zero_add, Int.add_zero]
theorem payOn_s {W : Int} {M : Int → Int} {lev : Int} {d : DZ} (hd : DOK W d) (hM : MR W M (10 * lev) d) (hl : lev = 0 ∨ lev = 1) (hW : W ≤ 4) (hc : canPayB d = true) : ∃ M2 : Int → Int, f6_payOn (iI lev) (aI M) = some (iI (dS (payD d) (dO d)), aI M2) ∧ MR W M2 (10 * lev) (payD d) ∧ MF M M2 (10 * lev) := by
  obtain ⟨h1, h2, h3, h4, h5, h6, h7, h8, h9, h10⟩ := hd
  obtain ⟨r1, r2, r3, r4, r5, r6, r7⟩ := hM
  have hc2 := of_decide_eq_true hc
  have ho : 0 ≤ dO d ∧ dO d < W := by omega
  have hs := h1 (dO d) ho.1 ho.2
  have r0 := r1 (dO d) ho.1 ho.2
  have hbnd : 0 ≤ 10 * lev ∧ 10 * lev ≤ 10 := by omega
  have e1 : (iI 10 * iI lev : Int32) = iI (10 * lev) := iI_mul 10 lev
  generalize 10 * lev = b at *
  unfold f6_payOn
  rw [e1]
  show ∃ M2 : Int → Int, _ = some (iI (uz (dS d) (dO d) (cut9 (dS d (dO d) + 1)) (dO d)), aI M2) ∧ MR W M2 b (uz (dS d) (dO d) (cut9 (dS d (dO d) + 1)), dC d - 1, dY d, -9, dK d, dH d, dL d) ∧ MF M M2 b
  have e5 : uz M (b + 4) (dC d - 1) (b + dO d) = dS d (dO d) := by rw [uz_ne (by omega), r0]
  refine ⟨uz (uz (uz M (b + 4) (dC d - 1)) (b + dO d) (cut9 (dS d (dO d) + 1))) (b + 6) (-9), ?_, ⟨fun v hv1 hv2 => ?_, ?_, ?_, ?_, ?_, ?_, ?_⟩, fun j hj => ?_⟩
  · rw [uz_same]
    have e6 : ∀ z : Int, uz (uz (uz M (b + 4) (dC d - 1)) (b + dO d) z) (b + 6) (-9) (b + dO d) = z := fun z => by rw [uz_ne (by omega), uz_same]
    by_cases c1 : 9 ≤ dS d (dO d)
    · rw [show cut9 (dS d (dO d) + 1) = dS d (dO d) by unfold cut9; omega]
      simp (disch := omega) only [iI_add, iI_sub, iI_mul, iI_lt, iI_le, iI_eq, iI_lt0, iI_0lt, iI_le0, iI_0le, iI_eq0, iI_div, iI_rem, iI_max, iI_min, iI_abs, ib_iI, aI_get, aI_upd, iB_eq0, iB_eqi0, iB_eqi1, iB_t, iB_f, iB_ok, okB_0, okB_1, nar0, nar1, o2, o4, o6, o20, o36, o140, Option.bind_some, if_true, if_false, if_pos, if_neg, Int.reduceAdd, Int.reduceSub, Int.reduceMul, Int.reduceNeg, Int.zero_add, Int.add_zero, r2, r4, e5, e6]
    · rw [show cut9 (dS d (dO d) + 1) = dS d (dO d) + 1 by unfold cut9; omega]
      simp (disch := omega) only [iI_add, iI_sub, iI_mul, iI_lt, iI_le, iI_eq, iI_lt0, iI_0lt, iI_le0, iI_0le, iI_eq0, iI_div, iI_rem, iI_max, iI_min, iI_abs, ib_iI, aI_get, aI_upd, iB_eq0, iB_eqi0, iB_eqi1, iB_t, iB_f, iB_ok, okB_0, okB_1, nar0, nar1, o2, o4, o6, o20, o36, o140, Option.bind_some, if_true, if_false, if_pos, if_neg, Int.reduceAdd, Int.reduceSub, Int.reduceMul, Int.reduceNeg, Int.zero_add, Int.add_zero, r2, r4, e5, e6]
  · rw [uz_ne (by omega)]
    show _ = uz (dS d) (dO d) (cut9 (dS d (dO d) + 1)) v
    by_cases c : v = dO d
    · rw [c, uz_same, uz_same]
    · rw [uz_ne (by omega), uz_ne (by omega), uz_ne c]
      exact r1 v hv1 hv2
  · rw [uz_ne (by omega), uz_ne (by omega), uz_eq (by omega)]
  · rw [uz_ne (by omega), uz_ne (by omega), uz_ne (by omega)]; exact r3
  · rw [uz_eq (by omega)]
  · rw [uz_ne (by omega), uz_ne (by omega), uz_ne (by omega)]; exact r5
  · rw [uz_ne (by omega), uz_ne (by omega), uz_ne (by omega)]; exact r6
  · rw [uz_ne (by omega), uz_ne (by omega), uz_ne (by omega)]; exact r7
  · rw [uz_ne (by omega), uz_ne (by omega), uz_ne (by omega)]
theorem runOn_s {W : Int} {M : Int → Int} {lev n : Int} {d : DZ} (hd : DOK W d) (hM : MR W M (10 * lev) d) (hl : lev = 0 ∨ lev = 1) (hW : W ≤ 4) (hn1 : 0 ≤ n) (hn2 : n ≤ 9) : ∃ M2 : Int → Int, f6_runOn (iI lev) (iI n) (aI M) = some (aI M2) ∧ MR W M2 (10 * lev) (runD n d) ∧ MF M M2 (10 * lev) := by
  obtain ⟨h1, h2, h3, h4, h5, h6, h7, h8, h9, h10⟩ := hd
  obtain ⟨r1, r2, r3, r4, r5, r6, r7⟩ := hM
  have hbnd : 0 ≤ 10 * lev ∧ 10 * lev ≤ 10 := by omega
  have e1 : (iI 10 * iI lev : Int32) = iI (10 * lev) := iI_mul 10 lev
  generalize 10 * lev = b at *
  unfold f6_runOn
  rw [e1]
  refine ⟨uz (uz M (b + 5) (min 9 (dY d + n))) (b + 6) (-9), ?_, ⟨fun v hv1 hv2 => ?_, ?_, ?_, ?_, ?_, ?_, ?_⟩, fun j hj => ?_⟩
  · by_cases c1 : dY d + n ≤ 9
    · rw [show min 9 (dY d + n) = dY d + n by omega]
      simp (disch := omega) only [iI_add, iI_sub, iI_mul, iI_lt, iI_le, iI_eq, iI_lt0, iI_0lt, iI_le0, iI_0le, iI_eq0, iI_div, iI_rem, iI_max, iI_min, iI_abs, ib_iI, aI_get, aI_upd, iB_eq0, iB_eqi0, iB_eqi1, iB_t, iB_f, iB_ok, okB_0, okB_1, nar0, nar1, o2, o4, o6, o20, o36, o140, Option.bind_some, if_true, if_false, if_pos, if_neg, Int.reduceAdd, Int.reduceSub, Int.reduceMul, Int.reduceNeg, Int.zero_add, Int.add_zero, r3]
    · rw [show min 9 (dY d + n) = 9 by omega]
      simp (disch := omega) only [iI_add, iI_sub, iI_mul, iI_lt, iI_le, iI_eq, iI_lt0, iI_0lt, iI_le0, iI_0le, iI_eq0, iI_div, iI_rem, iI_max, iI_min, iI_abs, ib_iI, aI_get, aI_upd, iB_eq0, iB_eqi0, iB_eqi1, iB_t, iB_f, iB_ok, okB_0, okB_1, nar0, nar1, o2, o4, o6, o20, o36, o140, Option.bind_some, if_true, if_false, if_pos, if_neg, Int.reduceAdd, Int.reduceSub, Int.reduceMul, Int.reduceNeg, Int.zero_add, Int.add_zero, r3]
  · rw [uz_ne (by omega), uz_ne (by omega)]; exact r1 v hv1 hv2
  · rw [uz_ne (by omega), uz_ne (by omega)]; exact r2
  · rw [uz_ne (by omega), uz_eq (by omega)]; rfl
  · rw [uz_eq (by omega)]; rfl
  · rw [uz_ne (by omega), uz_ne (by omega)]; exact r5
  · rw [uz_ne (by omega), uz_ne (by omega)]; exact r6
  · rw [uz_ne (by omega), uz_ne (by omega)]; exact r7
  · rw [uz_ne (by omega), uz_ne (by omega)]
theorem canLead_s {W : Int} {M : Int → Int} {lev : Int} {d : DZ} (hd : DOK W d) (hM : MR W M (10 * lev) d) (hl : lev = 0 ∨ lev = 1) : f6_canLead (iI lev) (aI M) = some (iB (canLeadB d)) := by
  obtain ⟨h1, h2, h3, h4, h5, h6, h7, h8, h9, h10⟩ := hd
  obtain ⟨r1, r2, r3, r4, r5, r6, r7⟩ := hM
  have hbnd : 0 ≤ 10 * lev ∧ 10 * lev ≤ 10 := by omega
  have e1 : (iI 10 * iI lev : Int32) = iI (10 * lev) := iI_mul 10 lev
  generalize 10 * lev = b at *
  unfold f6_canLead canLeadB
  rw [e1, iI_add, iI_add, aI_get (by omega) (by omega), aI_get (by omega) (by omega), r3, r6]
  by_cases c1 : dL d = 1
  · rw [decide_eq_true (by omega), c1]
    simp (disch := omega) only [iI_add, iI_sub, iI_mul, iI_lt, iI_le, iI_eq, iI_lt0, iI_0lt, iI_le0, iI_0le, iI_eq0, iI_div, iI_rem, iI_max, iI_min, iI_abs, ib_iI, aI_get, aI_upd, iB_eq0, iB_eqi0, iB_eqi1, iB_t, iB_f, iB_ok, okB_0, okB_1, nar0, nar1, o2, o4, o6, o20, o36, o140, Option.bind_some, if_true, if_false, if_pos, if_neg, Int.reduceAdd, Int.reduceSub, Int.reduceMul, Int.reduceNeg, Int.zero_add, Int.add_zero]
  · by_cases c2 : dY d = 0
    · rw [decide_eq_true (by omega), c2]
      simp (disch := omega) only [iI_add, iI_sub, iI_mul, iI_lt, iI_le, iI_eq, iI_lt0, iI_0lt, iI_le0, iI_0le, iI_eq0, iI_div, iI_rem, iI_max, iI_min, iI_abs, ib_iI, aI_get, aI_upd, iB_eq0, iB_eqi0, iB_eqi1, iB_t, iB_f, iB_ok, okB_0, okB_1, nar0, nar1, o2, o4, o6, o20, o36, o140, Option.bind_some, if_true, if_false, if_pos, if_neg, Int.reduceAdd, Int.reduceSub, Int.reduceMul, Int.reduceNeg, Int.zero_add, Int.add_zero]
    · rw [decide_eq_false (by omega)]
      simp (disch := omega) only [iI_add, iI_sub, iI_mul, iI_lt, iI_le, iI_eq, iI_lt0, iI_0lt, iI_le0, iI_0le, iI_eq0, iI_div, iI_rem, iI_max, iI_min, iI_abs, ib_iI, aI_get, aI_upd, iB_eq0, iB_eqi0, iB_eqi1, iB_t, iB_f, iB_ok, okB_0, okB_1, nar0, nar1, o2, o4, o6, o20, o36, o140, Option.bind_some, if_true, if_false, if_pos, if_neg, Int.reduceAdd, Int.reduceSub, Int.reduceMul, Int.reduceNeg, Int.zero_add, Int.add_zero]
theorem leadOn_s {K P U : Int → Int} {W T : Int} {M : Int → Int} {lev : Int} {d : DZ} (hG : GOK K P U W T) (hd : DOK W d) (hM : MR W M (10 * lev) d) (hl : lev = 0 ∨ lev = 1) : ∃ M2 : Int → Int, f6_leadOn (iI lev) (aI K) (aI M) = some (aI M2) ∧ MR W M2 (10 * lev) (leadD K d) ∧ MF M M2 (10 * lev) := by
  obtain ⟨g1, g2, g3, g4⟩ := hG
  obtain ⟨h1, h2, h3, h4, h5, h6, h7, h8, h9, h10⟩ := hd
  obtain ⟨r1, r2, r3, r4, r5, r6, r7⟩ := hM
  have hbnd : 0 ≤ 10 * lev ∧ 10 * lev ≤ 10 := by omega
  have e1 : (iI 10 * iI lev : Int32) = iI (10 * lev) := iI_mul 10 lev
  generalize 10 * lev = b at *
  unfold f6_leadOn
  rw [e1]
  by_cases c1 : dL d = 0 ∧ dO d ≠ -9
  · rw [leadD_p c1]
    have ho : 0 ≤ dO d ∧ dO d < W := by omega
    have hs := h1 (dO d) ho.1 ho.2
    have r0 := r1 (dO d) ho.1 ho.2
    have hk := g3 (dO d) ho.1 ho.2
    have ek : (if K (dO d) = 3 then -1 else -2 : Int) = -(if K (dO d) = 3 then 1 else 2 : Int) := by split <;> rfl
    refine ⟨uz (uz (uz M (b + dO d) (cut9 (dS d (dO d) + (if K (dO d) = 3 then -1 else -2)))) (b + 6) (-9)) (b + 8) (1 - dL d), ?_, ⟨fun v hv1 hv2 => ?_, ?_, ?_, ?_, ?_, ?_, ?_⟩, fun j hj => ?_⟩
    · have e8 : ∀ z : Int, uz (uz M (b + dO d) z) (b + 6) (-9) (b + 8) = 0 := fun z => by rw [uz_ne (by omega), uz_ne (by omega), r6, c1.1]
      rw [c1.1] at r6 ⊢
      by_cases c3 : K (dO d) = 3
      · rw [if_pos c3]
        by_cases c4 : 0 ≤ dS d (dO d) - 1
        · rw [show cut9 (dS d (dO d) + -1) = dS d (dO d) - 1 by unfold cut9; omega]
          simp (disch := omega) only [iI_add, iI_sub, iI_mul, iI_lt, iI_le, iI_eq, iI_lt0, iI_0lt, iI_le0, iI_0le, iI_eq0, iI_div, iI_rem, iI_max, iI_min, iI_abs, ib_iI, aI_get, aI_upd, iB_eq0, iB_eqi0, iB_eqi1, iB_t, iB_f, iB_ok, okB_0, okB_1, nar0, nar1, o2, o4, o6, o20, o36, o140, Option.bind_some, if_true, if_false, if_pos, if_neg, Int.reduceAdd, Int.reduceSub, Int.reduceMul, Int.reduceNeg, Int.zero_add, Int.add_zero, r4, r6, r0, e8]
        · rw [show cut9 (dS d (dO d) + -1) = 0 by unfold cut9; omega]
          simp (disch := omega) only [iI_add, iI_sub, iI_mul, iI_lt, iI_le, iI_eq, iI_lt0, iI_0lt, iI_le0, iI_0le, iI_eq0, iI_div, iI_rem, iI_max, iI_min, iI_abs, ib_iI, aI_get, aI_upd, iB_eq0, iB_eqi0, iB_eqi1, iB_t, iB_f, iB_ok, okB_0, okB_1, nar0, nar1, o2, o4, o6, o20, o36, o140, Option.bind_some, if_true, if_false, if_pos, if_neg, Int.reduceAdd, Int.reduceSub, Int.reduceMul, Int.reduceNeg, Int.zero_add, Int.add_zero, r4, r6, r0, e8]
      · rw [if_neg c3]
        by_cases c4 : 0 ≤ dS d (dO d) - 2
        · rw [show cut9 (dS d (dO d) + -2) = dS d (dO d) - 2 by unfold cut9; omega]
          simp (disch := omega) only [iI_add, iI_sub, iI_mul, iI_lt, iI_le, iI_eq, iI_lt0, iI_0lt, iI_le0, iI_0le, iI_eq0, iI_div, iI_rem, iI_max, iI_min, iI_abs, ib_iI, aI_get, aI_upd, iB_eq0, iB_eqi0, iB_eqi1, iB_t, iB_f, iB_ok, okB_0, okB_1, nar0, nar1, o2, o4, o6, o20, o36, o140, Option.bind_some, if_true, if_false, if_pos, if_neg, Int.reduceAdd, Int.reduceSub, Int.reduceMul, Int.reduceNeg, Int.zero_add, Int.add_zero, r4, r6, r0, e8]
        · rw [show cut9 (dS d (dO d) + -2) = 0 by unfold cut9; omega]
          simp (disch := omega) only [iI_add, iI_sub, iI_mul, iI_lt, iI_le, iI_eq, iI_lt0, iI_0lt, iI_le0, iI_0le, iI_eq0, iI_div, iI_rem, iI_max, iI_min, iI_abs, ib_iI, aI_get, aI_upd, iB_eq0, iB_eqi0, iB_eqi1, iB_t, iB_f, iB_ok, okB_0, okB_1, nar0, nar1, o2, o4, o6, o20, o36, o140, Option.bind_some, if_true, if_false, if_pos, if_neg, Int.reduceAdd, Int.reduceSub, Int.reduceMul, Int.reduceNeg, Int.zero_add, Int.add_zero, r4, r6, r0, e8]
    · generalize cut9 (dS d (dO d) + (if K (dO d) = 3 then -1 else -2)) = z
      rw [uz_ne (by omega), uz_ne (by omega)]
      show _ = uz (dS d) (dO d) z v
      by_cases c : v = dO d
      · rw [c, uz_same, uz_same]
      · rw [uz_ne (by omega), uz_ne c]
        exact r1 v hv1 hv2
    · rw [uz_ne (by omega), uz_ne (by omega), uz_ne (by omega)]; exact r2
    · rw [uz_ne (by omega), uz_ne (by omega), uz_ne (by omega)]; exact r3
    · rw [uz_ne (by omega), uz_eq (by omega)]
    · rw [uz_ne (by omega), uz_ne (by omega), uz_ne (by omega)]; exact r5
    · rw [uz_eq (by omega)]
    · rw [uz_ne (by omega), uz_ne (by omega), uz_ne (by omega)]; exact r7
    · rw [uz_ne (by omega), uz_ne (by omega), uz_ne (by omega)]
  · rw [leadD_n c1]
    refine ⟨uz M (b + 8) (1 - dL d), ?_, ⟨fun v hv1 hv2 => ?_, ?_, ?_, ?_, ?_, ?_, ?_⟩, fun j hj => ?_⟩
    · by_cases c2 : dL d = 0
      · have c3 : dO d = -9 := by omega
        rw [c2] at r6 ⊢
        rw [c3] at r4
        simp (disch := omega) only [iI_add, iI_sub, iI_mul, iI_lt, iI_le, iI_eq, iI_lt0, iI_0lt, iI_le0, iI_0le, iI_eq0, iI_div, iI_rem, iI_max, iI_min, iI_abs, ib_iI, aI_get, aI_upd, iB_eq0, iB_eqi0, iB_eqi1, iB_t, iB_f, iB_ok, okB_0, okB_1, nar0, nar1, o2, o4, o6, o20, o36, o140, Option.bind_some, if_true, if_false, if_pos, if_neg, Int.reduceAdd, Int.reduceSub, Int.reduceMul, Int.reduceNeg, Int.zero_add, Int.add_zero, r4, r6]
      · simp (disch := omega) only [iI_add, iI_sub, iI_mul, iI_lt, iI_le, iI_eq, iI_lt0, iI_0lt, iI_le0, iI_0le, iI_eq0, iI_div, iI_rem, iI_max, iI_min, iI_abs, ib_iI, aI_get, aI_upd, iB_eq0, iB_eqi0, iB_eqi1, iB_t, iB_f, iB_ok, okB_0, okB_1, nar0, nar1, o2, o4, o6, o20, o36, o140, Option.bind_some, if_true, if_false, if_pos, if_neg, Int.reduceAdd, Int.reduceSub, Int.reduceMul, Int.reduceNeg, Int.zero_add, Int.add_zero, r4, r6]
    · rw [uz_ne (by omega)]; exact r1 v hv1 hv2
    · rw [uz_ne (by omega)]; exact r2
    · rw [uz_ne (by omega)]; exact r3
    · rw [uz_ne (by omega)]; exact r4
    · rw [uz_ne (by omega)]; exact r5
    · rw [uz_eq (by omega)]
    · rw [uz_ne (by omega)]; exact r7
    · rw [uz_ne (by omega)]
/-- the first t of the ten cells laid beside -/
def lay (M : Int → Int) (t : Int) : Int → Int := fun j => if 10 ≤ j ∧ j < 10 + t then M (j - 10) else M j
theorem L_lay {M : Int → Int} (k : Int32 → (Nat → Int32) → Option (Nat → Int32)) : ∀ (j t n : Nat), t + j = 10 → j < n → l6_layTrial_2 k n (iI (t : Int)) (aI (lay M (t : Int))) = k (iI 10) (aI (lay M 10)) := by
  intro j
  induction j with
  | zero =>
    intro t n ht hn
    obtain ⟨n, rfl⟩ : ∃ q, n = q + 1 := ⟨n - 1, by omega⟩
    rw [l6_layTrial_2, show (t : Int) = 10 by omega]
    simp (disch := omega) only [iI_add, iI_sub, iI_mul, iI_lt, iI_le, iI_eq, iI_lt0, iI_0lt, iI_le0, iI_0le, iI_eq0, iI_div, iI_rem, iI_max, iI_min, iI_abs, ib_iI, aI_get, aI_upd, iB_eq0, iB_eqi0, iB_eqi1, iB_t, iB_f, iB_ok, okB_0, okB_1, nar0, nar1, o2, o4, o6, o20, o36, o140, Option.bind_some, if_true, if_false, if_pos, if_neg, Int.reduceAdd, Int.reduceSub, Int.reduceMul, Int.reduceNeg, Int.zero_add, Int.add_zero]
  | succ j ih =>
    intro t n ht hn
    obtain ⟨n, rfl⟩ : ∃ q, n = q + 1 := ⟨n - 1, by omega⟩
    have ih2 := ih (t + 1) n (by omega) (by omega)
    rw [l6_layTrial_2]
    simp (disch := omega) only [iI_add, iI_sub, iI_mul, iI_lt, iI_le, iI_eq, iI_lt0, iI_0lt, iI_le0, iI_0le, iI_eq0, iI_div, iI_rem, iI_max, iI_min, iI_abs, ib_iI, aI_get, aI_upd, iB_eq0, iB_eqi0, iB_eqi1, iB_t, iB_f, iB_ok, okB_0, okB_1, nar0, nar1, o2, o4, o6, o20, o36, o140, Option.bind_some, if_true, if_false, if_pos, if_neg, Int.reduceAdd, Int.reduceSub, Int.reduceMul, Int.reduceNeg, Int.zero_add, Int.add_zero]
    have e : uz (lay M (t : Int)) (10 + (t : Int)) (lay M (t : Int) (t : Int)) = lay M ((t + 1 : Nat) : Int) := by
      funext i
      by_cases c : i = 10 + (t : Int)
      · rw [uz_eq c]
        unfold lay
        rw [if_neg (by omega), if_pos (by omega), c]
        congr 1
        omega
      · rw [uz_ne c]
        unfold lay
        by_cases c2 : 10 ≤ i ∧ i < 10 + (t : Int)
        · rw [if_pos c2, if_pos (by omega)]
        · rw [if_neg c2, if_neg (by omega)]
    rw [e]
    exact ih2
theorem layTrial_s {M : Int → Int} : f6_layTrial (aI M) = some (aI (lay M 10)) := by
  unfold f6_layTrial
  have e : M = lay M ((0 : Nat) : Int) := by
    funext i
    unfold lay
    rw [if_neg (by omega)]
  have h := L_lay (M := M) (fun v1 mno => some mno) 10 0 FU (by omega) (by unfold FU; omega)
  rw [← e] at h
  exact h
theorem lay_hi {M : Int → Int} {j : Int} (h1 : 0 ≤ j) (h2 : j < 10) : lay M 10 (10 + j) = M (0 + j) := by
  unfold lay
  rw [if_pos (by omega)]
  congr 1
  omega
theorem lay_lo {M : Int → Int} {j : Int} (h : j < 10) : lay M 10 j = M j := by
  unfold lay
  rw [if_neg (by omega)]
theorem cp4_in {s t : Int → Int} {j : Int} (h1 : 0 ≤ j) (h2 : j < 4) : cp4 s t j = s j := by
  unfold cp4
  rw [if_pos ⟨h1, h2⟩]
/-- the trial: a dog with the same strengths of words -/
theorem MR_lay {W : Int} {M : Int → Int} {d : DZ} (hM : MR W M 0 d) (hW : W ≤ 4) (t : Int → Int) : MR W (lay M 10) 10 (cp4 (dS d) t, dC d, dY d, dO d, dK d, dH d, dL d) := by
  obtain ⟨r1, r2, r3, r4, r5, r6, r7⟩ := hM
  refine ⟨fun w h1 h2 => ?_, ?_, ?_, ?_, ?_, ?_, ?_⟩
  · rw [lay_hi h1 (by omega), r1 w h1 h2]
    exact (cp4_in h1 (by omega)).symm
  · rw [lay_hi (by decide) (by decide)]; exact r2
  · rw [lay_hi (by decide) (by decide)]; exact r3
  · rw [lay_hi (by decide) (by decide)]; exact r4
  · rw [lay_hi (by decide) (by decide)]; exact r5
  · rw [lay_hi (by decide) (by decide)]; exact r6
  · rw [lay_hi (by decide) (by decide)]; exact r7
theorem DOK_cp4 {W : Int} {d : DZ} (hd : DOK W d) (hW : W ≤ 4) (t : Int → Int) : DOK W (cp4 (dS d) t, dC d, dY d, dO d, dK d, dH d, dL d) := by
  obtain ⟨h1, h2⟩ := hd
  refine ⟨fun w a b => ?_, h2⟩
  show 0 ≤ cp4 (dS d) t w ∧ cp4 (dS d) t w ≤ 9
  rw [cp4_in a (by omega)]
  exact h1 w a b
