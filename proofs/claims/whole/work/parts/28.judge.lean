/-! judge: one doing on the trial, both sides -/
theorem well_b {K P U : Int → Int} {W T : Int} {t : DZ} {M : Int → Int} (hG : GOK K P U W T) (ht : DOK W t) (hM : MR W M 10 t) (h71 : 0 ≤ M 7) (h72 : M 7 ≤ 1) {v : Int} (hv1 : 0 ≤ v) (hv2 : v ≤ 9) : ∃ (b : Bool) (t2 : DZ) (M2 : Int → Int), f5_doesWell (iI v) (aI K) (aI P) (aI U) (iI W) (iI T) (aI (dS t)) (iI (dC t)) (iI (dY t)) (iI (dO t)) (iI (dK t)) (iI (dH t)) (iI (dL t)) = some (iB b, aI (dS t2), iI (dC t2), iI (dY t2), iI (dO t2), iI (dK t2), iI (dH t2), iI (dL t2)) ∧ f6_tryThing (iI v) (iI W) (iI T) (aI K) (aI P) (aI U) (aI M) = some (iB b, aI M2) ∧ DOK W t2 ∧ MF M M2 10 ∧ (b = true → MR W M2 10 t2) := by
  obtain ⟨q1, q2, q3, q4, q5, q6, q7, q8, q9, q10⟩ := id ht
  obtain ⟨r1, r2, r3, r4, r5, r6, r7⟩ := id hM
  have hW := hG.1
  have hW2 := hG.2.1
  have g18 : aI M (iI 18).toNatClampNeg = iI (dL t) := by rw [aI_get (by decide) (by decide)]; exact congrArg iI r6
  have g17 : aI M (iI 17).toNatClampNeg = iI (dH t) := by rw [aI_get (by decide) (by decide)]; exact congrArg iI r5
  unfold f5_doesWell f6_tryThing
  rw [g18, g17]
  by_cases c0 : v = 0
  · subst c0
    refine ⟨true, t, M, ?_, ?_, ht, fun j _ => rfl, fun _ => hM⟩
    · simp (disch := omega) only [iI_add, iI_sub, iI_mul, iI_lt, iI_le, iI_eq, iI_lt0, iI_0lt, iI_le0, iI_0le, iI_eq0, iI_div, iI_rem, iI_max, iI_min, iI_abs, ib_iI, aI_get, aI_upd, iB_eq0, iB_eqi0, iB_eqi1, iB_t, iB_f, iB_ok, okB_0, okB_1, nar0, nar1, o2, o4, o6, o20, o36, o140, Option.bind_some, if_true, if_false, if_pos, if_neg, Int.reduceAdd, Int.reduceSub, Int.reduceMul, Int.reduceNeg, Int.zero_add, Int.add_zero]
    · by_cases cl : dL t = 0
      · simp (disch := omega) only [iI_add, iI_sub, iI_mul, iI_lt, iI_le, iI_eq, iI_lt0, iI_0lt, iI_le0, iI_0le, iI_eq0, iI_div, iI_rem, iI_max, iI_min, iI_abs, ib_iI, aI_get, aI_upd, iB_eq0, iB_eqi0, iB_eqi1, iB_t, iB_f, iB_ok, okB_0, okB_1, nar0, nar1, o2, o4, o6, o20, o36, o140, Option.bind_some, if_true, if_false, if_pos, if_neg, Int.reduceAdd, Int.reduceSub, Int.reduceMul, Int.reduceNeg, Int.zero_add, Int.add_zero]
      · simp (disch := omega) only [iI_add, iI_sub, iI_mul, iI_lt, iI_le, iI_eq, iI_lt0, iI_0lt, iI_le0, iI_0le, iI_eq0, iI_div, iI_rem, iI_max, iI_min, iI_abs, ib_iI, aI_get, aI_upd, iB_eq0, iB_eqi0, iB_eqi1, iB_t, iB_f, iB_ok, okB_0, okB_1, nar0, nar1, o2, o4, o6, o20, o36, o140, Option.bind_some, if_true, if_false, if_pos, if_neg, Int.reduceAdd, Int.reduceSub, Int.reduceMul, Int.reduceNeg, Int.zero_add, Int.add_zero]
  by_cases c5 : v = 5
  · subst c5
    have e1 := canPay_s (lev := 1) ht hM (Or.inr rfl) hW2
    have e0 := canBePaid_s (c := dC t) (o := dO t) q2 q3 (by omega) (by omega)
    have e0' : f0_canBePaid (iI (dC t)) (iI (dO t)) = some (iB (canPayB t)) := e0
    cases hc : canPayB t with
    | false =>
      rw [hc] at e1 e0'
      refine ⟨false, t, M, ?_, ?_, ht, fun j _ => rfl, fun q => absurd q (by decide)⟩
      · simp (disch := omega) only [iI_add, iI_sub, iI_mul, iI_lt, iI_le, iI_eq, iI_lt0, iI_0lt, iI_le0, iI_0le, iI_eq0, iI_div, iI_rem, iI_max, iI_min, iI_abs, ib_iI, aI_get, aI_upd, iB_eq0, iB_eqi0, iB_eqi1, iB_t, iB_f, iB_ok, okB_0, okB_1, nar0, nar1, o2, o4, o6, o20, o36, o140, Option.bind_some, if_true, if_false, if_pos, if_neg, Int.reduceAdd, Int.reduceSub, Int.reduceMul, Int.reduceNeg, Int.zero_add, Int.add_zero, e0']
      · by_cases cl : dL t = 0
        · simp (disch := omega) only [iI_add, iI_sub, iI_mul, iI_lt, iI_le, iI_eq, iI_lt0, iI_0lt, iI_le0, iI_0le, iI_eq0, iI_div, iI_rem, iI_max, iI_min, iI_abs, ib_iI, aI_get, aI_upd, iB_eq0, iB_eqi0, iB_eqi1, iB_t, iB_f, iB_ok, okB_0, okB_1, nar0, nar1, o2, o4, o6, o20, o36, o140, Option.bind_some, if_true, if_false, if_pos, if_neg, Int.reduceAdd, Int.reduceSub, Int.reduceMul, Int.reduceNeg, Int.zero_add, Int.add_zero, e1]
        · simp (disch := omega) only [iI_add, iI_sub, iI_mul, iI_lt, iI_le, iI_eq, iI_lt0, iI_0lt, iI_le0, iI_0le, iI_eq0, iI_div, iI_rem, iI_max, iI_min, iI_abs, ib_iI, aI_get, aI_upd, iB_eq0, iB_eqi0, iB_eqi1, iB_t, iB_f, iB_ok, okB_0, okB_1, nar0, nar1, o2, o4, o6, o20, o36, o140, Option.bind_some, if_true, if_false, if_pos, if_neg, Int.reduceAdd, Int.reduceSub, Int.reduceMul, Int.reduceNeg, Int.zero_add, Int.add_zero, e1]
    | true =>
      have hc2 := of_decide_eq_true hc
      have ho : 0 ≤ dO t ∧ dO t < W := by omega
      have hs := q1 (dO t) ho.1 ho.2
      obtain ⟨M2, f1, f2, f3⟩ := payOn_s (lev := 1) ht hM (Or.inr rfl) hW2 hc
      rw [hc] at e1 e0'
      refine ⟨true, payD t, M2, ?_, ?_, payD_ok ht hc, f3, fun _ => f2⟩
      · simp (disch := omega) only [iI_add, iI_sub, iI_mul, iI_lt, iI_le, iI_eq, iI_lt0, iI_0lt, iI_le0, iI_0le, iI_eq0, iI_div, iI_rem, iI_max, iI_min, iI_abs, ib_iI, aI_get, aI_upd, iB_eq0, iB_eqi0, iB_eqi1, iB_t, iB_f, iB_ok, okB_0, okB_1, nar0, nar1, o2, o4, o6, o20, o36, o140, Option.bind_some, if_true, if_false, if_pos, if_neg, Int.reduceAdd, Int.reduceSub, Int.reduceMul, Int.reduceNeg, Int.zero_add, Int.add_zero, Bool.true_eq_false, e0', bePaid_s]
        rfl
      · by_cases cl : dL t = 0
        · simp (disch := omega) only [iI_add, iI_sub, iI_mul, iI_lt, iI_le, iI_eq, iI_lt0, iI_0lt, iI_le0, iI_0le, iI_eq0, iI_div, iI_rem, iI_max, iI_min, iI_abs, ib_iI, aI_get, aI_upd, iB_eq0, iB_eqi0, iB_eqi1, iB_t, iB_f, iB_ok, okB_0, okB_1, nar0, nar1, o2, o4, o6, o20, o36, o140, Option.bind_some, if_true, if_false, if_pos, if_neg, Int.reduceAdd, Int.reduceSub, Int.reduceMul, Int.reduceNeg, Int.zero_add, Int.add_zero, Bool.true_eq_false, e1, f1]
        · simp (disch := omega) only [iI_add, iI_sub, iI_mul, iI_lt, iI_le, iI_eq, iI_lt0, iI_0lt, iI_le0, iI_0le, iI_eq0, iI_div, iI_rem, iI_max, iI_min, iI_abs, ib_iI, aI_get, aI_upd, iB_eq0, iB_eqi0, iB_eqi1, iB_t, iB_f, iB_ok, okB_0, okB_1, nar0, nar1, o2, o4, o6, o20, o36, o140, Option.bind_some, if_true, if_false, if_pos, if_neg, Int.reduceAdd, Int.reduceSub, Int.reduceMul, Int.reduceNeg, Int.zero_add, Int.add_zero, Bool.true_eq_false, e1, f1]
  by_cases c6 : v = 6
  · subst c6
    by_cases cl : dL t = 0
    · obtain ⟨M2, f1, f2, f3⟩ := runOn_s (lev := 1) (n := 1) ht hM (Or.inr rfl) hW2 (by decide) (by decide)
      refine ⟨true, runD 1 t, M2, ?_, ?_, runD_ok ht (by decide), f3, fun _ => f2⟩
      · simp (disch := omega) only [iI_add, iI_sub, iI_mul, iI_lt, iI_le, iI_eq, iI_lt0, iI_0lt, iI_le0, iI_0le, iI_eq0, iI_div, iI_rem, iI_max, iI_min, iI_abs, ib_iI, aI_get, aI_upd, iB_eq0, iB_eqi0, iB_eqi1, iB_t, iB_f, iB_ok, okB_0, okB_1, nar0, nar1, o2, o4, o6, o20, o36, o140, Option.bind_some, if_true, if_false, if_pos, if_neg, Int.reduceAdd, Int.reduceSub, Int.reduceMul, Int.reduceNeg, Int.zero_add, Int.add_zero, runOff_s]
        rfl
      · simp (disch := omega) only [iI_add, iI_sub, iI_mul, iI_lt, iI_le, iI_eq, iI_lt0, iI_0lt, iI_le0, iI_0le, iI_eq0, iI_div, iI_rem, iI_max, iI_min, iI_abs, ib_iI, aI_get, aI_upd, iB_eq0, iB_eqi0, iB_eqi1, iB_t, iB_f, iB_ok, okB_0, okB_1, nar0, nar1, o2, o4, o6, o20, o36, o140, Option.bind_some, if_true, if_false, if_pos, if_neg, Int.reduceAdd, Int.reduceSub, Int.reduceMul, Int.reduceNeg, Int.zero_add, Int.add_zero, f1]
    · obtain ⟨M2, f1, f2, f3⟩ := runOn_s (lev := 1) (n := 0) ht hM (Or.inr rfl) hW2 (by decide) (by decide)
      refine ⟨false, t, M2, ?_, ?_, ht, f3, fun q => absurd q (by decide)⟩
      · simp (disch := omega) only [iI_add, iI_sub, iI_mul, iI_lt, iI_le, iI_eq, iI_lt0, iI_0lt, iI_le0, iI_0le, iI_eq0, iI_div, iI_rem, iI_max, iI_min, iI_abs, ib_iI, aI_get, aI_upd, iB_eq0, iB_eqi0, iB_eqi1, iB_t, iB_f, iB_ok, okB_0, okB_1, nar0, nar1, o2, o4, o6, o20, o36, o140, Option.bind_some, if_true, if_false, if_pos, if_neg, Int.reduceAdd, Int.reduceSub, Int.reduceMul, Int.reduceNeg, Int.zero_add, Int.add_zero]
      · simp (disch := omega) only [iI_add, iI_sub, iI_mul, iI_lt, iI_le, iI_eq, iI_lt0, iI_0lt, iI_le0, iI_0le, iI_eq0, iI_div, iI_rem, iI_max, iI_min, iI_abs, ib_iI, aI_get, aI_upd, iB_eq0, iB_eqi0, iB_eqi1, iB_t, iB_f, iB_ok, okB_0, okB_1, nar0, nar1, o2, o4, o6, o20, o36, o140, Option.bind_some, if_true, if_false, if_pos, if_neg, Int.reduceAdd, Int.reduceSub, Int.reduceMul, Int.reduceNeg, Int.zero_add, Int.add_zero, f1]
  by_cases c7 : v = 7
  · subst c7
    have e1 := canLead_s (lev := 1) ht hM (Or.inr rfl)
    have e0 : f0_canBeLed (iI (dY t)) (iI (dL t)) = some (iB (canLeadB t)) := canBeLed_s q4 q5 q9 q10
    cases hc : canLeadB t with
    | false =>
      rw [hc] at e1 e0
      refine ⟨false, t, M, ?_, ?_, ht, fun j _ => rfl, fun q => absurd q (by decide)⟩
      · simp (disch := omega) only [iI_add, iI_sub, iI_mul, iI_lt, iI_le, iI_eq, iI_lt0, iI_0lt, iI_le0, iI_0le, iI_eq0, iI_div, iI_rem, iI_max, iI_min, iI_abs, ib_iI, aI_get, aI_upd, iB_eq0, iB_eqi0, iB_eqi1, iB_t, iB_f, iB_ok, okB_0, okB_1, nar0, nar1, o2, o4, o6, o20, o36, o140, Option.bind_some, if_true, if_false, if_pos, if_neg, Int.reduceAdd, Int.reduceSub, Int.reduceMul, Int.reduceNeg, Int.zero_add, Int.add_zero, e0]
      · by_cases cl : dL t = 0
        · simp (disch := omega) only [iI_add, iI_sub, iI_mul, iI_lt, iI_le, iI_eq, iI_lt0, iI_0lt, iI_le0, iI_0le, iI_eq0, iI_div, iI_rem, iI_max, iI_min, iI_abs, ib_iI, aI_get, aI_upd, iB_eq0, iB_eqi0, iB_eqi1, iB_t, iB_f, iB_ok, okB_0, okB_1, nar0, nar1, o2, o4, o6, o20, o36, o140, Option.bind_some, if_true, if_false, if_pos, if_neg, Int.reduceAdd, Int.reduceSub, Int.reduceMul, Int.reduceNeg, Int.zero_add, Int.add_zero, e1]
        · simp (disch := omega) only [iI_add, iI_sub, iI_mul, iI_lt, iI_le, iI_eq, iI_lt0, iI_0lt, iI_le0, iI_0le, iI_eq0, iI_div, iI_rem, iI_max, iI_min, iI_abs, ib_iI, aI_get, aI_upd, iB_eq0, iB_eqi0, iB_eqi1, iB_t, iB_f, iB_ok, okB_0, okB_1, nar0, nar1, o2, o4, o6, o20, o36, o140, Option.bind_some, if_true, if_false, if_pos, if_neg, Int.reduceAdd, Int.reduceSub, Int.reduceMul, Int.reduceNeg, Int.zero_add, Int.add_zero, e1]
    | true =>
      obtain ⟨M2, f1, f2, f3⟩ := leadOn_s (lev := 1) hG ht hM (Or.inr rfl)
      have ekeep : dC (leadD K t) = dC t ∧ dY (leadD K t) = dY t ∧ dK (leadD K t) = dK t ∧ dH (leadD K t) = dH t := by
        unfold leadD
        split <;> exact ⟨rfl, rfl, rfl, rfl⟩
      have el := leash_s hG ht
      rw [hc] at e1 e0
      refine ⟨true, leadD K t, M2, ?_, ?_, leadD_ok ht, f3, fun _ => f2⟩
      · rw [ekeep.1, ekeep.2.1, ekeep.2.2.1, ekeep.2.2.2]
        simp (disch := omega) only [iI_add, iI_sub, iI_mul, iI_lt, iI_le, iI_eq, iI_lt0, iI_0lt, iI_le0, iI_0le, iI_eq0, iI_div, iI_rem, iI_max, iI_min, iI_abs, ib_iI, aI_get, aI_upd, iB_eq0, iB_eqi0, iB_eqi1, iB_t, iB_f, iB_ok, okB_0, okB_1, nar0, nar1, o2, o4, o6, o20, o36, o140, Option.bind_some, if_true, if_false, if_pos, if_neg, Int.reduceAdd, Int.reduceSub, Int.reduceMul, Int.reduceNeg, Int.zero_add, Int.add_zero, Bool.true_eq_false, e0, el]
      · by_cases cl : dL t = 0
        · simp (disch := omega) only [iI_add, iI_sub, iI_mul, iI_lt, iI_le, iI_eq, iI_lt0, iI_0lt, iI_le0, iI_0le, iI_eq0, iI_div, iI_rem, iI_max, iI_min, iI_abs, ib_iI, aI_get, aI_upd, iB_eq0, iB_eqi0, iB_eqi1, iB_t, iB_f, iB_ok, okB_0, okB_1, nar0, nar1, o2, o4, o6, o20, o36, o140, Option.bind_some, if_true, if_false, if_pos, if_neg, Int.reduceAdd, Int.reduceSub, Int.reduceMul, Int.reduceNeg, Int.zero_add, Int.add_zero, Bool.true_eq_false, e1, f1]
        · simp (disch := omega) only [iI_add, iI_sub, iI_mul, iI_lt, iI_le, iI_eq, iI_lt0, iI_0lt, iI_le0, iI_0le, iI_eq0, iI_div, iI_rem, iI_max, iI_min, iI_abs, ib_iI, aI_get, aI_upd, iB_eq0, iB_eqi0, iB_eqi1, iB_t, iB_f, iB_ok, okB_0, okB_1, nar0, nar1, o2, o4, o6, o20, o36, o140, Option.bind_some, if_true, if_false, if_pos, if_neg, Int.reduceAdd, Int.reduceSub, Int.reduceMul, Int.reduceNeg, Int.zero_add, Int.add_zero, Bool.true_eq_false, e1, f1]
  by_cases c8 : v = 8
  · subst c8
    refine ⟨true, hungD t, uz M 17 (1 - dH t), ?_, ?_, hungD_ok ht, fun j hj => uz_ne (by omega), fun _ => ⟨fun w w1 w2 => ?_, ?_, ?_, ?_, ?_, ?_, ?_⟩⟩
    · show _ = some (iB true, aI (dS t), iI (dC t), iI (dY t), iI (dO t), iI (dK t), iI (1 - dH t), iI (dL t))
      by_cases ch : dH t = 0
      · rw [ch]
        simp (disch := omega) only [iI_add, iI_sub, iI_mul, iI_lt, iI_le, iI_eq, iI_lt0, iI_0lt, iI_le0, iI_0le, iI_eq0, iI_div, iI_rem, iI_max, iI_min, iI_abs, ib_iI, aI_get, aI_upd, iB_eq0, iB_eqi0, iB_eqi1, iB_t, iB_f, iB_ok, okB_0, okB_1, nar0, nar1, o2, o4, o6, o20, o36, o140, Option.bind_some, if_true, if_false, if_pos, if_neg, Int.reduceAdd, Int.reduceSub, Int.reduceMul, Int.reduceNeg, Int.zero_add, Int.add_zero]
      · rw [show dH t = 1 by omega]
        simp (disch := omega) only [iI_add, iI_sub, iI_mul, iI_lt, iI_le, iI_eq, iI_lt0, iI_0lt, iI_le0, iI_0le, iI_eq0, iI_div, iI_rem, iI_max, iI_min, iI_abs, ib_iI, aI_get, aI_upd, iB_eq0, iB_eqi0, iB_eqi1, iB_t, iB_f, iB_ok, okB_0, okB_1, nar0, nar1, o2, o4, o6, o20, o36, o140, Option.bind_some, if_true, if_false, if_pos, if_neg, Int.reduceAdd, Int.reduceSub, Int.reduceMul, Int.reduceNeg, Int.zero_add, Int.add_zero]
    · by_cases cl : dL t = 0
      · simp (disch := omega) only [iI_add, iI_sub, iI_mul, iI_lt, iI_le, iI_eq, iI_lt0, iI_0lt, iI_le0, iI_0le, iI_eq0, iI_div, iI_rem, iI_max, iI_min, iI_abs, ib_iI, aI_get, aI_upd, iB_eq0, iB_eqi0, iB_eqi1, iB_t, iB_f, iB_ok, okB_0, okB_1, nar0, nar1, o2, o4, o6, o20, o36, o140, Option.bind_some, if_true, if_false, if_pos, if_neg, Int.reduceAdd, Int.reduceSub, Int.reduceMul, Int.reduceNeg, Int.zero_add, Int.add_zero]
      · simp (disch := omega) only [iI_add, iI_sub, iI_mul, iI_lt, iI_le, iI_eq, iI_lt0, iI_0lt, iI_le0, iI_0le, iI_eq0, iI_div, iI_rem, iI_max, iI_min, iI_abs, ib_iI, aI_get, aI_upd, iB_eq0, iB_eqi0, iB_eqi1, iB_t, iB_f, iB_ok, okB_0, okB_1, nar0, nar1, o2, o4, o6, o20, o36, o140, Option.bind_some, if_true, if_false, if_pos, if_neg, Int.reduceAdd, Int.reduceSub, Int.reduceMul, Int.reduceNeg, Int.zero_add, Int.add_zero]
    · rw [uz_ne (by omega)]; exact r1 w w1 w2
    · rw [uz_ne (by omega)]; exact r2
    · rw [uz_ne (by omega)]; exact r3
    · rw [uz_ne (by omega)]; exact r4
    · rw [uz_eq (by omega)]; rfl
    · rw [uz_ne (by omega)]; exact r6
    · rw [uz_ne (by omega)]; exact r7
  by_cases c9 : v = 9
  · subst c9
    refine ⟨false, t, M, ?_, ?_, ht, fun j _ => rfl, fun q => absurd q (by decide)⟩
    · simp (disch := omega) only [iI_add, iI_sub, iI_mul, iI_lt, iI_le, iI_eq, iI_lt0, iI_0lt, iI_le0, iI_0le, iI_eq0, iI_div, iI_rem, iI_max, iI_min, iI_abs, ib_iI, aI_get, aI_upd, iB_eq0, iB_eqi0, iB_eqi1, iB_t, iB_f, iB_ok, okB_0, okB_1, nar0, nar1, o2, o4, o6, o20, o36, o140, Option.bind_some, if_true, if_false, if_pos, if_neg, Int.reduceAdd, Int.reduceSub, Int.reduceMul, Int.reduceNeg, Int.zero_add, Int.add_zero]
    · by_cases cl : dL t = 0
      · simp (disch := omega) only [iI_add, iI_sub, iI_mul, iI_lt, iI_le, iI_eq, iI_lt0, iI_0lt, iI_le0, iI_0le, iI_eq0, iI_div, iI_rem, iI_max, iI_min, iI_abs, ib_iI, aI_get, aI_upd, iB_eq0, iB_eqi0, iB_eqi1, iB_t, iB_f, iB_ok, okB_0, okB_1, nar0, nar1, o2, o4, o6, o20, o36, o140, Option.bind_some, if_true, if_false, if_pos, if_neg, Int.reduceAdd, Int.reduceSub, Int.reduceMul, Int.reduceNeg, Int.zero_add, Int.add_zero]
      · simp (disch := omega) only [iI_add, iI_sub, iI_mul, iI_lt, iI_le, iI_eq, iI_lt0, iI_0lt, iI_le0, iI_0le, iI_eq0, iI_div, iI_rem, iI_max, iI_min, iI_abs, ib_iI, aI_get, aI_upd, iB_eq0, iB_eqi0, iB_eqi1, iB_t, iB_f, iB_ok, okB_0, okB_1, nar0, nar1, o2, o4, o6, o20, o36, o140, Option.bind_some, if_true, if_false, if_pos, if_neg, Int.reduceAdd, Int.reduceSub, Int.reduceMul, Int.reduceNeg, Int.zero_add, Int.add_zero]
  have e1 := hasWord_s (w := v - 1) (W := W) (by omega) (by omega) hW hW2
  have e2 := isWord_s (w := v - 1) (W := W) (by omega) (by omega) hW hW2
  by_cases cl : dL t = 0
  · by_cases cw : 0 ≤ v - 1 ∧ v - 1 < W
    · obtain ⟨M2, f1, f2, f3⟩ := callOn_s (M := M) (lev := 1) hG ht hM (Or.inr rfl) h71 h72 cw.1 cw.2
      have ec := callHim_s hG ht cw.1 cw.2
      have ek := callD_keep K P U T (v - 1) t
      rw [decide_eq_true cw] at e1 e2
      cases hb : callB K P U T (v - 1) t with
      | true =>
        rw [hb] at f1 ec
        refine ⟨true, callD K P U T (v - 1) t, M2, ?_, ?_, callD_ok ht cw.1 cw.2, f3, fun _ => f2⟩
        · rw [ek.1, ek.2.1, ek.2.2]
          simp (disch := omega) only [iI_add, iI_sub, iI_mul, iI_lt, iI_le, iI_eq, iI_lt0, iI_0lt, iI_le0, iI_0le, iI_eq0, iI_div, iI_rem, iI_max, iI_min, iI_abs, ib_iI, aI_get, aI_upd, iB_eq0, iB_eqi0, iB_eqi1, iB_t, iB_f, iB_ok, okB_0, okB_1, nar0, nar1, o2, o4, o6, o20, o36, o140, Option.bind_some, if_true, if_false, if_pos, if_neg, Int.reduceAdd, Int.reduceSub, Int.reduceMul, Int.reduceNeg, Int.zero_add, Int.add_zero, Bool.true_eq_false, e1, ec]
        · simp (disch := omega) only [iI_add, iI_sub, iI_mul, iI_lt, iI_le, iI_eq, iI_lt0, iI_0lt, iI_le0, iI_0le, iI_eq0, iI_div, iI_rem, iI_max, iI_min, iI_abs, ib_iI, aI_get, aI_upd, iB_eq0, iB_eqi0, iB_eqi1, iB_t, iB_f, iB_ok, okB_0, okB_1, nar0, nar1, o2, o4, o6, o20, o36, o140, Option.bind_some, if_true, if_false, if_pos, if_neg, Int.reduceAdd, Int.reduceSub, Int.reduceMul, Int.reduceNeg, Int.zero_add, Int.add_zero, Bool.true_eq_false, e2, f1]
      | false =>
        rw [hb] at f1 ec
        refine ⟨false, callD K P U T (v - 1) t, M2, ?_, ?_, callD_ok ht cw.1 cw.2, f3, fun q => absurd q (by decide)⟩
        · rw [ek.1, ek.2.1, ek.2.2]
          simp (disch := omega) only [iI_add, iI_sub, iI_mul, iI_lt, iI_le, iI_eq, iI_lt0, iI_0lt, iI_le0, iI_0le, iI_eq0, iI_div, iI_rem, iI_max, iI_min, iI_abs, ib_iI, aI_get, aI_upd, iB_eq0, iB_eqi0, iB_eqi1, iB_t, iB_f, iB_ok, okB_0, okB_1, nar0, nar1, o2, o4, o6, o20, o36, o140, Option.bind_some, if_true, if_false, if_pos, if_neg, Int.reduceAdd, Int.reduceSub, Int.reduceMul, Int.reduceNeg, Int.zero_add, Int.add_zero, Bool.true_eq_false, e1, ec]
        · simp (disch := omega) only [iI_add, iI_sub, iI_mul, iI_lt, iI_le, iI_eq, iI_lt0, iI_0lt, iI_le0, iI_0le, iI_eq0, iI_div, iI_rem, iI_max, iI_min, iI_abs, ib_iI, aI_get, aI_upd, iB_eq0, iB_eqi0, iB_eqi1, iB_t, iB_f, iB_ok, okB_0, okB_1, nar0, nar1, o2, o4, o6, o20, o36, o140, Option.bind_some, if_true, if_false, if_pos, if_neg, Int.reduceAdd, Int.reduceSub, Int.reduceMul, Int.reduceNeg, Int.zero_add, Int.add_zero, Bool.true_eq_false, e2, f1]
    · rw [decide_eq_false cw] at e1 e2
      refine ⟨false, t, M, ?_, ?_, ht, fun j _ => rfl, fun q => absurd q (by decide)⟩
      · simp (disch := omega) only [iI_add, iI_sub, iI_mul, iI_lt, iI_le, iI_eq, iI_lt0, iI_0lt, iI_le0, iI_0le, iI_eq0, iI_div, iI_rem, iI_max, iI_min, iI_abs, ib_iI, aI_get, aI_upd, iB_eq0, iB_eqi0, iB_eqi1, iB_t, iB_f, iB_ok, okB_0, okB_1, nar0, nar1, o2, o4, o6, o20, o36, o140, Option.bind_some, if_true, if_false, if_pos, if_neg, Int.reduceAdd, Int.reduceSub, Int.reduceMul, Int.reduceNeg, Int.zero_add, Int.add_zero, e1]
      · simp (disch := omega) only [iI_add, iI_sub, iI_mul, iI_lt, iI_le, iI_eq, iI_lt0, iI_0lt, iI_le0, iI_0le, iI_eq0, iI_div, iI_rem, iI_max, iI_min, iI_abs, ib_iI, aI_get, aI_upd, iB_eq0, iB_eqi0, iB_eqi1, iB_t, iB_f, iB_ok, okB_0, okB_1, nar0, nar1, o2, o4, o6, o20, o36, o140, Option.bind_some, if_true, if_false, if_pos, if_neg, Int.reduceAdd, Int.reduceSub, Int.reduceMul, Int.reduceNeg, Int.zero_add, Int.add_zero, e2]
  · refine ⟨false, t, M, ?_, ?_, ht, fun j _ => rfl, fun q => absurd q (by decide)⟩
    · simp (disch := omega) only [iI_add, iI_sub, iI_mul, iI_lt, iI_le, iI_eq, iI_lt0, iI_0lt, iI_le0, iI_0le, iI_eq0, iI_div, iI_rem, iI_max, iI_min, iI_abs, ib_iI, aI_get, aI_upd, iB_eq0, iB_eqi0, iB_eqi1, iB_t, iB_f, iB_ok, okB_0, okB_1, nar0, nar1, o2, o4, o6, o20, o36, o140, Option.bind_some, if_true, if_false, if_pos, if_neg, Int.reduceAdd, Int.reduceSub, Int.reduceMul, Int.reduceNeg, Int.zero_add, Int.add_zero]
    · by_cases cw : 0 ≤ v - 1 ∧ v - 1 < W
      · rw [decide_eq_true cw] at e2
        simp (disch := omega) only [iI_add, iI_sub, iI_mul, iI_lt, iI_le, iI_eq, iI_lt0, iI_0lt, iI_le0, iI_0le, iI_eq0, iI_div, iI_rem, iI_max, iI_min, iI_abs, ib_iI, aI_get, aI_upd, iB_eq0, iB_eqi0, iB_eqi1, iB_t, iB_f, iB_ok, okB_0, okB_1, nar0, nar1, o2, o4, o6, o20, o36, o140, Option.bind_some, if_true, if_false, if_pos, if_neg, Int.reduceAdd, Int.reduceSub, Int.reduceMul, Int.reduceNeg, Int.zero_add, Int.add_zero, Bool.true_eq_false, e2]
      · rw [decide_eq_false cw] at e2
        simp (disch := omega) only [iI_add, iI_sub, iI_mul, iI_lt, iI_le, iI_eq, iI_lt0, iI_0lt, iI_le0, iI_0le, iI_eq0, iI_div, iI_rem, iI_max, iI_min, iI_abs, ib_iI, aI_get, aI_upd, iB_eq0, iB_eqi0, iB_eqi1, iB_t, iB_f, iB_ok, okB_0, okB_1, nar0, nar1, o2, o4, o6, o20, o36, o140, Option.bind_some, if_true, if_false, if_pos, if_neg, Int.reduceAdd, Int.reduceSub, Int.reduceMul, Int.reduceNeg, Int.zero_add, Int.add_zero, e2]
theorem L_judge {K P U : Int → Int} {W T : Int} {n f : Nat} (hG : GOK K P U W T) (hn : n ≤ 6) (hf : f ≤ 1000000) : ∀ (c p N1 N2 : Nat) (t : DZ) (M : Int → Int), p + c = n → c < N1 → c < N2 → DOK W t → MR W M 10 t → 0 ≤ M 7 → M 7 ≤ 1 → ∃ (r : Int32) (t2 : DZ) (M2 : Int → Int), l5_judge_42 (fun v3 tst tch tya tow tca thu tle => some ((iI (-9)), tst, tch, tya, tow, tca, thu, tle)) (iI (n : Int)) (iI (f : Int)) (aI K) (aI P) (aI U) (iI W) (iI T) N1 (iI (p : Int)) (aI (dS t)) (iI (dC t)) (iI (dY t)) (iI (dO t)) (iI (dK t)) (iI (dH t)) (iI (dL t)) = some (r, aI (dS t2), iI (dC t2), iI (dY t2), iI (dO t2), iI (dK t2), iI (dH t2), iI (dL t2)) ∧ l6_judge_37 (fun v3 mno => some ((iI (-9)), mno)) (iI (n : Int)) (iI (f : Int)) (iI W) (iI T) (aI K) (aI P) (aI U) N2 (iI (p : Int)) (aI M) = some (r, aI M2) ∧ MF M M2 10 := by
  intro c
  induction c with
  | zero =>
    intro p N1 N2 t M h1 h2 h3 ht hM h71 h72
    obtain ⟨N1, rfl⟩ : ∃ q, N1 = q + 1 := ⟨N1 - 1, by omega⟩
    obtain ⟨N2, rfl⟩ : ∃ q, N2 = q + 1 := ⟨N2 - 1, by omega⟩
    obtain rfl : p = n := by omega
    refine ⟨iI (-9), t, M, ?_, ?_, fun j _ => rfl⟩
    · rw [l5_judge_42]
      simp (disch := omega) only [iI_add, iI_sub, iI_mul, iI_lt, iI_le, iI_eq, iI_lt0, iI_0lt, iI_le0, iI_0le, iI_eq0, iI_div, iI_rem, iI_max, iI_min, iI_abs, ib_iI, aI_get, aI_upd, iB_eq0, iB_eqi0, iB_eqi1, iB_t, iB_f, iB_ok, okB_0, okB_1, nar0, nar1, o2, o4, o6, o20, o36, o140, Option.bind_some, if_true, if_false, if_pos, if_neg, Int.reduceAdd, Int.reduceSub, Int.reduceMul, Int.reduceNeg, Int.zero_add, Int.add_zero]
    · rw [l6_judge_37]
      simp (disch := omega) only [iI_add, iI_sub, iI_mul, iI_lt, iI_le, iI_eq, iI_lt0, iI_0lt, iI_le0, iI_0le, iI_eq0, iI_div, iI_rem, iI_max, iI_min, iI_abs, ib_iI, aI_get, aI_upd, iB_eq0, iB_eqi0, iB_eqi1, iB_t, iB_f, iB_ok, okB_0, okB_1, nar0, nar1, o2, o4, o6, o20, o36, o140, Option.bind_some, if_true, if_false, if_pos, if_neg, Int.reduceAdd, Int.reduceSub, Int.reduceMul, Int.reduceNeg, Int.zero_add, Int.add_zero]
  | succ c ih =>
    intro p N1 N2 t M h1 h2 h3 ht hM h71 h72
    obtain ⟨N1, rfl⟩ : ∃ q, N1 = q + 1 := ⟨N1 - 1, by omega⟩
    obtain ⟨N2, rfl⟩ : ∃ q, N2 = q + 1 := ⟨N2 - 1, by omega⟩
    have hd9 := dg_b n f p
    have hb := p10_b (m := n - 1 - p) (by omega)
    have hp : ¬ (iI (n : Int) ≤ iI (p : Int)) := by rw [iI_le (by omega) (by omega) (by omega) (by omega)]; omega
    have hz : ¬ (iI ((10 ^ (n - 1 - p) : Nat) : Int) = 0) := by rw [iI_eq0 (by omega) (by omega)]; omega
    obtain ⟨b, t3, M3, w1, w2, w3, w4, w5⟩ := well_b (v := (dg n f p : Int)) hG ht hM h71 h72 (by omega) (by omega)
    rw [l5_judge_42, if_neg hp, figureOf_s hn (by omega) hf, Option.bind_some, w1, Option.bind_some, l6_judge_37, if_neg hp, mten_s hn (by omega), Option.bind_some, if_neg hz, mfig_s hn (by omega) hf, w2, Option.bind_some]
    cases hbb : b with
    | false =>
      refine ⟨iI (p : Int), t3, M3, ?_, ?_, w4⟩
      · simp (disch := omega) only [iI_add, iI_sub, iI_mul, iI_lt, iI_le, iI_eq, iI_lt0, iI_0lt, iI_le0, iI_0le, iI_eq0, iI_div, iI_rem, iI_max, iI_min, iI_abs, ib_iI, aI_get, aI_upd, iB_eq0, iB_eqi0, iB_eqi1, iB_t, iB_f, iB_ok, okB_0, okB_1, nar0, nar1, o2, o4, o6, o20, o36, o140, Option.bind_some, if_true, if_false, if_pos, if_neg, Int.reduceAdd, Int.reduceSub, Int.reduceMul, Int.reduceNeg, Int.zero_add, Int.add_zero]
      · simp (disch := omega) only [iI_add, iI_sub, iI_mul, iI_lt, iI_le, iI_eq, iI_lt0, iI_0lt, iI_le0, iI_0le, iI_eq0, iI_div, iI_rem, iI_max, iI_min, iI_abs, ib_iI, aI_get, aI_upd, iB_eq0, iB_eqi0, iB_eqi1, iB_t, iB_f, iB_ok, okB_0, okB_1, nar0, nar1, o2, o4, o6, o20, o36, o140, Option.bind_some, if_true, if_false, if_pos, if_neg, Int.reduceAdd, Int.reduceSub, Int.reduceMul, Int.reduceNeg, Int.zero_add, Int.add_zero]
    | true =>
      have e7 := w4 7 (by omega)
      obtain ⟨r, t4, M4, k1, k2, k3⟩ := ih (p + 1) N1 N2 t3 M3 (by omega) (by omega) (by omega) w3 (w5 hbb) (by omega) (by omega)
      rw [show ((p + 1 : Nat) : Int) = (p : Int) + 1 from rfl] at k1 k2
      refine ⟨r, t4, M4, ?_, ?_, fun j hj => by rw [k3 j hj, w4 j hj]⟩
      · simp only [iB_eq0, Bool.true_eq_false, if_false, iI_add]
        exact k1
      · simp only [iB_eq0, Bool.true_eq_false, if_false, iI_add]
        exact k2
theorem op_judge {K P U M : Int → Int} {W T : Int} {d : DZ} (h : CX K P U W T d M) (v1 v2 : Int32) (s1 : AZ) (c1 y1 o1 k1 h1 l1 : Int32) : ∃ (r : Int32) (s2 : AZ) (c2 y2 o2 k2 h2 l2 : Int32) (M2 : Int → Int), CX K P U W T d M2 ∧ f5_judge v1 v2 (aI K) (aI P) (aI U) (iI W) (iI T) (aI (dS d)) (iI (dC d)) (iI (dY d)) (iI (dO d)) (iI (dK d)) (iI (dH d)) (iI (dL d)) s1 c1 y1 o1 k1 h1 l1 = some (r, s2, c2, y2, o2, k2, h2, l2) ∧ f6_judge v1 v2 (iI W) (iI T) (aI K) (aI P) (aI U) (aI M) = some (r, aI M2) := by
  obtain ⟨a, a1, a2, rfl⟩ := iI_of v1
  obtain ⟨b, b1, b2, rfl⟩ := iI_of v2
  obtain ⟨t, rfl⟩ := aI_of s1
  obtain ⟨hG, hd, hM⟩ := id h
  obtain ⟨q1, q2, q3, q4, q5, q6, q7, q8, q9, q10⟩ := id hd
  have hW2 := hG.2.1
  unfold f5_judge f6_judge
  rw [lN1, lL6, in_s a1 a2 (by decide) (by decide) (by decide) (by decide)]
  by_cases ca : 1 ≤ a ∧ a ≤ 6
  · obtain ⟨n, rfl⟩ := Int.eq_ofNat_of_zero_le (show 0 ≤ a by omega)
    have hb10 := p10_b (m := n) (by omega)
    rw [decide_eq_true ca, ten5 (by omega), ten6 (by omega)]
    by_cases cb : 0 ≤ b ∧ b < ((10 ^ n : Nat) : Int)
    · obtain ⟨f, rfl⟩ := Int.eq_ofNat_of_zero_le cb.1
      have eH : okB (iI (dH d)) = true := by
        by_cases c : dH d = 0
        · rw [c]; decide
        · rw [show dH d = 1 by omega]; decide
      have eL : okB (iI (dL d)) = true := by
        by_cases c : dL d = 0
        · rw [c]; decide
        · rw [show dL d = 1 by omega]; decide
      have ht : DOK W (cp4 (dS d) t, dC d, dY d, dO d, dK d, dH d, dL d) := DOK_cp4 hd hW2 t
      have hL := MR_lay hM hW2 t
      have e7 : lay M 10 7 = dH d := by rw [lay_lo (by decide)]; exact hM.2.2.2.2.1
      obtain ⟨r, t2, M2, j1, j2, j3⟩ := L_judge (n := n) (f := f) hG (by omega) (by omega) n 0 FU FU (cp4 (dS d) t, dC d, dY d, dO d, dK d, dH d, dL d) (lay M 10) (by omega) (by unfold FU; omega) (by unfold FU; omega) ht hL (by omega) (by omega)
      refine ⟨r, aI (dS t2), iI (dC t2), iI (dY t2), iI (dO t2), iI (dK t2), iI (dH t2), iI (dL t2), M2, ⟨hG, hd, MR_move hW2 hM (fun i i1 i2 => by rw [j3 (0 + i) (by omega), lay_lo (by omega)])⟩, ?_, ?_⟩
      · rw [if_neg (by rw [iI_lt (by omega) (by omega) (by decide) (by decide)]; omega), if_pos (by rw [iI_le (by omega) (by omega) (by decide) (by decide)]; omega), if_neg (by rw [iI_lt0 (by omega) (by omega)]; omega), Option.bind_some, if_pos (by rw [iI_lt (by omega) (by omega) (by omega) (by omega)]; omega), copyFrom_s eH eL, Option.bind_some]
        exact j1
      · rw [Option.bind_some, if_neg (by decide), Option.bind_some, iI_sub, iI_long (by omega : -2147483648 ≤ ((10 ^ n : Nat) : Int) - 1) (by omega), lN0, in_s (by omega) (by omega) (by decide) (by decide) (by omega) (by omega), decide_eq_true (by omega), Option.bind_some, if_neg (by decide), layTrial_s, Option.bind_some]
        exact j2
    · refine ⟨iI (-2), aI t, c1, y1, o1, k1, h1, l1, M, h, ?_, ?_⟩
      · rw [if_neg (by rw [iI_lt (by omega) (by omega) (by decide) (by decide)]; omega), if_pos (by rw [iI_le (by omega) (by omega) (by decide) (by decide)]; omega)]
        by_cases c3 : b < 0
        · rw [if_pos (by rw [iI_lt0 (by omega) (by omega)]; exact c3)]
        · rw [if_neg (by rw [iI_lt0 (by omega) (by omega)]; exact c3), Option.bind_some, if_neg (by rw [iI_lt (by omega) (by omega) (by omega) (by omega)]; omega)]
      · rw [Option.bind_some, if_neg (by decide), Option.bind_some, iI_sub, iI_long (by omega : -2147483648 ≤ ((10 ^ n : Nat) : Int) - 1) (by omega), lN0, in_s (by omega) (by omega) (by decide) (by decide) (by omega) (by omega), decide_eq_false (by omega), Option.bind_some, if_pos (by decide)]
  · refine ⟨iI (-2), aI t, c1, y1, o1, k1, h1, l1, M, h, ?_, ?_⟩
    · by_cases c3 : a < 1
      · rw [if_pos (by rw [iI_lt (by omega) (by omega) (by decide) (by decide)]; exact c3)]
      · rw [if_neg (by rw [iI_lt (by omega) (by omega) (by decide) (by decide)]; exact c3), if_neg (by rw [iI_le (by omega) (by omega) (by decide) (by decide)]; omega)]
    · rw [decide_eq_false ca, Option.bind_some, if_pos (by decide)]
