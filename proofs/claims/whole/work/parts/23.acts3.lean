/-! run, lead, hunger, undo; wipe, seed, unsee, count -/
theorem op_run {K P U : Int → Int} {W T : Int} {d : DZ} {M A R : Int → Int} {a x : Int} (h : CX K P U W T d M) (ha : AR W A a R x) (v : Int32) : ∃ (r : Int32) (d2 : DZ) (M2 A2 R2 : Int → Int) (a2 x2 : Int), CX K P U W T d2 M2 ∧ AR W A2 a2 R2 x2 ∧ (dS d2 = dS d ∧ dC d2 = dC d ∧ dK d2 = dK d ∧ dH d2 = dH d ∧ dL d2 = dL d) ∧ f5_run v (aI (dS d)) (iI (dC d)) (iI (dY d)) (iI (dO d)) (iI (dK d)) (iI (dH d)) (iI (dL d)) (aI A) (iI a) = some (r, iI (dY d2), iI (dO d2), aI A2, iI a2) ∧ f6_run v (iI a) (iI x) (aI M) (aI R) = some (r, iI a2, iI x2, aI M2, aI R2) := by
  obtain ⟨n, h1, h2, rfl⟩ := iI_of v
  obtain ⟨hG, hd, hM⟩ := id h
  obtain ⟨q1, q2, q3, q4, q5, q6, q7, q8, q9, q10⟩ := id hd
  obtain ⟨r1, r2, r3, r4, r5, r6, r7⟩ := id hM
  have hW2 := hG.2.1
  have hM0 : MR W M (10 * 0) d := by rw [MR_10]; exact hM
  have g8 : aI M (iI 8).toNatClampNeg = iI (dL d) := by rw [aI_get (by decide) (by decide)]; exact congrArg iI r6
  unfold f5_run f6_run
  rw [lN1, lL9, in_s h1 h2 (by decide) (by decide) (by decide) (by decide)]
  by_cases c : 1 ≤ n ∧ n ≤ 9
  · rw [decide_eq_true c]
    by_cases cl : dL d = 0
    · obtain ⟨A2, R2, a2, x2, b1, b2, b3⟩ := rem_s h ha
      obtain ⟨M2, e1, e2, e3⟩ := runOn_s (n := n) hd hM0 (Or.inl rfl) hW2 (by omega) (by omega)
      rw [MR_10] at e2
      have g5 : aI M2 (iI 5).toNatClampNeg = iI (min 9 (dY d + n)) := by rw [aI_get (by decide) (by decide)]; exact congrArg iI e2.2.2.1
      refine ⟨iI (min 9 (dY d + n)), runD n d, M2, A2, R2, a2, x2, ⟨hG, runD_ok hd (by omega), e2⟩, b1, ⟨rfl, rfl, rfl, rfl, rfl⟩, ?_, ?_⟩
      · rw [b2, runOff_s q4 (by omega) (by omega) (by omega), cl]
        simp (disch := omega) only [iI_add, iI_sub, iI_mul, iI_lt, iI_le, iI_eq, iI_lt0, iI_0lt, iI_le0, iI_0le, iI_eq0, iI_div, iI_rem, iI_max, iI_min, iI_abs, ib_iI, aI_get, aI_upd, iB_eq0, iB_eqi0, iB_eqi1, iB_t, iB_f, iB_ok, okB_0, okB_1, nar0, nar1, o2, o4, o6, o20, o36, o140, Option.bind_some, if_true, if_false, if_pos, if_neg, Int.reduceAdd, Int.reduceSub, Int.reduceMul, Int.reduceNeg, Int.zero_add, Int.add_zero]
        rfl
      · rw [g8, b3, e1, cl]
        simp (disch := omega) only [g5, Option.bind_some, iB_eq0, iI_eq, Bool.true_eq_false, if_false, if_neg]
    · refine ⟨iI (-3), d, M, A, R, a, x, h, ha, ⟨rfl, rfl, rfl, rfl, rfl⟩, ?_, ?_⟩
      · simp (disch := omega) only [iI_add, iI_sub, iI_mul, iI_lt, iI_le, iI_eq, iI_lt0, iI_0lt, iI_le0, iI_0le, iI_eq0, iI_div, iI_rem, iI_max, iI_min, iI_abs, ib_iI, aI_get, aI_upd, iB_eq0, iB_eqi0, iB_eqi1, iB_t, iB_f, iB_ok, okB_0, okB_1, nar0, nar1, o2, o4, o6, o20, o36, o140, Option.bind_some, if_true, if_false, if_pos, if_neg, Int.reduceAdd, Int.reduceSub, Int.reduceMul, Int.reduceNeg, Int.zero_add, Int.add_zero]
      · rw [g8, show dL d = 1 by omega]
        simp (disch := omega) only [iI_add, iI_sub, iI_mul, iI_lt, iI_le, iI_eq, iI_lt0, iI_0lt, iI_le0, iI_0le, iI_eq0, iI_div, iI_rem, iI_max, iI_min, iI_abs, ib_iI, aI_get, aI_upd, iB_eq0, iB_eqi0, iB_eqi1, iB_t, iB_f, iB_ok, okB_0, okB_1, nar0, nar1, o2, o4, o6, o20, o36, o140, Option.bind_some, if_true, if_false, if_pos, if_neg, Int.reduceAdd, Int.reduceSub, Int.reduceMul, Int.reduceNeg, Int.zero_add, Int.add_zero]
  · rw [decide_eq_false c]
    refine ⟨iI (-2), d, M, A, R, a, x, h, ha, ⟨rfl, rfl, rfl, rfl, rfl⟩, ?_, ?_⟩
    · by_cases c2 : n < 1
      · simp (disch := omega) only [iI_add, iI_sub, iI_mul, iI_lt, iI_le, iI_eq, iI_lt0, iI_0lt, iI_le0, iI_0le, iI_eq0, iI_div, iI_rem, iI_max, iI_min, iI_abs, ib_iI, aI_get, aI_upd, iB_eq0, iB_eqi0, iB_eqi1, iB_t, iB_f, iB_ok, okB_0, okB_1, nar0, nar1, o2, o4, o6, o20, o36, o140, Option.bind_some, if_true, if_false, if_pos, if_neg, Int.reduceAdd, Int.reduceSub, Int.reduceMul, Int.reduceNeg, Int.zero_add, Int.add_zero]
      · simp (disch := omega) only [iI_add, iI_sub, iI_mul, iI_lt, iI_le, iI_eq, iI_lt0, iI_0lt, iI_le0, iI_0le, iI_eq0, iI_div, iI_rem, iI_max, iI_min, iI_abs, ib_iI, aI_get, aI_upd, iB_eq0, iB_eqi0, iB_eqi1, iB_t, iB_f, iB_ok, okB_0, okB_1, nar0, nar1, o2, o4, o6, o20, o36, o140, Option.bind_some, if_true, if_false, if_pos, if_neg, Int.reduceAdd, Int.reduceSub, Int.reduceMul, Int.reduceNeg, Int.zero_add, Int.add_zero]
    · simp (disch := omega) only [iI_add, iI_sub, iI_mul, iI_lt, iI_le, iI_eq, iI_lt0, iI_0lt, iI_le0, iI_0le, iI_eq0, iI_div, iI_rem, iI_max, iI_min, iI_abs, ib_iI, aI_get, aI_upd, iB_eq0, iB_eqi0, iB_eqi1, iB_t, iB_f, iB_ok, okB_0, okB_1, nar0, nar1, o2, o4, o6, o20, o36, o140, Option.bind_some, if_true, if_false, if_pos, if_neg, Int.reduceAdd, Int.reduceSub, Int.reduceMul, Int.reduceNeg, Int.zero_add, Int.add_zero]
theorem op_lead {K P U : Int → Int} {W T : Int} {d : DZ} {M A R : Int → Int} {a x : Int} (h : CX K P U W T d M) (ha : AR W A a R x) : ∃ (r : Int32) (d2 : DZ) (M2 A2 R2 : Int → Int) (a2 x2 : Int), CX K P U W T d2 M2 ∧ AR W A2 a2 R2 x2 ∧ (dC d2 = dC d ∧ dY d2 = dY d ∧ dK d2 = dK d ∧ dH d2 = dH d) ∧ f5_lead (aI K) (aI (dS d)) (iI (dC d)) (iI (dY d)) (iI (dO d)) (iI (dK d)) (iI (dH d)) (iI (dL d)) (aI A) (iI a) = some (r, aI (dS d2), iI (dO d2), iI (dL d2), aI A2, iI a2) ∧ f6_lead (iI a) (iI x) (aI K) (aI M) (aI R) = some (r, iI a2, iI x2, aI M2, aI R2) := by
  obtain ⟨hG, hd, hM⟩ := id h
  obtain ⟨q1, q2, q3, q4, q5, q6, q7, q8, q9, q10⟩ := id hd
  have hM0 : MR W M (10 * 0) d := by rw [MR_10]; exact hM
  unfold f5_lead f6_lead
  rw [canBeLed_s q4 q5 q9 q10, canLead_s hd hM0 (Or.inl rfl)]
  show ∃ (r : Int32) (d2 : DZ) (M2 A2 R2 : Int → Int) (a2 x2 : Int), CX K P U W T d2 M2 ∧ AR W A2 a2 R2 x2 ∧ (dC d2 = dC d ∧ dY d2 = dY d ∧ dK d2 = dK d ∧ dH d2 = dH d) ∧ (some (iB (canLeadB d))).bind _ = _ ∧ _
  cases hc : canLeadB d with
  | false =>
    refine ⟨iI (-3), d, M, A, R, a, x, h, ha, ⟨rfl, rfl, rfl, rfl⟩, ?_, ?_⟩
    · simp (disch := omega) only [iI_add, iI_sub, iI_mul, iI_lt, iI_le, iI_eq, iI_lt0, iI_0lt, iI_le0, iI_0le, iI_eq0, iI_div, iI_rem, iI_max, iI_min, iI_abs, ib_iI, aI_get, aI_upd, iB_eq0, iB_eqi0, iB_eqi1, iB_t, iB_f, iB_ok, okB_0, okB_1, nar0, nar1, o2, o4, o6, o20, o36, o140, Option.bind_some, if_true, if_false, if_pos, if_neg, Int.reduceAdd, Int.reduceSub, Int.reduceMul, Int.reduceNeg, Int.zero_add, Int.add_zero]
    · simp (disch := omega) only [iI_add, iI_sub, iI_mul, iI_lt, iI_le, iI_eq, iI_lt0, iI_0lt, iI_le0, iI_0le, iI_eq0, iI_div, iI_rem, iI_max, iI_min, iI_abs, ib_iI, aI_get, aI_upd, iB_eq0, iB_eqi0, iB_eqi1, iB_t, iB_f, iB_ok, okB_0, okB_1, nar0, nar1, o2, o4, o6, o20, o36, o140, Option.bind_some, if_true, if_false, if_pos, if_neg, Int.reduceAdd, Int.reduceSub, Int.reduceMul, Int.reduceNeg, Int.zero_add, Int.add_zero]
  | true =>
    obtain ⟨A2, R2, a2, x2, b1, b2, b3⟩ := rem_s h ha
    obtain ⟨M2, e1, e2, e3⟩ := leadOn_s hG hd hM0 (Or.inl rfl)
    rw [MR_10] at e2
    have hd2 : DOK W (leadD K d) := leadD_ok hd
    obtain ⟨p1, p2, p3, p4, p5, p6, p7, p8, p9, p10⟩ := id hd2
    have g8 : aI M2 (iI 8).toNatClampNeg = iI (dL (leadD K d)) := by rw [aI_get (by decide) (by decide)]; exact congrArg iI e2.2.2.2.2.2.1
    refine ⟨iI (dL (leadD K d)), leadD K d, M2, A2, R2, a2, x2, ⟨hG, hd2, e2⟩, b1, ?_, ?_, ?_⟩
    · unfold leadD
      split <;> exact ⟨rfl, rfl, rfl, rfl⟩
    · rw [b2, leash_s hG hd]
      simp (disch := omega) only [iB_eq0, Bool.true_eq_false, if_false, Option.bind_some, asNumber_z p9 p10]
    · rw [b3, e1]
      simp (disch := omega) only [iB_eq0, Bool.true_eq_false, if_false, Option.bind_some, g8]
theorem op_hunger {K P U : Int → Int} {W T : Int} {d : DZ} {M A R : Int → Int} {a x : Int} (h : CX K P U W T d M) (ha : AR W A a R x) : ∃ (r : Int32) (d2 : DZ) (M2 A2 R2 : Int → Int) (a2 x2 : Int), CX K P U W T d2 M2 ∧ AR W A2 a2 R2 x2 ∧ (dS d2 = dS d ∧ dC d2 = dC d ∧ dY d2 = dY d ∧ dO d2 = dO d ∧ dK d2 = dK d ∧ dL d2 = dL d) ∧ f5_hunger (aI (dS d)) (iI (dC d)) (iI (dY d)) (iI (dO d)) (iI (dK d)) (iI (dH d)) (iI (dL d)) (aI A) (iI a) = some (r, iI (dH d2), aI A2, iI a2) ∧ f6_hunger (iI a) (iI x) (aI M) (aI R) = some (r, iI a2, iI x2, aI M2, aI R2) := by
  obtain ⟨hG, hd, hM⟩ := id h
  obtain ⟨q1, q2, q3, q4, q5, q6, q7, q8, q9, q10⟩ := id hd
  obtain ⟨r1, r2, r3, r4, r5, r6, r7⟩ := id hM
  have hW2 := hG.2.1
  obtain ⟨A2, R2, a2, x2, b1, b2, b3⟩ := rem_s h ha
  have g7 : M 7 = dH d := r5
  unfold f5_hunger f6_hunger
  refine ⟨iI (1 - dH d), hungD d, uz M 7 (1 - dH d), A2, R2, a2, x2, ⟨hG, hungD_ok hd, ?_⟩, b1, ⟨rfl, rfl, rfl, rfl, rfl, rfl⟩, ?_, ?_⟩
  · refine ⟨fun w w1 w2 => ?_, ?_, ?_, ?_, ?_, ?_, ?_⟩
    · rw [uz_ne (by omega)]; exact r1 w w1 w2
    · rw [uz_ne (by omega)]; exact r2
    · rw [uz_ne (by omega)]; exact r3
    · rw [uz_ne (by omega)]; exact r4
    · rw [uz_eq (by omega)]; rfl
    · rw [uz_ne (by omega)]; exact r6
    · rw [uz_ne (by omega)]; exact r7
  · rw [b2]
    show _ = some (iI (1 - dH d), iI (1 - dH d), aI A2, iI a2)
    by_cases c : dH d = 0
    · rw [c]
      simp (disch := omega) only [iI_add, iI_sub, iI_mul, iI_lt, iI_le, iI_eq, iI_lt0, iI_0lt, iI_le0, iI_0le, iI_eq0, iI_div, iI_rem, iI_max, iI_min, iI_abs, ib_iI, aI_get, aI_upd, iB_eq0, iB_eqi0, iB_eqi1, iB_t, iB_f, iB_ok, okB_0, okB_1, nar0, nar1, o2, o4, o6, o20, o36, o140, Option.bind_some, if_true, if_false, if_pos, if_neg, Int.reduceAdd, Int.reduceSub, Int.reduceMul, Int.reduceNeg, Int.zero_add, Int.add_zero, asNumber_z]
    · rw [show dH d = 1 by omega]
      simp (disch := omega) only [iI_add, iI_sub, iI_mul, iI_lt, iI_le, iI_eq, iI_lt0, iI_0lt, iI_le0, iI_0le, iI_eq0, iI_div, iI_rem, iI_max, iI_min, iI_abs, ib_iI, aI_get, aI_upd, iB_eq0, iB_eqi0, iB_eqi1, iB_t, iB_f, iB_ok, okB_0, okB_1, nar0, nar1, o2, o4, o6, o20, o36, o140, Option.bind_some, if_true, if_false, if_pos, if_neg, Int.reduceAdd, Int.reduceSub, Int.reduceMul, Int.reduceNeg, Int.zero_add, Int.add_zero, asNumber_z]
  · rw [b3]
    simp (disch := omega) only [iI_add, iI_sub, iI_mul, iI_lt, iI_le, iI_eq, iI_lt0, iI_0lt, iI_le0, iI_0le, iI_eq0, iI_div, iI_rem, iI_max, iI_min, iI_abs, ib_iI, aI_get, aI_upd, iB_eq0, iB_eqi0, iB_eqi1, iB_t, iB_f, iB_ok, okB_0, okB_1, nar0, nar1, o2, o4, o6, o20, o36, o140, Option.bind_some, if_true, if_false, if_pos, if_neg, Int.reduceAdd, Int.reduceSub, Int.reduceMul, Int.reduceNeg, Int.zero_add, Int.add_zero, g7, uz_same]
theorem op_undo {K P U : Int → Int} {W T : Int} {d : DZ} {M A R : Int → Int} {a x : Int} (h : CX K P U W T d M) (ha : AR W A a R x) : ∃ (r : Int32) (d2 : DZ) (M2 : Int → Int) (a2 x2 : Int), CX K P U W T d2 M2 ∧ AR W A a2 R x2 ∧ f5_undo (aI (dS d)) (iI (dC d)) (iI (dY d)) (iI (dO d)) (iI (dK d)) (iI (dH d)) (iI (dL d)) (aI A) (iI a) = some (r, aI (dS d2), iI (dC d2), iI (dY d2), iI (dO d2), iI (dK d2), iI (dH d2), iI (dL d2), iI a2) ∧ f6_undo (iI a) (iI x) (aI M) (aI R) = some (r, iI a2, iI x2, aI M2) := by
  obtain ⟨hG, hd, hM⟩ := id h
  obtain ⟨a1, a2, x1, x2, hk⟩ := id ha
  have hW2 := hG.2.1
  unfold f5_undo f6_undo
  by_cases c : a = 0
  · subst c
    refine ⟨iI (-3), d, M, 0, x, h, ha, ?_, ?_⟩
    · simp (disch := omega) only [iI_add, iI_sub, iI_mul, iI_lt, iI_le, iI_eq, iI_lt0, iI_0lt, iI_le0, iI_0le, iI_eq0, iI_div, iI_rem, iI_max, iI_min, iI_abs, ib_iI, aI_get, aI_upd, iB_eq0, iB_eqi0, iB_eqi1, iB_t, iB_f, iB_ok, okB_0, okB_1, nar0, nar1, o2, o4, o6, o20, o36, o140, Option.bind_some, if_true, if_false, if_pos, if_neg, Int.reduceAdd, Int.reduceSub, Int.reduceMul, Int.reduceNeg, Int.zero_add, Int.add_zero]
    · simp (disch := omega) only [iI_add, iI_sub, iI_mul, iI_lt, iI_le, iI_eq, iI_lt0, iI_0lt, iI_le0, iI_0le, iI_eq0, iI_div, iI_rem, iI_max, iI_min, iI_abs, ib_iI, aI_get, aI_upd, iB_eq0, iB_eqi0, iB_eqi1, iB_t, iB_f, iB_ok, okB_0, okB_1, nar0, nar1, o2, o4, o6, o20, o36, o140, Option.bind_some, if_true, if_false, if_pos, if_neg, Int.reduceAdd, Int.reduceSub, Int.reduceMul, Int.reduceNeg, Int.zero_add, Int.add_zero]
  · obtain ⟨dk, g1, g2, g3⟩ := hk (a - 1) (by omega) (by omega)
    rw [show (x - a + (a - 1)) % 14 = (x + 13) % 14 by omega] at g3
    have y1 : 0 ≤ (x + 13) % 14 := by omega
    have y2 : (x + 13) % 14 < 14 := by omega
    have e : rowF M (fun j => R (10 * ((x + 13) % 14) + j)) 0 ((0 : Nat) : Int) = M := by
      funext j
      unfold rowF
      rw [if_neg (by omega)]
    have hL := fun k => L_undo R M y1 y2 k 10 0 FU (by omega) (by unfold FU; omega)
    rw [e] at hL
    refine ⟨iI (a - 1), (cp4 (fun w => A (10 * (a - 1) + w)) (dS d), dC dk, dY dk, dO dk, dK dk, dH dk, dL dk), rowF M (fun j => R (10 * ((x + 13) % 14) + j)) 0 10, a - 1, (x + 13) % 14, ⟨hG, ⟨?_, g1.2⟩, ?_⟩, ⟨by omega, by omega, y1, y2, ?_⟩, ?_, ?_⟩
    · intro w w1 w2
      show 0 ≤ cp4 (fun w => A (10 * (a - 1) + w)) (dS d) w ∧ cp4 (fun w => A (10 * (a - 1) + w)) (dS d) w ≤ 9
      rw [cp4_in w1 (by omega), g2.1 w w1 w2]
      exact g1.1 w w1 w2
    · have hr : ∀ i : Int, 0 ≤ i → i < 10 → rowF M (fun j => R (10 * ((x + 13) % 14) + j)) 0 10 (0 + i) = R (10 * ((x + 13) % 14) + i) := fun i i1 i2 => by
        rw [row_in i1 i2, Int.zero_add]
      have hm := MR_move (b2 := 0) hW2 g3 hr
      refine ⟨fun w w1 w2 => ?_, hm.2⟩
      rw [hm.1 w w1 w2]
      show _ = cp4 (fun w => A (10 * (a - 1) + w)) (dS d) w
      rw [cp4_in w1 (by omega), g2.1 w w1 w2]
    · intro k k1 k2
      obtain ⟨d3, f1, f2, f3⟩ := hk k k1 (by omega)
      rw [show (x - a + k) % 14 = ((x + 13) % 14 - (a - 1) + k) % 14 by omega] at f3
      exact ⟨d3, f1, f2, f3⟩
    · rw [iI_sub, if_pos (by rw [iI_le (by decide) (by decide) (by omega) (by omega)]; omega), take_s (by decide) (by omega) (by omega) g1 g2]
      rfl
    · rw [if_neg (by rw [iI_eq0 (by omega) (by omega)]; exact c), iI_sub, iI_add, iI_rem (by omega) (by omega) (by decide) (by decide), show (iI 0) = iI ((0 : Nat) : Int) from rfl, hL]
theorem op_count {K P U : Int → Int} {W T : Int} {d : DZ} {M : Int → Int} (h : CX K P U W T d M) (v n ss a : Int32) : Same (f5_count v n (iI W) (iI T) (iI (dC d)) (iI (dY d)) (iI (dO d)) (iI (dK d)) (iI (dH d)) (iI (dL d)) ss a) (f6_count v (iI W) (iI T) n a ss (aI M)) := by
  obtain ⟨hG, hd, hM⟩ := id h
  obtain ⟨q1, q2, q3, q4, q5, q6, q7, q8, q9, q10⟩ := id hd
  obtain ⟨r1, r2, r3, r4, r5, r6, r7⟩ := id hM
  rw [Int.zero_add] at r2 r3 r4 r5 r6 r7
  unfold f5_count f6_count
  rw [asNumber_z q7 q8, asNumber_z q9 q10]
  rw [aI_get (show (0 : Int) ≤ 4 by decide) (by decide), aI_get (show (0 : Int) ≤ 5 by decide) (by decide), aI_get (show (0 : Int) ≤ 6 by decide) (by decide), aI_get (show (0 : Int) ≤ 7 by decide) (by decide), aI_get (show (0 : Int) ≤ 8 by decide) (by decide), aI_get (show (0 : Int) ≤ 9 by decide) (by decide), r2, r3, r4, r5, r6, r7]
  by_cases c0 : v = iI 0
  · exact ⟨_, if_pos c0, if_pos c0⟩
  rw [if_neg c0, if_neg c0]
  by_cases c1 : v = iI 1
  · exact ⟨_, if_pos c1, if_pos c1⟩
  rw [if_neg c1, if_neg c1]
  by_cases c2 : v = iI 2
  · exact ⟨_, if_pos c2, if_pos c2⟩
  rw [if_neg c2, if_neg c2]
  by_cases c3 : v = iI 3
  · exact ⟨_, if_pos c3, if_pos c3⟩
  rw [if_neg c3, if_neg c3]
  by_cases c4 : v = iI 4
  · exact ⟨_, if_pos c4, if_pos c4⟩
  rw [if_neg c4, if_neg c4]
  by_cases c5 : v = iI 5
  · exact ⟨_, if_pos c5, if_pos c5⟩
  rw [if_neg c5, if_neg c5]
  by_cases c6 : v = iI 6
  · exact ⟨iI (dH d), if_pos c6, if_pos c6⟩
  rw [if_neg c6, if_neg c6]
  by_cases c7 : v = iI 7
  · exact ⟨iI (dL d), if_pos c7, if_pos c7⟩
  rw [if_neg c7, if_neg c7]
  by_cases c8 : v = iI 8
  · exact ⟨_, if_pos c8, if_pos c8⟩
  rw [if_neg c8]
  by_cases c9 : v = iI 9
  · exact ⟨_, if_pos c9, if_pos c9⟩
  rw [if_neg c9]
  by_cases c10 : v = iI 10
  · exact ⟨_, if_pos c10, if_pos c10⟩
  rw [if_neg c10]
  exact ⟨_, rfl, rfl⟩
