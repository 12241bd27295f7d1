/-! rows of calls: only the last brings -/
def olB (K P U : Int → Int) (T : Int) (n f : Nat) : Nat → Nat → DZ → Bool
  | 0, _, _ => true
  | c + 1, p, t => if callB K P U T ((dg n f p : Int) - 1) t = decide (p + 1 = n) then olB K P U T n f c (p + 1) (callD K P U T ((dg n f p : Int) - 1) t) else false
def grB (K P U : Int → Int) (W T : Int) (n f : Nat) : Nat → Nat → DZ → Bool
  | 0, _, _ => true
  | c + 1, p, t => if 1 ≤ (dg n f p : Int) ∧ (dg n f p : Int) ≤ W then (if callB K P U T ((dg n f p : Int) - 1) t = decide (p + 1 = n) then grB K P U W T n f c (p + 1) (callD K P U T ((dg n f p : Int) - 1) t) else false) else false
theorem gr_ol {K P U : Int → Int} {W T : Int} {n f : Nat} : ∀ (c p : Nat) (t : DZ), p + c = n → grB K P U W T n f c p t = ((List.range' p c).all (fun q => decide (1 ≤ (dg n f q : Int) ∧ (dg n f q : Int) ≤ W)) && olB K P U T n f c p t) := by
  intro c
  induction c with
  | zero => intro p t _; rfl
  | succ c ih =>
    intro p t h
    rw [grB, olB, List.range'_succ, List.all_cons]
    by_cases c1 : 1 ≤ (dg n f p : Int) ∧ (dg n f p : Int) ≤ W
    · rw [if_pos c1, decide_eq_true c1, Bool.true_and]
      by_cases c2 : callB K P U T ((dg n f p : Int) - 1) t = decide (p + 1 = n)
      · rw [if_pos c2, if_pos c2]
        exact ih (p + 1) _ (by omega)
      · rw [if_neg c2, if_neg c2, Bool.and_false]
    · rw [if_neg c1, decide_eq_false c1, Bool.false_and, Bool.false_and]
theorem callD_keep (K P U : Int → Int) (T w : Int) (d : DZ) : dC (callD K P U T w d) = dC d ∧ dH (callD K P U T w d) = dH d ∧ dL (callD K P U T w d) = dL d := by
  unfold callD
  split <;> exact ⟨rfl, rfl, rfl⟩
abbrev KF5 : Type := Option (Int32 × AZ × Int32 × Int32 × Int32 × Int32 × Int32 × Int32)
theorem L_ol {K P U : Int → Int} {W T : Int} {n f : Nat} (hG : GOK K P U W T) (hn : n ≤ 6) (hf : f ≤ 1000000) (hv : ∀ q : Nat, q < n → 1 ≤ (dg n f q : Int) ∧ (dg n f q : Int) ≤ W) (k : Int32 → AZ → Int32 → Int32 → Int32 → KF5) (e1 e2 e3 : Int) : ∀ (c p N : Nat) (t : DZ), p + c = n → c < N → DOK W t → dC t = e1 → dH t = e2 → dL t = e3 → ∃ t2 : DZ, (olB K P U T n f c p t = true → l5_onlyLastBrings_13 k (iI (n : Int)) (iI (f : Int)) (aI K) (aI P) (aI U) (iI T) (iI e1) (iI e2) (iI e3) N (iI (p : Int)) (aI (dS t)) (iI (dY t)) (iI (dO t)) (iI (dK t)) = k (iI (n : Int)) (aI (dS t2)) (iI (dY t2)) (iI (dO t2)) (iI (dK t2))) ∧ (olB K P U T n f c p t = false → l5_onlyLastBrings_13 k (iI (n : Int)) (iI (f : Int)) (aI K) (aI P) (aI U) (iI T) (iI e1) (iI e2) (iI e3) N (iI (p : Int)) (aI (dS t)) (iI (dY t)) (iI (dO t)) (iI (dK t)) = some (iI 0, aI (dS t2), iI e1, iI (dY t2), iI (dO t2), iI (dK t2), iI e2, iI e3)) := by
  intro c
  induction c with
  | zero =>
    intro p N t h1 h2 ht g1 g2 g3
    obtain ⟨N, rfl⟩ : ∃ q, N = q + 1 := ⟨N - 1, by omega⟩
    obtain rfl : p = n := by omega
    refine ⟨t, fun _ => ?_, fun q => absurd q (by rw [olB]; decide)⟩
    rw [l5_onlyLastBrings_13]
    simp (disch := omega) only [iI_add, iI_sub, iI_mul, iI_lt, iI_le, iI_eq, iI_lt0, iI_0lt, iI_le0, iI_0le, iI_eq0, iI_div, iI_rem, iI_max, iI_min, iI_abs, ib_iI, aI_get, aI_upd, iB_eq0, iB_eqi0, iB_eqi1, iB_t, iB_f, iB_ok, okB_0, okB_1, nar0, nar1, o2, o4, o6, o20, o36, o140, Option.bind_some, if_true, if_false, if_pos, if_neg, Int.reduceAdd, Int.reduceSub, Int.reduceMul, Int.reduceNeg, Int.zero_add, Int.add_zero]
  | succ c ih =>
    intro p N t h1 h2 ht g1 g2 g3
    obtain ⟨N, rfl⟩ : ∃ q, N = q + 1 := ⟨N - 1, by omega⟩
    have hq := hv p (by omega)
    have hw1 : 0 ≤ (dg n f p : Int) - 1 := by omega
    have hw2 : (dg n f p : Int) - 1 < W := by omega
    have hkeep := callD_keep K P U T ((dg n f p : Int) - 1) t
    have ih2 := ih (p + 1) N (callD K P U T ((dg n f p : Int) - 1) t) (by omega) (by omega) (callD_ok ht hw1 hw2) (by rw [hkeep.1, g1]) (by rw [hkeep.2.1, g2]) (by rw [hkeep.2.2, g3])
    rw [show ((p + 1 : Nat) : Int) = (p : Int) + 1 from rfl] at ih2
    have ecall := callHim_s hG ht hw1 hw2
    rw [g2] at ecall
    have hp : ¬ (iI (n : Int) ≤ iI (p : Int)) := by rw [iI_le (by omega) (by omega) (by omega) (by omega)]; omega
    have eL : l5_onlyLastBrings_13 k (iI (n : Int)) (iI (f : Int)) (aI K) (aI P) (aI U) (iI T) (iI e1) (iI e2) (iI e3) (N + 1) (iI (p : Int)) (aI (dS t)) (iI (dY t)) (iI (dO t)) (iI (dK t)) = if callB K P U T ((dg n f p : Int) - 1) t = decide (p + 1 = n) then l5_onlyLastBrings_13 k (iI (n : Int)) (iI (f : Int)) (aI K) (aI P) (aI U) (iI T) (iI e1) (iI e2) (iI e3) N (iI ((p : Int) + 1)) (aI (dS (callD K P U T ((dg n f p : Int) - 1) t))) (iI (dY (callD K P U T ((dg n f p : Int) - 1) t))) (iI (dO (callD K P U T ((dg n f p : Int) - 1) t))) (iI (dK (callD K P U T ((dg n f p : Int) - 1) t))) else some (iI 0, aI (dS (callD K P U T ((dg n f p : Int) - 1) t)), iI e1, iI (dY (callD K P U T ((dg n f p : Int) - 1) t)), iI (dO (callD K P U T ((dg n f p : Int) - 1) t)), iI (dK (callD K P U T ((dg n f p : Int) - 1) t)), iI e2, iI e3) := by
      rw [l5_onlyLastBrings_13, if_neg hp, figureOf_s hn (by omega) hf, Option.bind_some, iI_sub, ecall, Option.bind_some, iI_sub]
      generalize callD K P U T ((dg n f p : Int) - 1) t = t3
      cases callB K P U T ((dg n f p : Int) - 1) t with
      | true =>
        by_cases cp : p + 1 = n
        · rw [decide_eq_true cp]
          simp (disch := omega) only [iI_add, iI_sub, iI_mul, iI_lt, iI_le, iI_eq, iI_lt0, iI_0lt, iI_le0, iI_0le, iI_eq0, iI_div, iI_rem, iI_max, iI_min, iI_abs, ib_iI, aI_get, aI_upd, iB_eq0, iB_eqi0, iB_eqi1, iB_t, iB_f, iB_ok, okB_0, okB_1, nar0, nar1, o2, o4, o6, o20, o36, o140, Option.bind_some, if_true, if_false, if_pos, if_neg, Int.reduceAdd, Int.reduceSub, Int.reduceMul, Int.reduceNeg, Int.zero_add, Int.add_zero, Bool.true_eq_false, Bool.false_eq_true]
        · rw [decide_eq_false cp]
          simp (disch := omega) only [iI_add, iI_sub, iI_mul, iI_lt, iI_le, iI_eq, iI_lt0, iI_0lt, iI_le0, iI_0le, iI_eq0, iI_div, iI_rem, iI_max, iI_min, iI_abs, ib_iI, aI_get, aI_upd, iB_eq0, iB_eqi0, iB_eqi1, iB_t, iB_f, iB_ok, okB_0, okB_1, nar0, nar1, o2, o4, o6, o20, o36, o140, Option.bind_some, if_true, if_false, if_pos, if_neg, Int.reduceAdd, Int.reduceSub, Int.reduceMul, Int.reduceNeg, Int.zero_add, Int.add_zero, Bool.true_eq_false, Bool.false_eq_true]
      | false =>
        by_cases cp : p + 1 = n
        · rw [decide_eq_true cp]
          simp (disch := omega) only [iI_add, iI_sub, iI_mul, iI_lt, iI_le, iI_eq, iI_lt0, iI_0lt, iI_le0, iI_0le, iI_eq0, iI_div, iI_rem, iI_max, iI_min, iI_abs, ib_iI, aI_get, aI_upd, iB_eq0, iB_eqi0, iB_eqi1, iB_t, iB_f, iB_ok, okB_0, okB_1, nar0, nar1, o2, o4, o6, o20, o36, o140, Option.bind_some, if_true, if_false, if_pos, if_neg, Int.reduceAdd, Int.reduceSub, Int.reduceMul, Int.reduceNeg, Int.zero_add, Int.add_zero, Bool.true_eq_false, Bool.false_eq_true]
        · rw [decide_eq_false cp]
          simp (disch := omega) only [iI_add, iI_sub, iI_mul, iI_lt, iI_le, iI_eq, iI_lt0, iI_0lt, iI_le0, iI_0le, iI_eq0, iI_div, iI_rem, iI_max, iI_min, iI_abs, ib_iI, aI_get, aI_upd, iB_eq0, iB_eqi0, iB_eqi1, iB_t, iB_f, iB_ok, okB_0, okB_1, nar0, nar1, o2, o4, o6, o20, o36, o140, Option.bind_some, if_true, if_false, if_pos, if_neg, Int.reduceAdd, Int.reduceSub, Int.reduceMul, Int.reduceNeg, Int.zero_add, Int.add_zero, Bool.true_eq_false, Bool.false_eq_true]
    rw [eL, olB]
    by_cases c2 : callB K P U T ((dg n f p : Int) - 1) t = decide (p + 1 = n)
    · rw [if_pos c2, if_pos c2]
      exact ih2
    · rw [if_neg c2, if_neg c2]
      exact ⟨callD K P U T ((dg n f p : Int) - 1) t, fun q => absurd q (by decide), fun _ => rfl⟩
theorem L_gr {K P U : Int → Int} {W T : Int} {n f : Nat} (hG : GOK K P U W T) (hn : n ≤ 6) (hf : f ≤ 1000000) (k : Int32 → AZ → Option (Int32 × AZ)) (hh : Int) (hh1 : 0 ≤ hh) (hh2 : hh ≤ 1) : ∀ (c p N : Nat) (t : DZ) (M : Int → Int), p + c = n → c < N → DOK W t → MR W M 10 t → M 7 = hh → ∃ M2 : Int → Int, MF M M2 10 ∧ (grB K P U W T n f c p t = true → l6_isRow_6 k (iI (n : Int)) (iI (f : Int)) (iI W) (iI T) (aI K) (aI P) (aI U) N (iI (p : Int)) (aI M) = k (iI (n : Int)) (aI M2)) ∧ (grB K P U W T n f c p t = false → l6_isRow_6 k (iI (n : Int)) (iI (f : Int)) (iI W) (iI T) (aI K) (aI P) (aI U) N (iI (p : Int)) (aI M) = some (iI 0, aI M2)) := by
  intro c
  induction c with
  | zero =>
    intro p N t M h1 h2 ht hM h7
    obtain ⟨N, rfl⟩ : ∃ q, N = q + 1 := ⟨N - 1, by omega⟩
    obtain rfl : p = n := by omega
    refine ⟨M, fun j _ => rfl, fun _ => ?_, fun q => absurd q (by rw [grB]; decide)⟩
    rw [l6_isRow_6]
    simp (disch := omega) only [iI_add, iI_sub, iI_mul, iI_lt, iI_le, iI_eq, iI_lt0, iI_0lt, iI_le0, iI_0le, iI_eq0, iI_div, iI_rem, iI_max, iI_min, iI_abs, ib_iI, aI_get, aI_upd, iB_eq0, iB_eqi0, iB_eqi1, iB_t, iB_f, iB_ok, okB_0, okB_1, nar0, nar1, o2, o4, o6, o20, o36, o140, Option.bind_some, if_true, if_false, if_pos, if_neg, Int.reduceAdd, Int.reduceSub, Int.reduceMul, Int.reduceNeg, Int.zero_add, Int.add_zero]
  | succ c ih =>
    intro p N t M h1 h2 ht hM h7
    obtain ⟨N, rfl⟩ : ∃ q, N = q + 1 := ⟨N - 1, by omega⟩
    have hd9 := dg_b n f p
    have hb := p10_b (m := n - 1 - p) (by omega)
    have hW := hG.1
    have hW2 := hG.2.1
    have hp : ¬ (iI (n : Int) ≤ iI (p : Int)) := by rw [iI_le (by omega) (by omega) (by omega) (by omega)]; omega
    have hz : ¬ (iI ((10 ^ (n - 1 - p) : Nat) : Int) = 0) := by rw [iI_eq0 (by omega) (by omega)]; omega
    by_cases c1 : 1 ≤ (dg n f p : Int) ∧ (dg n f p : Int) ≤ W
    · have hw1 : 0 ≤ (dg n f p : Int) - 1 := by omega
      have hw2 : (dg n f p : Int) - 1 < W := by omega
      obtain ⟨M3, e1, e2, e3⟩ := callOn_s (M := M) (lev := 1) hG ht hM (Or.inr rfl) (by rw [h7]; exact hh1) (by rw [h7]; exact hh2) hw1 hw2
      obtain ⟨M4, f1, f2, f3⟩ := ih (p + 1) N (callD K P U T ((dg n f p : Int) - 1) t) M3 (by omega) (by omega) (callD_ok ht hw1 hw2) e2 (by rw [e3 7 (by omega), h7])
      rw [show ((p + 1 : Nat) : Int) = (p : Int) + 1 from rfl] at f2 f3
      have eL : l6_isRow_6 k (iI (n : Int)) (iI (f : Int)) (iI W) (iI T) (aI K) (aI P) (aI U) (N + 1) (iI (p : Int)) (aI M) = if callB K P U T ((dg n f p : Int) - 1) t = decide (p + 1 = n) then l6_isRow_6 k (iI (n : Int)) (iI (f : Int)) (iI W) (iI T) (aI K) (aI P) (aI U) N (iI ((p : Int) + 1)) (aI M3) else some (iI 0, aI M3) := by
        rw [l6_isRow_6, if_neg hp, mten_s hn (by omega), Option.bind_some, if_neg hz, mfig_s hn (by omega) hf, iI_sub, isWord_s (by omega) (by omega) hW hW2, decide_eq_true ⟨hw1, hw2⟩, Option.bind_some, e1, Option.bind_some, iI_sub]
        cases callB K P U T ((dg n f p : Int) - 1) t with
        | true =>
          by_cases cp : p + 1 = n
          · rw [decide_eq_true cp]
            simp (disch := omega) only [iI_add, iI_sub, iI_mul, iI_lt, iI_le, iI_eq, iI_lt0, iI_0lt, iI_le0, iI_0le, iI_eq0, iI_div, iI_rem, iI_max, iI_min, iI_abs, ib_iI, aI_get, aI_upd, iB_eq0, iB_eqi0, iB_eqi1, iB_t, iB_f, iB_ok, okB_0, okB_1, nar0, nar1, o2, o4, o6, o20, o36, o140, Option.bind_some, if_true, if_false, if_pos, if_neg, Int.reduceAdd, Int.reduceSub, Int.reduceMul, Int.reduceNeg, Int.zero_add, Int.add_zero, Bool.true_eq_false, Bool.false_eq_true]
          · rw [decide_eq_false cp]
            simp (disch := omega) only [iI_add, iI_sub, iI_mul, iI_lt, iI_le, iI_eq, iI_lt0, iI_0lt, iI_le0, iI_0le, iI_eq0, iI_div, iI_rem, iI_max, iI_min, iI_abs, ib_iI, aI_get, aI_upd, iB_eq0, iB_eqi0, iB_eqi1, iB_t, iB_f, iB_ok, okB_0, okB_1, nar0, nar1, o2, o4, o6, o20, o36, o140, Option.bind_some, if_true, if_false, if_pos, if_neg, Int.reduceAdd, Int.reduceSub, Int.reduceMul, Int.reduceNeg, Int.zero_add, Int.add_zero, Bool.true_eq_false, Bool.false_eq_true]
        | false =>
          by_cases cp : p + 1 = n
          · rw [decide_eq_true cp]
            simp (disch := omega) only [iI_add, iI_sub, iI_mul, iI_lt, iI_le, iI_eq, iI_lt0, iI_0lt, iI_le0, iI_0le, iI_eq0, iI_div, iI_rem, iI_max, iI_min, iI_abs, ib_iI, aI_get, aI_upd, iB_eq0, iB_eqi0, iB_eqi1, iB_t, iB_f, iB_ok, okB_0, okB_1, nar0, nar1, o2, o4, o6, o20, o36, o140, Option.bind_some, if_true, if_false, if_pos, if_neg, Int.reduceAdd, Int.reduceSub, Int.reduceMul, Int.reduceNeg, Int.zero_add, Int.add_zero, Bool.true_eq_false, Bool.false_eq_true]
          · rw [decide_eq_false cp]
            simp (disch := omega) only [iI_add, iI_sub, iI_mul, iI_lt, iI_le, iI_eq, iI_lt0, iI_0lt, iI_le0, iI_0le, iI_eq0, iI_div, iI_rem, iI_max, iI_min, iI_abs, ib_iI, aI_get, aI_upd, iB_eq0, iB_eqi0, iB_eqi1, iB_t, iB_f, iB_ok, okB_0, okB_1, nar0, nar1, o2, o4, o6, o20, o36, o140, Option.bind_some, if_true, if_false, if_pos, if_neg, Int.reduceAdd, Int.reduceSub, Int.reduceMul, Int.reduceNeg, Int.zero_add, Int.add_zero, Bool.true_eq_false, Bool.false_eq_true]
      rw [eL, grB, if_pos c1]
      by_cases c2 : callB K P U T ((dg n f p : Int) - 1) t = decide (p + 1 = n)
      · rw [if_pos c2, if_pos c2]
        exact ⟨M4, fun j hj => by rw [f1 j hj, e3 j (by omega)], f2, f3⟩
      · rw [if_neg c2, if_neg c2]
        exact ⟨M3, fun j hj => e3 j (by omega), fun q => absurd q (by decide), fun _ => rfl⟩
    · rw [l6_isRow_6, if_neg hp, mten_s hn (by omega), Option.bind_some, if_neg hz, mfig_s hn (by omega) hf, iI_sub, isWord_s (by omega) (by omega) hW hW2, decide_eq_false (by omega), Option.bind_some, grB, if_neg c1]
      refine ⟨M, fun j _ => rfl, fun q => absurd q (by decide), fun _ => ?_⟩
      simp (disch := omega) only [iI_add, iI_sub, iI_mul, iI_lt, iI_le, iI_eq, iI_lt0, iI_0lt, iI_le0, iI_0le, iI_eq0, iI_div, iI_rem, iI_max, iI_min, iI_abs, ib_iI, aI_get, aI_upd, iB_eq0, iB_eqi0, iB_eqi1, iB_t, iB_f, iB_ok, okB_0, okB_1, nar0, nar1, o2, o4, o6, o20, o36, o140, Option.bind_some, if_true, if_false, if_pos, if_neg, Int.reduceAdd, Int.reduceSub, Int.reduceMul, Int.reduceNeg, Int.zero_add, Int.add_zero]
