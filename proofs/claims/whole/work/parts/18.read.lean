/-! the reference reads THE TEXT -/
theorem fig_in {a b : Int} (ha1 : 0 ≤ a) (ha2 : a ≤ 9) (hb1 : 0 ≤ b) (hb2 : b ≤ 9) : f6_in (iI (-9)).toInt64 (iI a).toInt64 (iI b).toInt64 = some (iB false) := by
  rw [iI_long (show (-2147483648 : Int) ≤ a by omega) (by omega), iI_long (show (-2147483648 : Int) ≤ b by omega) (by omega), in_s (by decide) (by decide) (by omega) (by omega) (by omega) (by omega), decide_eq_false (by omega)]
theorem fig_ok {X : Int → Int} {n a b p : Int} (h : TOK X n) (ha1 : 0 ≤ a) (ha2 : a ≤ 9) (hb1 : 0 ≤ b) (hb2 : b ≤ 9) (hp1 : 0 ≤ p) (hp2 : p < n) (h1 : a ≤ X p - 48) (h2 : X p - 48 ≤ b) : f6_figure (iI a) (iI b) (iI n) (iI p) (iI (-9)) (aI X) = some (iI (X p - 48), iI (p + 1), iI (-9)) := by
  obtain ⟨t1, t2, t3⟩ := id h
  have hx := t3 p hp1 (by omega)
  unfold f6_figure
  rw [fig_in ha1 ha2 hb1 hb2, aI_get hp1 (by omega), iI_sub, iI_long (show (-2147483648 : Int) ≤ a by omega) (by omega), iI_long (show (-2147483648 : Int) ≤ b by omega) (by omega), in_s (by omega) (by omega) (by omega) (by omega) (by omega) (by omega), decide_eq_true ⟨h1, h2⟩]
  simp (disch := omega) only [iI_add, iI_sub, iI_mul, iI_lt, iI_le, iI_eq, iI_lt0, iI_0lt, iI_le0, iI_0le, iI_eq0, iI_div, iI_rem, iI_max, iI_min, iI_abs, ib_iI, aI_get, aI_upd, iB_eq0, iB_eqi0, iB_eqi1, iB_t, iB_f, iB_ok, okB_0, okB_1, nar0, nar1, o2, o4, o6, o20, o36, o140, Option.bind_some, if_true, if_false, if_pos, if_neg, Int.reduceAdd, Int.reduceSub, Int.reduceMul, Int.reduceNeg, Int.zero_add, Int.add_zero]
theorem fig_bad {X : Int → Int} {n a b p : Int} (h : TOK X n) (ha1 : 0 ≤ a) (ha2 : a ≤ 9) (hb1 : 0 ≤ b) (hb2 : b ≤ 9) (hp1 : 0 ≤ p) (hp2 : p ≤ 100) (h1 : n ≤ p ∨ ¬ (a ≤ X p - 48 ∧ X p - 48 ≤ b)) : f6_figure (iI a) (iI b) (iI n) (iI p) (iI (-9)) (aI X) = some (iI a, iI p, iI p) := by
  obtain ⟨t1, t2, t3⟩ := id h
  unfold f6_figure
  rw [fig_in ha1 ha2 hb1 hb2]
  by_cases c2 : n ≤ p
  · simp (disch := omega) only [iI_add, iI_sub, iI_mul, iI_lt, iI_le, iI_eq, iI_lt0, iI_0lt, iI_le0, iI_0le, iI_eq0, iI_div, iI_rem, iI_max, iI_min, iI_abs, ib_iI, aI_get, aI_upd, iB_eq0, iB_eqi0, iB_eqi1, iB_t, iB_f, iB_ok, okB_0, okB_1, nar0, nar1, o2, o4, o6, o20, o36, o140, Option.bind_some, if_true, if_false, if_pos, if_neg, Int.reduceAdd, Int.reduceSub, Int.reduceMul, Int.reduceNeg, Int.zero_add, Int.add_zero]
  · have hx := t3 p hp1 (by omega)
    have c3 : ¬ (a ≤ X p - 48 ∧ X p - 48 ≤ b) := by omega
    rw [aI_get hp1 (by omega), iI_sub, iI_long (show (-2147483648 : Int) ≤ a by omega) (by omega), iI_long (show (-2147483648 : Int) ≤ b by omega) (by omega), in_s (by omega) (by omega) (by omega) (by omega) (by omega) (by omega), decide_eq_false c3]
    simp (disch := omega) only [iI_add, iI_sub, iI_mul, iI_lt, iI_le, iI_eq, iI_lt0, iI_0lt, iI_le0, iI_0le, iI_eq0, iI_div, iI_rem, iI_max, iI_min, iI_abs, ib_iI, aI_get, aI_upd, iB_eq0, iB_eqi0, iB_eqi1, iB_t, iB_f, iB_ok, okB_0, okB_1, nar0, nar1, o2, o4, o6, o20, o36, o140, Option.bind_some, if_true, if_false, if_pos, if_neg, Int.reduceAdd, Int.reduceSub, Int.reduceMul, Int.reduceNeg, Int.zero_add, Int.add_zero]
theorem fig_f {X : Int → Int} {n a b p fa : Int} (ha1 : 0 ≤ a) (ha2 : a ≤ 9) (hb1 : 0 ≤ b) (hb2 : b ≤ 9) (hf1 : 0 ≤ fa) (hf2 : fa ≤ 100) : f6_figure (iI a) (iI b) (iI n) (iI p) (iI fa) (aI X) = some (iI a, iI p, iI fa) := by
  unfold f6_figure
  rw [fig_in ha1 ha2 hb1 hb2]
  simp (disch := omega) only [iI_add, iI_sub, iI_mul, iI_lt, iI_le, iI_eq, iI_lt0, iI_0lt, iI_le0, iI_0le, iI_eq0, iI_div, iI_rem, iI_max, iI_min, iI_abs, ib_iI, aI_get, aI_upd, iB_eq0, iB_eqi0, iB_eqi1, iB_t, iB_f, iB_ok, okB_0, okB_1, nar0, nar1, o2, o4, o6, o20, o36, o140, Option.bind_some, if_true, if_false, if_pos, if_neg, Int.reduceAdd, Int.reduceSub, Int.reduceMul, Int.reduceNeg, Int.zero_add, Int.add_zero]
/-- figures of the WORDS and of the THINGS, as they are told -/
def RWs (X : Int → Int) (R0 : Int → Int) : Nat → Int → Int
  | 0 => R0
  | i + 1 => if X (3 * (i : Int) + 3) = 87 then uz (uz (RWs X R0 i) (2 * cW X i) (X (3 * (i : Int) + 4) - 48)) (2 * cW X i + 1) (X (3 * (i : Int) + 5) - 48) else RWs X R0 i
def RTs (X : Int → Int) (R0 : Int → Int) : Nat → Int → Int
  | 0 => R0
  | i + 1 => if X (3 * (i : Int) + 3) = 87 then RTs X R0 i else uz (uz (RTs X R0 i) (2 * cT X i) (X (3 * (i : Int) + 4) - 48)) (2 * cT X i + 1) (X (3 * (i : Int) + 5) - 48)
/-- the loop's last turn: a fault is known -/
theorem rt_fault {X : Int → Int} {n fa : Int} (k : Int32 → Int32 → Int32 → Int32 → (Nat → Int32) → (Nat → Int32) → Option (Int32 × Int32 × Int32 × Int32 × Int32 × (Nat → Int32) × (Nat → Int32))) (N : Nat) (w t a : Int32) (rw_ rt_ : Nat → Int32) (h1 : 0 ≤ fa) (h2 : fa ≤ 100) : l6_readText_62 k (iI n) (aI X) (N + 1) w t a (iI fa) rw_ rt_ = k w t a (iI fa) rw_ rt_ := by
  rw [l6_readText_62]
  simp (disch := omega) only [iI_add, iI_sub, iI_mul, iI_lt, iI_le, iI_eq, iI_lt0, iI_0lt, iI_le0, iI_0le, iI_eq0, iI_div, iI_rem, iI_max, iI_min, iI_abs, ib_iI, aI_get, aI_upd, iB_eq0, iB_eqi0, iB_eqi1, iB_t, iB_f, iB_ok, okB_0, okB_1, nar0, nar1, o2, o4, o6, o20, o36, o140, Option.bind_some, if_true, if_false, if_pos, if_neg, Int.reduceAdd, Int.reduceSub, Int.reduceMul, Int.reduceNeg, Int.zero_add, Int.add_zero]
/-- what comes of the reading from the i-th part on -/
def RdQ (X : Int → Int) (n : Int) (R0 R1 : Int → Int) (v : Int) (k : Int32 → Int32 → Int32 → Int32 → (Nat → Int32) → (Nat → Int32) → Option (Int32 × Int32 × Int32 × Int32 × Int32 × (Nat → Int32) × (Nat → Int32))) (o : Option (Int32 × Int32 × Int32 × Int32 × Int32 × (Nat → Int32) × (Nat → Int32))) : Prop :=
  (v = -9 → ∃ e : Nat, n = 3 * (e : Int) + 3 ∧ o = k (iI (cW X e)) (iI (cT X e)) (iI n) (iI (-9)) (aI (RWs X R0 e)) (aI (RTs X R1 e))) ∧ (v ≠ -9 → ∃ (w t a : Int32) (r0 r1 : Nat → Int32), o = k w t a (iI v) r0 r1)
theorem RdQ_f {X : Int → Int} {n : Int} {R0 R1 : Int → Int} {v : Int} {k : Int32 → Int32 → Int32 → Int32 → (Nat → Int32) → (Nat → Int32) → Option (Int32 × Int32 × Int32 × Int32 × Int32 × (Nat → Int32) × (Nat → Int32))} {o : Option (Int32 × Int32 × Int32 × Int32 × Int32 × (Nat → Int32) × (Nat → Int32))} (hv : 0 ≤ v) (w t a : Int32) (r0 r1 : Nat → Int32) (h : o = k w t a (iI v) r0 r1) : RdQ X n R0 R1 v k o := ⟨fun q => by omega, fun _ => ⟨w, t, a, r0, r1, h⟩⟩
theorem L_rd {X : Int → Int} {n : Int} (h : TOK X n) (R0 R1 : Int → Int) (k : Int32 → Int32 → Int32 → Int32 → (Nat → Int32) → (Nat → Int32) → Option (Int32 × Int32 × Int32 × Int32 × Int32 × (Nat → Int32) × (Nat → Int32))) : ∀ (f i N : Nat), 3 * (i : Int) + 3 ≤ n → n ≤ 3 * (i : Int) + 3 * (f : Int) → 0 ≤ cW X i → cW X i ≤ 4 → 0 ≤ cT X i → cT X i ≤ 4 → f + 2 < N → RdQ X n R0 R1 (flN X n f i) k (l6_readText_62 k (iI n) (aI X) N (iI (cW X i)) (iI (cT X i)) (iI (3 * (i : Int) + 3)) (iI (-9)) (aI (RWs X R0 i)) (aI (RTs X R1 i))) := by
  obtain ⟨t1, t2, t3⟩ := id h
  intro f
  induction f with
  | zero =>
    intro i N h1 h2
    omega
  | succ f ih =>
    intro i N h1 h2 w1 w2 u1 u2 hN
    obtain ⟨N, rfl⟩ : ∃ q, N = q + 1 + 1 := ⟨N - 2, by omega⟩
    have ih2 := ih (i + 1) (N + 1)
    rw [flN]
    have e0 : 3 * (((i + 1 : Nat) : Int)) + 3 = 3 * (i : Int) + 6 := by omega
    rw [e0] at ih2
    by_cases c0 : n ≤ 3 * (i : Int) + 3
    · rw [if_pos c0]
      refine ⟨fun _ => ⟨i, by omega, ?_⟩, fun q => absurd rfl q⟩
      rw [l6_readText_62, show n = 3 * (i : Int) + 3 by omega]
      simp (disch := omega) only [iI_add, iI_sub, iI_mul, iI_lt, iI_le, iI_eq, iI_lt0, iI_0lt, iI_le0, iI_0le, iI_eq0, iI_div, iI_rem, iI_max, iI_min, iI_abs, ib_iI, aI_get, aI_upd, iB_eq0, iB_eqi0, iB_eqi1, iB_t, iB_f, iB_ok, okB_0, okB_1, nar0, nar1, o2, o4, o6, o20, o36, o140, Option.bind_some, if_true, if_false, if_pos, if_neg, Int.reduceAdd, Int.reduceSub, Int.reduceMul, Int.reduceNeg, Int.zero_add, Int.add_zero]
    · rw [if_neg c0, l6_readText_62]
      have e4 : 3 * (i : Int) + 3 + 1 = 3 * (i : Int) + 4 := by omega
      have e5 : 3 * (i : Int) + 4 + 1 = 3 * (i : Int) + 5 := by omega
      have e6 : 3 * (i : Int) + 5 + 1 = 3 * (i : Int) + 6 := by omega
      have x1 := t3 (3 * (i : Int) + 3) (by omega) (by omega)
      by_cases cw : X (3 * (i : Int) + 3) = 87 ∧ cW X i < 4
      · rw [if_pos cw]
        have gx : aI X (iI (3 * (i : Int) + 3)).toNatClampNeg = iI 87 := by rw [aI_get (by omega) (by omega), cw.1]
        by_cases c1 : n ≤ 3 * (i : Int) + 4 ∨ ¬ (48 ≤ X (3 * (i : Int) + 4) ∧ X (3 * (i : Int) + 4) ≤ 57)
        · rw [if_pos c1]
          have g1 : f6_figure (iI 0) (iI 9) (iI n) (iI (3 * (i : Int) + 4)) (iI (-9)) (aI X) = some (iI 0, iI (3 * (i : Int) + 4), iI (3 * (i : Int) + 4)) := fig_bad h (by decide) (by decide) (by decide) (by decide) (by omega) (by omega) (by omega)
          have g2 : f6_figure (iI 0) (iI 3) (iI n) (iI (3 * (i : Int) + 4)) (iI (3 * (i : Int) + 4)) (aI X) = some (iI 0, iI (3 * (i : Int) + 4), iI (3 * (i : Int) + 4)) := fig_f (by decide) (by decide) (by decide) (by decide) (by omega) (by omega)
          exact RdQ_f (by omega) (iI (cW X i + 1)) (iI (cT X i)) (iI (3 * (i : Int) + 4)) (aI (uz (uz (RWs X R0 i) (2 * cW X i) 0) (2 * cW X i + 1) 0)) (aI (RTs X R1 i)) (by simp (disch := omega) only [iI_add, iI_sub, iI_mul, iI_lt, iI_le, iI_eq, iI_lt0, iI_0lt, iI_le0, iI_0le, iI_eq0, iI_div, iI_rem, iI_max, iI_min, iI_abs, ib_iI, aI_get, aI_upd, iB_eq0, iB_eqi0, iB_eqi1, iB_t, iB_f, iB_ok, okB_0, okB_1, nar0, nar1, o2, o4, o6, o20, o36, o140, Option.bind_some, if_true, if_false, if_pos, if_neg, Int.reduceAdd, Int.reduceSub, Int.reduceMul, Int.reduceNeg, Int.zero_add, Int.add_zero, gx, e4, e5, e6, g1, g2, rt_fault])
        · rw [if_neg c1]
          have g1 : f6_figure (iI 0) (iI 9) (iI n) (iI (3 * (i : Int) + 4)) (iI (-9)) (aI X) = some (iI (X (3 * (i : Int) + 4) - 48), iI (3 * (i : Int) + 5), iI (-9)) := by rw [fig_ok h (by decide) (by decide) (by decide) (by decide) (by omega) (by omega) (by omega) (by omega), e5]
          by_cases c2 : n ≤ 3 * (i : Int) + 5 ∨ ¬ (48 ≤ X (3 * (i : Int) + 5) ∧ X (3 * (i : Int) + 5) ≤ 51)
          · rw [if_pos c2]
            have g2 : f6_figure (iI 0) (iI 3) (iI n) (iI (3 * (i : Int) + 5)) (iI (-9)) (aI X) = some (iI 0, iI (3 * (i : Int) + 5), iI (3 * (i : Int) + 5)) := fig_bad h (by decide) (by decide) (by decide) (by decide) (by omega) (by omega) (by omega)
            exact RdQ_f (by omega) (iI (cW X i + 1)) (iI (cT X i)) (iI (3 * (i : Int) + 5)) (aI (uz (uz (RWs X R0 i) (2 * cW X i) (X (3 * (i : Int) + 4) - 48)) (2 * cW X i + 1) 0)) (aI (RTs X R1 i)) (by simp (disch := omega) only [iI_add, iI_sub, iI_mul, iI_lt, iI_le, iI_eq, iI_lt0, iI_0lt, iI_le0, iI_0le, iI_eq0, iI_div, iI_rem, iI_max, iI_min, iI_abs, ib_iI, aI_get, aI_upd, iB_eq0, iB_eqi0, iB_eqi1, iB_t, iB_f, iB_ok, okB_0, okB_1, nar0, nar1, o2, o4, o6, o20, o36, o140, Option.bind_some, if_true, if_false, if_pos, if_neg, Int.reduceAdd, Int.reduceSub, Int.reduceMul, Int.reduceNeg, Int.zero_add, Int.add_zero, gx, e4, e5, e6, g1, g2, rt_fault])
          · rw [if_neg c2]
            have g2 : f6_figure (iI 0) (iI 3) (iI n) (iI (3 * (i : Int) + 5)) (iI (-9)) (aI X) = some (iI (X (3 * (i : Int) + 5) - 48), iI (3 * (i : Int) + 6), iI (-9)) := by rw [fig_ok h (by decide) (by decide) (by decide) (by decide) (by omega) (by omega) (by omega) (by omega), e6]
            rw [cW, if_pos cw.1, cT, if_pos cw.1, RWs, if_pos cw.1, RTs, if_pos cw.1] at ih2
            have ih3 := ih2 (by omega) (by omega) (by omega) (by omega) (by omega) (by omega) (by omega)
            simp (disch := omega) only [iI_add, iI_sub, iI_mul, iI_lt, iI_le, iI_eq, iI_lt0, iI_0lt, iI_le0, iI_0le, iI_eq0, iI_div, iI_rem, iI_max, iI_min, iI_abs, ib_iI, aI_get, aI_upd, iB_eq0, iB_eqi0, iB_eqi1, iB_t, iB_f, iB_ok, okB_0, okB_1, nar0, nar1, o2, o4, o6, o20, o36, o140, Option.bind_some, if_true, if_false, if_pos, if_neg, Int.reduceAdd, Int.reduceSub, Int.reduceMul, Int.reduceNeg, Int.zero_add, Int.add_zero, gx, e4, e5, e6, g1, g2]
            exact ih3
      · rw [if_neg cw]
        by_cases ct : X (3 * (i : Int) + 3) = 84 ∧ cT X i < 4
        · rw [if_pos ct]
          have n87 : ¬ X (3 * (i : Int) + 3) = 87 := by omega
          have gx : aI X (iI (3 * (i : Int) + 3)).toNatClampNeg = iI 84 := by rw [aI_get (by omega) (by omega), ct.1]
          by_cases c1 : n ≤ 3 * (i : Int) + 4 ∨ ¬ (48 ≤ X (3 * (i : Int) + 4) ∧ X (3 * (i : Int) + 4) ≤ 57)
          · rw [if_pos c1]
            have g1 : f6_figure (iI 0) (iI 9) (iI n) (iI (3 * (i : Int) + 4)) (iI (-9)) (aI X) = some (iI 0, iI (3 * (i : Int) + 4), iI (3 * (i : Int) + 4)) := fig_bad h (by decide) (by decide) (by decide) (by decide) (by omega) (by omega) (by omega)
            have g2 : f6_figure (iI 1) (iI 9) (iI n) (iI (3 * (i : Int) + 4)) (iI (3 * (i : Int) + 4)) (aI X) = some (iI 1, iI (3 * (i : Int) + 4), iI (3 * (i : Int) + 4)) := fig_f (by decide) (by decide) (by decide) (by decide) (by omega) (by omega)
            exact RdQ_f (by omega) (iI (cW X i)) (iI (cT X i + 1)) (iI (3 * (i : Int) + 4)) (aI (RWs X R0 i)) (aI (uz (uz (RTs X R1 i) (2 * cT X i) 0) (2 * cT X i + 1) 1)) (by simp (disch := omega) only [iI_add, iI_sub, iI_mul, iI_lt, iI_le, iI_eq, iI_lt0, iI_0lt, iI_le0, iI_0le, iI_eq0, iI_div, iI_rem, iI_max, iI_min, iI_abs, ib_iI, aI_get, aI_upd, iB_eq0, iB_eqi0, iB_eqi1, iB_t, iB_f, iB_ok, okB_0, okB_1, nar0, nar1, o2, o4, o6, o20, o36, o140, Option.bind_some, if_true, if_false, if_pos, if_neg, Int.reduceAdd, Int.reduceSub, Int.reduceMul, Int.reduceNeg, Int.zero_add, Int.add_zero, gx, e4, e5, e6, g1, g2, rt_fault])
          · rw [if_neg c1]
            have g1 : f6_figure (iI 0) (iI 9) (iI n) (iI (3 * (i : Int) + 4)) (iI (-9)) (aI X) = some (iI (X (3 * (i : Int) + 4) - 48), iI (3 * (i : Int) + 5), iI (-9)) := by rw [fig_ok h (by decide) (by decide) (by decide) (by decide) (by omega) (by omega) (by omega) (by omega), e5]
            by_cases c2 : n ≤ 3 * (i : Int) + 5 ∨ ¬ (49 ≤ X (3 * (i : Int) + 5) ∧ X (3 * (i : Int) + 5) ≤ 57)
            · rw [if_pos c2]
              have g2 : f6_figure (iI 1) (iI 9) (iI n) (iI (3 * (i : Int) + 5)) (iI (-9)) (aI X) = some (iI 1, iI (3 * (i : Int) + 5), iI (3 * (i : Int) + 5)) := fig_bad h (by decide) (by decide) (by decide) (by decide) (by omega) (by omega) (by omega)
              exact RdQ_f (by omega) (iI (cW X i)) (iI (cT X i + 1)) (iI (3 * (i : Int) + 5)) (aI (RWs X R0 i)) (aI (uz (uz (RTs X R1 i) (2 * cT X i) (X (3 * (i : Int) + 4) - 48)) (2 * cT X i + 1) 1)) (by simp (disch := omega) only [iI_add, iI_sub, iI_mul, iI_lt, iI_le, iI_eq, iI_lt0, iI_0lt, iI_le0, iI_0le, iI_eq0, iI_div, iI_rem, iI_max, iI_min, iI_abs, ib_iI, aI_get, aI_upd, iB_eq0, iB_eqi0, iB_eqi1, iB_t, iB_f, iB_ok, okB_0, okB_1, nar0, nar1, o2, o4, o6, o20, o36, o140, Option.bind_some, if_true, if_false, if_pos, if_neg, Int.reduceAdd, Int.reduceSub, Int.reduceMul, Int.reduceNeg, Int.zero_add, Int.add_zero, gx, e4, e5, e6, g1, g2, rt_fault])
            · rw [if_neg c2]
              have g2 : f6_figure (iI 1) (iI 9) (iI n) (iI (3 * (i : Int) + 5)) (iI (-9)) (aI X) = some (iI (X (3 * (i : Int) + 5) - 48), iI (3 * (i : Int) + 6), iI (-9)) := by rw [fig_ok h (by decide) (by decide) (by decide) (by decide) (by omega) (by omega) (by omega) (by omega), e6]
              rw [cW, if_neg n87, cT, if_neg n87, RWs, if_neg n87, RTs, if_neg n87] at ih2
              have ih3 := ih2 (by omega) (by omega) (by omega) (by omega) (by omega) (by omega) (by omega)
              simp (disch := omega) only [iI_add, iI_sub, iI_mul, iI_lt, iI_le, iI_eq, iI_lt0, iI_0lt, iI_le0, iI_0le, iI_eq0, iI_div, iI_rem, iI_max, iI_min, iI_abs, ib_iI, aI_get, aI_upd, iB_eq0, iB_eqi0, iB_eqi1, iB_t, iB_f, iB_ok, okB_0, okB_1, nar0, nar1, o2, o4, o6, o20, o36, o140, Option.bind_some, if_true, if_false, if_pos, if_neg, Int.reduceAdd, Int.reduceSub, Int.reduceMul, Int.reduceNeg, Int.zero_add, Int.add_zero, gx, e4, e5, e6, g1, g2]
              exact ih3
        · rw [if_neg ct]
          have gx : aI X (iI (3 * (i : Int) + 3)).toNatClampNeg = iI (X (3 * (i : Int) + 3)) := by rw [aI_get (by omega) (by omega)]
          refine RdQ_f (by omega) (iI (cW X i)) (iI (cT X i)) (iI (3 * (i : Int) + 3)) (aI (RWs X R0 i)) (aI (RTs X R1 i)) ?_
          by_cases d1 : X (3 * (i : Int) + 3) = 87
          · simp (disch := omega) only [iI_add, iI_sub, iI_mul, iI_lt, iI_le, iI_eq, iI_lt0, iI_0lt, iI_le0, iI_0le, iI_eq0, iI_div, iI_rem, iI_max, iI_min, iI_abs, ib_iI, aI_get, aI_upd, iB_eq0, iB_eqi0, iB_eqi1, iB_t, iB_f, iB_ok, okB_0, okB_1, nar0, nar1, o2, o4, o6, o20, o36, o140, Option.bind_some, if_true, if_false, if_pos, if_neg, Int.reduceAdd, Int.reduceSub, Int.reduceMul, Int.reduceNeg, Int.zero_add, Int.add_zero, gx, rt_fault]
          · by_cases d2 : X (3 * (i : Int) + 3) = 84
            · simp (disch := omega) only [iI_add, iI_sub, iI_mul, iI_lt, iI_le, iI_eq, iI_lt0, iI_0lt, iI_le0, iI_0le, iI_eq0, iI_div, iI_rem, iI_max, iI_min, iI_abs, ib_iI, aI_get, aI_upd, iB_eq0, iB_eqi0, iB_eqi1, iB_t, iB_f, iB_ok, okB_0, okB_1, nar0, nar1, o2, o4, o6, o20, o36, o140, Option.bind_some, if_true, if_false, if_pos, if_neg, Int.reduceAdd, Int.reduceSub, Int.reduceMul, Int.reduceNeg, Int.zero_add, Int.add_zero, gx, rt_fault]
            · simp (disch := omega) only [iI_add, iI_sub, iI_mul, iI_lt, iI_le, iI_eq, iI_lt0, iI_0lt, iI_le0, iI_0le, iI_eq0, iI_div, iI_rem, iI_max, iI_min, iI_abs, ib_iI, aI_get, aI_upd, iB_eq0, iB_eqi0, iB_eqi1, iB_t, iB_f, iB_ok, okB_0, okB_1, nar0, nar1, o2, o4, o6, o20, o36, o140, Option.bind_some, if_true, if_false, if_pos, if_neg, Int.reduceAdd, Int.reduceSub, Int.reduceMul, Int.reduceNeg, Int.zero_add, Int.add_zero, gx, rt_fault]
/-- what the reference has read: NONE: the figures; else the fault alone -/
def RtQ (X : Int → Int) (n : Int) (R0 R1 : Int → Int) (o : Option (Int32 × Int32 × Int32 × Int32 × Int32 × (Nat → Int32) × (Nat → Int32))) : Prop :=
  (flZ X n = -9 → ∃ e : Nat, n = 3 * (e : Int) + 3 ∧ o = some (iI (-9), iI (cW X e), iI (cT X e), iI n, iI (-9), aI (RWs X R0 e), aI (RTs X R1 e))) ∧ (flZ X n ≠ -9 → ∃ (w t a f : Int32) (r0 r1 : Nat → Int32), o = some (iI (flZ X n), w, t, a, f, r0, r1))
theorem flN_ge (X : Int → Int) (n : Int) : ∀ f i : Nat, flN X n f i = -9 ∨ 0 ≤ flN X n f i := by
  intro f
  induction f with
  | zero => intro i; exact Or.inl rfl
  | succ f ih =>
    intro i
    have := ih (i + 1)
    rw [flN]
    repeat' split
    all_goals first | exact Or.inl rfl | exact this | exact Or.inr (by omega)
set_option maxRecDepth 100000 in
theorem readText_s {X : Int → Int} {n : Int} (h : TOK X n) (a0 a1 a2 a3 : Int32) (R0 R1 : Int → Int) : RtQ X n R0 R1 (f6_readText a0 a1 (iI n) a2 a3 (aI R0) (aI R1) (aI X)) := by
  obtain ⟨t1, t2, t3⟩ := id h
  unfold f6_readText
  have eF : FU = 19990 + 9 + 1 := rfl
  by_cases c0 : n = 0
  · have ev : flZ X n = 0 := by unfold flZ; rw [if_pos (Or.inl c0)]
    refine ⟨fun q => by omega, fun _ => ⟨iI 0, iI 0, iI 0, iI (-9), aI R0, aI R1, ?_⟩⟩
    rw [ev, c0]
    simp (disch := omega) only [iI_add, iI_sub, iI_mul, iI_lt, iI_le, iI_eq, iI_lt0, iI_0lt, iI_le0, iI_0le, iI_eq0, iI_div, iI_rem, iI_max, iI_min, iI_abs, ib_iI, aI_get, aI_upd, iB_eq0, iB_eqi0, iB_eqi1, iB_t, iB_f, iB_ok, okB_0, okB_1, nar0, nar1, o2, o4, o6, o20, o36, o140, Option.bind_some, if_true, if_false, if_pos, if_neg, Int.reduceAdd, Int.reduceSub, Int.reduceMul, Int.reduceNeg, Int.zero_add, Int.add_zero]
  · by_cases c1 : X 0 = 68
    · have gx : aI X (iI 0).toNatClampNeg = iI 68 := by rw [aI_get (by decide) (by decide), c1]
      rw [gx]
      by_cases c2 : n ≤ 1 ∨ ¬ (48 ≤ X 1 ∧ X 1 ≤ 57)
      · have ev : flZ X n = 1 := by unfold flZ; rw [if_neg (by omega), if_pos c2]
        refine ⟨fun q => by omega, fun _ => ⟨iI 0, iI 0, iI 1, iI 1, aI R0, aI R1, ?_⟩⟩
        rw [ev, fig_bad h (by decide) (by decide) (by decide) (by decide) (by decide) (by decide) (by omega)]
        have g2 : f6_figure (iI 0) (iI 9) (iI n) (iI 1) (iI 1) (aI X) = some (iI 0, iI 1, iI 1) := fig_f (by decide) (by decide) (by decide) (by decide) (by decide) (by decide)
        rw [eF]
        simp (disch := omega) only [iI_add, iI_sub, iI_mul, iI_lt, iI_le, iI_eq, iI_lt0, iI_0lt, iI_le0, iI_0le, iI_eq0, iI_div, iI_rem, iI_max, iI_min, iI_abs, ib_iI, aI_get, aI_upd, iB_eq0, iB_eqi0, iB_eqi1, iB_t, iB_f, iB_ok, okB_0, okB_1, nar0, nar1, o2, o4, o6, o20, o36, o140, Option.bind_some, if_true, if_false, if_pos, if_neg, Int.reduceAdd, Int.reduceSub, Int.reduceMul, Int.reduceNeg, Int.zero_add, Int.add_zero, g2, rt_fault]
      · rw [fig_ok h (by decide) (by decide) (by decide) (by decide) (by decide) (by omega) (by omega) (by omega)]
        by_cases c3 : n ≤ 2 ∨ ¬ (48 ≤ X 2 ∧ X 2 ≤ 57)
        · have ev : flZ X n = 2 := by unfold flZ; rw [if_neg (by omega), if_neg c2, if_pos c3]
          refine ⟨fun q => by omega, fun _ => ⟨iI 0, iI 0, iI 2, iI 2, aI R0, aI R1, ?_⟩⟩
          have g2 : f6_figure (iI 0) (iI 9) (iI n) (iI 2) (iI (-9)) (aI X) = some (iI 0, iI 2, iI 2) := fig_bad h (by decide) (by decide) (by decide) (by decide) (by decide) (by decide) (by omega)
          rw [ev, eF]
          simp (disch := omega) only [iI_add, iI_sub, iI_mul, iI_lt, iI_le, iI_eq, iI_lt0, iI_0lt, iI_le0, iI_0le, iI_eq0, iI_div, iI_rem, iI_max, iI_min, iI_abs, ib_iI, aI_get, aI_upd, iB_eq0, iB_eqi0, iB_eqi1, iB_t, iB_f, iB_ok, okB_0, okB_1, nar0, nar1, o2, o4, o6, o20, o36, o140, Option.bind_some, if_true, if_false, if_pos, if_neg, Int.reduceAdd, Int.reduceSub, Int.reduceMul, Int.reduceNeg, Int.zero_add, Int.add_zero, g2, rt_fault]
        · have ev : flZ X n = flN X n 12 0 := by unfold flZ; rw [if_neg (by omega), if_neg c2, if_neg c3]
          have g2 : f6_figure (iI 0) (iI 9) (iI n) (iI 2) (iI (-9)) (aI X) = some (iI (X 2 - 48), iI 3, iI (-9)) := fig_ok h (by decide) (by decide) (by decide) (by decide) (by decide) (by omega) (by omega) (by omega)
          have key := L_rd h R0 R1 (fun mrn mrm mat mfa mrw mrt => some (mfa, mrn, mrm, mat, mfa, mrw, mrt)) 12 0 FU (by omega) (by omega) (Int.le_refl _) (show (0 : Int) ≤ 4 by decide) (Int.le_refl _) (show (0 : Int) ≤ 4 by decide) (by unfold FU; omega)
          rw [show 3 * ((0 : Nat) : Int) + 3 = 3 from rfl, show cW X 0 = 0 from rfl, show cT X 0 = 0 from rfl, show RWs X R0 0 = R0 from rfl, show RTs X R1 0 = R1 from rfl] at key
          simp (disch := omega) only [iI_add, iI_sub, iI_mul, iI_lt, iI_le, iI_eq, iI_lt0, iI_0lt, iI_le0, iI_0le, iI_eq0, iI_div, iI_rem, iI_max, iI_min, iI_abs, ib_iI, aI_get, aI_upd, iB_eq0, iB_eqi0, iB_eqi1, iB_t, iB_f, iB_ok, okB_0, okB_1, nar0, nar1, o2, o4, o6, o20, o36, o140, Option.bind_some, if_true, if_false, if_pos, if_neg, Int.reduceAdd, Int.reduceSub, Int.reduceMul, Int.reduceNeg, Int.zero_add, Int.add_zero, g2]
          refine ⟨fun q => ?_, fun q => ?_⟩
          · obtain ⟨e, q1, q2⟩ := key.1 (by rw [← ev]; exact q)
            exact ⟨e, q1, q2⟩
          · obtain ⟨w, t, a, r0, r1, q2⟩ := key.2 (by rw [← ev]; exact q)
            exact ⟨w, t, a, _, r0, r1, by rw [ev]; exact q2⟩
    · have ev : flZ X n = 0 := by unfold flZ; rw [if_pos (Or.inr c1)]
      have x0 := t3 0 (by decide) (by decide)
      have gx : aI X (iI 0).toNatClampNeg = iI (X 0) := by rw [aI_get (by decide) (by decide)]
      refine ⟨fun q => by omega, fun _ => ⟨iI 0, iI 0, iI 0, iI (-9), aI R0, aI R1, ?_⟩⟩
      rw [ev, gx]
      simp (disch := omega) only [iI_add, iI_sub, iI_mul, iI_lt, iI_le, iI_eq, iI_lt0, iI_0lt, iI_le0, iI_0le, iI_eq0, iI_div, iI_rem, iI_max, iI_min, iI_abs, ib_iI, aI_get, aI_upd, iB_eq0, iB_eqi0, iB_eqi1, iB_t, iB_f, iB_ok, okB_0, okB_1, nar0, nar1, o2, o4, o6, o20, o36, o140, Option.bind_some, if_true, if_false, if_pos, if_neg, Int.reduceAdd, Int.reduceSub, Int.reduceMul, Int.reduceNeg, Int.zero_add, Int.add_zero]
theorem op_fault {X : Int → Int} {n : Int} (h : TOK X n) (a0 a1 a2 a3 : Int32) (R0 R1 : Int → Int) : ∃ (r w t a f : Int32) (r0 r1 : Nat → Int32), f5_fault (aI X) (iI n) = some r ∧ f6_fault a0 a1 (iI n) a2 a3 (aI R0) (aI R1) (aI X) = some (r, w, t, a, f, r0, r1) := by
  have key := readText_s h a0 a1 a2 a3 R0 R1
  unfold f5_fault f6_fault
  rw [firstFault_s h]
  by_cases c : flZ X n = -9
  · obtain ⟨e, q1, q2⟩ := key.1 c
    rw [q2, c]
    exact ⟨_, _, _, _, _, _, _, rfl, rfl⟩
  · obtain ⟨w, t, a, f, r0, r1, q2⟩ := key.2 c
    rw [q2]
    exact ⟨_, _, _, _, _, _, _, rfl, rfl⟩
