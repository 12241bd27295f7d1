/-! the reference reads THE TEXT -/
theorem figure_s {X : Int → Int} {n a b at_ fa : Int} (h : TOK X n) (ha1 : 0 ≤ a) (ha2 : a ≤ 9) (hb1 : 0 ≤ b) (hb2 : b ≤ 9) (hat1 : 0 ≤ at_) (hat2 : at_ ≤ 40) (hf1 : -9 ≤ fa) (hf2 : fa ≤ 100) : f6_figure (iI a) (iI b) (iI n) (iI at_) (iI fa) (aI X) = if fa = -9 ∧ at_ < n ∧ a ≤ X at_ - 48 ∧ X at_ - 48 ≤ b then some (iI (X at_ - 48), iI (at_ + 1), iI (-9)) else some (iI a, iI at_, iI (if fa = -9 then at_ else fa)) := by
  obtain ⟨t1, t2, t3⟩ := id h
  have z9 : f6_in (iI (-9)).toInt64 (iI a).toInt64 (iI b).toInt64 = some (iB false) := by
    rw [iI_long (show (-2147483648 : Int) ≤ a by omega) (by omega), iI_long (show (-2147483648 : Int) ≤ b by omega) (by omega), in_s (by decide) (by decide) (by omega) (by omega) (by omega) (by omega), decide_eq_false (by omega)]
  unfold f6_figure
  rw [z9]
  by_cases c1 : fa = -9
  · subst c1
    by_cases c2 : n ≤ at_
    · rw [if_neg (fun q => by omega)]
      simp (disch := omega) only [iI_add, iI_sub, iI_mul, iI_lt, iI_le, iI_eq, iI_lt0, iI_0lt, iI_le0, iI_0le, iI_eq0, iI_div, iI_rem, iI_max, iI_min, iI_abs, ib_iI, aI_get, aI_upd, iB_eq0, iB_eqi0, iB_eqi1, iB_t, iB_f, iB_ok, okB_0, okB_1, nar0, nar1, o2, o4, o6, o20, o36, o140, Option.bind_some, if_true, if_false, if_pos, if_neg, Int.reduceAdd, Int.reduceSub, Int.reduceMul, Int.reduceNeg, Int.zero_add, Int.add_zero]
    · have hx := t3 at_ hat1 (by omega)
      rw [aI_get hat1 (by omega), iI_sub, iI_long (show (-2147483648 : Int) ≤ a by omega) (by omega), iI_long (show (-2147483648 : Int) ≤ b by omega) (by omega), in_s (by omega) (by omega) (by omega) (by omega) (by omega) (by omega)]
      by_cases c3 : a ≤ X at_ - 48 ∧ X at_ - 48 ≤ b
      · rw [if_pos ⟨rfl, by omega, c3.1, c3.2⟩, decide_eq_true c3]
        simp (disch := omega) only [iI_add, iI_sub, iI_mul, iI_lt, iI_le, iI_eq, iI_lt0, iI_0lt, iI_le0, iI_0le, iI_eq0, iI_div, iI_rem, iI_max, iI_min, iI_abs, ib_iI, aI_get, aI_upd, iB_eq0, iB_eqi0, iB_eqi1, iB_t, iB_f, iB_ok, okB_0, okB_1, nar0, nar1, o2, o4, o6, o20, o36, o140, Option.bind_some, if_true, if_false, if_pos, if_neg, Int.reduceAdd, Int.reduceSub, Int.reduceMul, Int.reduceNeg, Int.zero_add, Int.add_zero]
      · rw [if_neg (fun q => c3 q.2.2), decide_eq_false c3]
        simp (disch := omega) only [iI_add, iI_sub, iI_mul, iI_lt, iI_le, iI_eq, iI_lt0, iI_0lt, iI_le0, iI_0le, iI_eq0, iI_div, iI_rem, iI_max, iI_min, iI_abs, ib_iI, aI_get, aI_upd, iB_eq0, iB_eqi0, iB_eqi1, iB_t, iB_f, iB_ok, okB_0, okB_1, nar0, nar1, o2, o4, o6, o20, o36, o140, Option.bind_some, if_true, if_false, if_pos, if_neg, Int.reduceAdd, Int.reduceSub, Int.reduceMul, Int.reduceNeg, Int.zero_add, Int.add_zero]
  · rw [if_neg (fun q => c1 q.1)]
    simp (disch := omega) only [iI_add, iI_sub, iI_mul, iI_lt, iI_le, iI_eq, iI_lt0, iI_0lt, iI_le0, iI_0le, iI_eq0, iI_div, iI_rem, iI_max, iI_min, iI_abs, ib_iI, aI_get, aI_upd, iB_eq0, iB_eqi0, iB_eqi1, iB_t, iB_f, iB_ok, okB_0, okB_1, nar0, nar1, o2, o4, o6, o20, o36, o140, Option.bind_some, if_true, if_false, if_pos, if_neg, Int.reduceAdd, Int.reduceSub, Int.reduceMul, Int.reduceNeg, Int.zero_add, Int.add_zero]
/-- figures of the WORDS and of the THINGS, as they are told -/
def RWs (X : Int → Int) (R0 : Int → Int) : Nat → Int → Int
  | 0 => R0
  | i + 1 => if X (3 * (i : Int) + 3) = 87 then uz (uz (RWs X R0 i) (2 * cW X i) (X (3 * (i : Int) + 4) - 48)) (2 * cW X i + 1) (X (3 * (i : Int) + 5) - 48) else RWs X R0 i
def RTs (X : Int → Int) (R0 : Int → Int) : Nat → Int → Int
  | 0 => R0
  | i + 1 => if X (3 * (i : Int) + 3) = 87 then RTs X R0 i else uz (uz (RTs X R0 i) (2 * cT X i) (X (3 * (i : Int) + 4) - 48)) (2 * cT X i + 1) (X (3 * (i : Int) + 5) - 48)
/-- the loop's last turn: a fault is known -/
theorem rt_fault {X : Int → Int} {n fa : Int} (k : Int32 → Int32 → Int32 → Int32 → (Nat → Int32) → (Nat → Int32) → Option (Int32 × Int32 × Int32 × Int32 × Int32 × (Nat → Int32) × (Nat → Int32))) (N : Nat) (w t a : Int32) (rw_ rt_ : Nat → Int32) (h1 : 0 ≤ fa) (h2 : fa ≤ 100) : l6_readText_62 k (iI n) (aI X) (N + 1) w t a (iI fa) rw_ rt_ = k w t a (iI fa) rw_ rt_ := by
  rw [l6_readText_62]
  simp (disch := omega) only [iI_add, iI_sub, iI_mul, iI_lt, iI_le, iI_eq, iI_lt0, iI_0lt, iI_le0, iI_0le, iI_eq0, iI_div, iI_rem, iI_max, iI_min, iI_abs, ib_iI, aI_get, aI_upd, iB_eq0, iB_eqi0, iB_eqi1, iB_t, iB_f, iB_ok, okB_0, okB_1, nar0, nar1, o2, o4, o6, o20, o36, o140, Option.bind_some, if_true, if_false, if_pos, if_neg, Int.reduceAdd, Int.reduceSub, Int.reduceMul, Int.reduceNeg, Int.zero_add, Int.add_zero]
/-- what comes of the reading from the i-th part on -/
def RdQ (X : Int → Int) (n : Int) (R0 R1 : Int → Int) (v : Int) (k : Int32 → Int32 → Int32 → Int32 → (Nat → Int32) → (Nat → Int32) → Option (Int32 × Int32 × Int32 × Int32 × Int32 × (Nat → Int32) × (Nat → Int32))) (o : Option (Int32 × Int32 × Int32 × Int32 × Int32 × (Nat → Int32) × (Nat → Int32))) : Prop :=
  (v = -9 → ∃ e : Nat, n = 3 * (e : Int) + 3 ∧ o = k (iI (cW X e)) (iI (cT X e)) (iI n) (iI (-9)) (aI (RWs X R0 e)) (aI (RTs X R1 e))) ∧ (v ≠ -9 → ∃ (w t a : Int32) (r0 r1 : Nat → Int32), o = k w t a (iI v) r0 r1)
theorem RdQ_f {X : Int → Int} {n : Int} {R0 R1 : Int → Int} {v : Int} {k : Int32 → Int32 → Int32 → Int32 → (Nat → Int32) → (Nat → Int32) → Option (Int32 × Int32 × Int32 × Int32 × Int32 × (Nat → Int32) × (Nat → Int32))} {o : Option (Int32 × Int32 × Int32 × Int32 × Int32 × (Nat → Int32) × (Nat → Int32))} (hv : 0 ≤ v) (w t a : Int32) (r0 r1 : Nat → Int32) (h : o = k w t a (iI v) r0 r1) : RdQ X n R0 R1 v k o := ⟨fun q => by omega, fun _ => ⟨w, t, a, r0, r1, h⟩⟩
theorem L_rd {X : Int → Int} {n : Int} (h : TOK X n) (R0 R1 : Int → Int) (k : Int32 → Int32 → Int32 → Int32 → (Nat → Int32) → (Nat → Int32) → Option (Int32 × Int32 × Int32 × Int32 × Int32 × (Nat → Int32) × (Nat → Int32))) : ∀ (f i N : Nat), 3 * (i : Int) + 3 ≤ n → n ≤ 3 * (i : Int) + 3 * (f : Int) → 0 ≤ cW X i → cW X i ≤ 4 → 0 ≤ cT X i → cT X i ≤ 4 → f + 2 < N → RdQ X n R0 R1 (flN X n f i) k (l6_readText_62 k (iI n) (aI X) N (iI (cW X i)) (iI (cT X i)) (iI (3 * (i : Int) + 3)) (iI (-9)) (aI (RWs X R0 i)) (aI (RTs X R1 i))) := by
  obtain ⟨t1, t2, t3⟩ := id h
  intro f
  induction f with
  | zero =>
    intro i N h1 h2
    omega
  | succ f ih =>
    intro i N h1 h2 w1 w2 u1 u2 hN
    obtain ⟨N, rfl⟩ : ∃ q, N = q + 1 + 1 := ⟨N - 2, by omega⟩
    have ih2 := ih (i + 1) (N + 1)
    rw [flN]
    have e0 : 3 * (((i + 1 : Nat) : Int)) + 3 = 3 * (i : Int) + 6 := by omega
    rw [e0] at ih2
    by_cases c0 : n ≤ 3 * (i : Int) + 3
    · rw [if_pos c0]
      refine ⟨fun _ => ⟨i, by omega, ?_⟩, fun q => absurd rfl q⟩
      rw [l6_readText_62, show n = 3 * (i : Int) + 3 by omega]
      simp (disch := omega) only [iI_add, iI_sub, iI_mul, iI_lt, iI_le, iI_eq, iI_lt0, iI_0lt, iI_le0, iI_0le, iI_eq0, iI_div, iI_rem, iI_max, iI_min, iI_abs, ib_iI, aI_get, aI_upd, iB_eq0, iB_eqi0, iB_eqi1, iB_t, iB_f, iB_ok, okB_0, okB_1, nar0, nar1, o2, o4, o6, o20, o36, o140, Option.bind_some, if_true, if_false, if_pos, if_neg, Int.reduceAdd, Int.reduceSub, Int.reduceMul, Int.reduceNeg, Int.zero_add, Int.add_zero]
    · rw [if_neg c0, l6_readText_62, figure_s h (by decide) (by decide) (by decide) (by decide) (by omega) (by omega) (by decide) (by decide)]
      have x1 := t3 (3 * (i : Int) + 3) (by omega) (by omega)
      sorry
