/-! walk -/
def blk (X : Int → Int) (i : Nat) : Prop := (X (3 * (i : Int) + 3) = 87 ∧ cW X i < 4 ∧ (48 ≤ X (3 * (i : Int) + 4) ∧ X (3 * (i : Int) + 4) ≤ 57) ∧ (48 ≤ X (3 * (i : Int) + 5) ∧ X (3 * (i : Int) + 5) ≤ 51)) ∨ (X (3 * (i : Int) + 3) = 84 ∧ cT X i < 4 ∧ (48 ≤ X (3 * (i : Int) + 4) ∧ X (3 * (i : Int) + 4) ≤ 57) ∧ (49 ≤ X (3 * (i : Int) + 5) ∧ X (3 * (i : Int) + 5) ≤ 57))
theorem flN_ok {X : Int → Int} {n : Int} : ∀ (f i : Nat), 3 * (i : Int) + 3 ≤ n → n ≤ 3 * (i : Int) + 3 * (f : Int) → flN X n f i = -9 → ∀ e : Nat, n = 3 * (e : Int) + 3 → ∀ j : Nat, i ≤ j → j < e → blk X j := by
  intro f
  induction f with
  | zero =>
    intro i h1 h2
    omega
  | succ f ih =>
    intro i h1 h2 hv e he j hj1 hj2
    rw [flN] at hv
    by_cases c0 : n ≤ 3 * (i : Int) + 3
    · omega
    · rw [if_neg c0] at hv
      by_cases cw : X (3 * (i : Int) + 3) = 87 ∧ cW X i < 4
      · rw [if_pos cw] at hv
        by_cases c1 : n ≤ 3 * (i : Int) + 4 ∨ ¬ (48 ≤ X (3 * (i : Int) + 4) ∧ X (3 * (i : Int) + 4) ≤ 57)
        · rw [if_pos c1] at hv
          omega
        · rw [if_neg c1] at hv
          by_cases c2 : n ≤ 3 * (i : Int) + 5 ∨ ¬ (48 ≤ X (3 * (i : Int) + 5) ∧ X (3 * (i : Int) + 5) ≤ 51)
          · rw [if_pos c2] at hv
            omega
          · rw [if_neg c2] at hv
            by_cases cj : j = i
            · subst cj
              exact Or.inl ⟨cw.1, cw.2, by omega, by omega⟩
            · exact ih (i + 1) (by omega) (by omega) hv e he j (by omega) hj2
      · rw [if_neg cw] at hv
        by_cases ct : X (3 * (i : Int) + 3) = 84 ∧ cT X i < 4
        · rw [if_pos ct] at hv
          by_cases c1 : n ≤ 3 * (i : Int) + 4 ∨ ¬ (48 ≤ X (3 * (i : Int) + 4) ∧ X (3 * (i : Int) + 4) ≤ 57)
          · rw [if_pos c1] at hv
            omega
          · rw [if_neg c1] at hv
            by_cases c2 : n ≤ 3 * (i : Int) + 5 ∨ ¬ (49 ≤ X (3 * (i : Int) + 5) ∧ X (3 * (i : Int) + 5) ≤ 57)
            · rw [if_pos c2] at hv
              omega
            · rw [if_neg c2] at hv
              by_cases cj : j = i
              · subst cj
                exact Or.inr ⟨ct.1, ct.2, by omega, by omega⟩
              · exact ih (i + 1) (by omega) (by omega) hv e he j (by omega) hj2
        · rw [if_neg ct] at hv
          omega
theorem cnt_b {X : Int → Int} : ∀ i : Nat, (∀ j : Nat, j < i → blk X j) → 0 ≤ cW X i ∧ cW X i ≤ 4 ∧ 0 ≤ cT X i ∧ cT X i ≤ 4 := by
  intro i
  induction i with
  | zero => intro _; exact ⟨Int.le_refl _, show (0 : Int) ≤ 4 by decide, Int.le_refl _, show (0 : Int) ≤ 4 by decide⟩
  | succ i ih =>
    intro h
    have h1 := ih (fun j hj => h j (by omega))
    have h2 := h i (by omega)
    rw [cW, cT]
    rcases h2 with h2 | h2
    · rw [if_pos h2.1, if_pos h2.1]
      omega
    · rw [if_neg (by omega), if_neg (by omega)]
      omega
theorem RWs_b {X R0 : Int → Int} : ∀ i : Nat, (∀ j : Nat, j < i → blk X j) → ∀ w : Int, 0 ≤ w → w < cW X i → 0 ≤ RWs X R0 i (2 * w) ∧ RWs X R0 i (2 * w) ≤ 9 ∧ 0 ≤ RWs X R0 i (2 * w + 1) ∧ RWs X R0 i (2 * w + 1) ≤ 3 := by
  intro i
  induction i with
  | zero => intro _ w h1 h2; exact absurd (show w < 0 from h2) (by omega)
  | succ i ih =>
    intro h w h1 h2
    have hc := cnt_b i (fun j hj => h j (by omega))
    have hi := ih (fun j hj => h j (by omega)) w h1
    have hb := h i (by omega)
    rw [cW] at h2
    rw [RWs]
    rcases hb with hb | hb
    · rw [if_pos hb.1] at h2 ⊢
      by_cases c : w = cW X i
      · subst c
        rw [uz_same, uz_ne (by omega), uz_same]
        omega
      · rw [uz_ne (by omega), uz_ne (by omega), uz_ne (by omega), uz_ne (by omega)]
        exact hi (by omega)
    · rw [if_neg (by omega)] at h2 ⊢
      exact hi h2
theorem RTs_b {X R0 : Int → Int} : ∀ i : Nat, (∀ j : Nat, j < i → blk X j) → ∀ w : Int, 0 ≤ w → w < cT X i → 0 ≤ RTs X R0 i (2 * w) ∧ RTs X R0 i (2 * w) ≤ 9 ∧ 1 ≤ RTs X R0 i (2 * w + 1) ∧ RTs X R0 i (2 * w + 1) ≤ 9 := by
  intro i
  induction i with
  | zero => intro _ w h1 h2; exact absurd (show w < 0 from h2) (by omega)
  | succ i ih =>
    intro h w h1 h2
    have hc := cnt_b i (fun j hj => h j (by omega))
    have hi := ih (fun j hj => h j (by omega)) w h1
    have hb := h i (by omega)
    rw [cT] at h2
    rw [RTs]
    rcases hb with hb | hb
    · rw [if_pos hb.1] at h2 ⊢
      exact hi h2
    · rw [if_neg (by omega)] at h2 ⊢
      by_cases c : w = cT X i
      · subst c
        rw [uz_same, uz_ne (by omega), uz_same]
        omega
      · rw [uz_ne (by omega), uz_ne (by omega), uz_ne (by omega), uz_ne (by omega)]
        exact hi (by omega)
/-- an old row whose first c cells come from every second cell of another, from o on -/
def pre (A R : Int → Int) (c o : Int) : Int → Int := fun j => if 0 ≤ j ∧ j < c then R (2 * j + o) else A j
theorem pre_0 (A R : Int → Int) (o : Int) : pre A R 0 o = A := by
  funext j
  unfold pre
  rw [if_neg (by omega)]
theorem pre_up {A R : Int → Int} {c o v : Int} (hc : 0 ≤ c) (h : R (2 * c + o) = v) : uz (pre A R c o) c v = pre A R (c + 1) o := by
  funext j
  unfold uz pre
  by_cases e : j = c
  · subst e
    rw [if_pos rfl, if_pos (by omega), h]
  · rw [if_neg e]
    by_cases e2 : 0 ≤ j ∧ j < c
    · rw [if_pos e2, if_pos (by omega)]
    · rw [if_neg e2, if_neg (by omega)]
theorem pre_congr {A R R2 : Int → Int} {c o : Int} (h : ∀ j : Int, 0 ≤ j → j < c → R (2 * j + o) = R2 (2 * j + o)) : pre A R c o = pre A R2 c o := by
  funext j
  unfold pre
  by_cases e : 0 ≤ j ∧ j < c
  · rw [if_pos e, if_pos e]
    exact h j e.1 e.2
  · rw [if_neg e, if_neg e]
/-- one part told to the class -/
theorem tell_b {X K P U s R0 R1 : Int → Int} {i : Nat} (hb : blk X i) (hc : 0 ≤ cW X i ∧ cW X i ≤ 4 ∧ 0 ≤ cT X i ∧ cT X i ≤ 4) : f5_tellPart (iI (X (3 * (i : Int) + 3))) (iI (X (3 * (i : Int) + 4) - 48)) (iI (X (3 * (i : Int) + 5) - 48)) (aI (pre K (RWs X R0 i) (cW X i) 1)) (aI (pre P (RTs X R1 i) (cT X i) 0)) (aI (pre U (RTs X R1 i) (cT X i) 1)) (iI (cW X i)) (iI (cT X i)) (aI (pre s (RWs X R0 i) (cW X i) 0)) = some (aI (pre K (RWs X R0 (i + 1)) (cW X (i + 1)) 1), aI (pre P (RTs X R1 (i + 1)) (cT X (i + 1)) 0), aI (pre U (RTs X R1 (i + 1)) (cT X (i + 1)) 1), iI (cW X (i + 1)), iI (cT X (i + 1)), aI (pre s (RWs X R0 (i + 1)) (cW X (i + 1)) 0)) := by
  obtain ⟨c1, c2, c3, c4⟩ := hc
  unfold f5_tellPart
  rcases hb with hb | hb
  · obtain ⟨x1, x2, x3, x4⟩ := hb
    rw [cW, cT, RWs, RTs, if_pos x1, if_pos x1, if_pos x1, if_pos x1, x1]
    have eK : uz (pre K (RWs X R0 i) (cW X i) 1) (cW X i) (X (3 * (i : Int) + 5) - 48) = pre K (uz (uz (RWs X R0 i) (2 * cW X i) (X (3 * (i : Int) + 4) - 48)) (2 * cW X i + 1) (X (3 * (i : Int) + 5) - 48)) (cW X i + 1) 1 := by
      rw [pre_congr (R2 := uz (uz (RWs X R0 i) (2 * cW X i) (X (3 * (i : Int) + 4) - 48)) (2 * cW X i + 1) (X (3 * (i : Int) + 5) - 48)) (fun j h1 h2 => by rw [uz_ne (by omega), uz_ne (by omega)]), pre_up c1 (uz_same _ _ _)]
    have eS : uz (pre s (RWs X R0 i) (cW X i) 0) (cW X i) (X (3 * (i : Int) + 4) - 48) = pre s (uz (uz (RWs X R0 i) (2 * cW X i) (X (3 * (i : Int) + 4) - 48)) (2 * cW X i + 1) (X (3 * (i : Int) + 5) - 48)) (cW X i + 1) 0 := by
      rw [pre_congr (R2 := uz (uz (RWs X R0 i) (2 * cW X i) (X (3 * (i : Int) + 4) - 48)) (2 * cW X i + 1) (X (3 * (i : Int) + 5) - 48)) (fun j h1 h2 => by rw [uz_ne (by omega), uz_ne (by omega)]), pre_up c1 (by rw [uz_ne (by omega), Int.add_zero, uz_same])]
    rw [setStrength_s c1 x2]
    unfold f1_addWord
    simp (disch := omega) only [iI_add, iI_sub, iI_mul, iI_lt, iI_le, iI_eq, iI_lt0, iI_0lt, iI_le0, iI_0le, iI_eq0, iI_div, iI_rem, iI_max, iI_min, iI_abs, ib_iI, aI_get, aI_upd, iB_eq0, iB_eqi0, iB_eqi1, iB_t, iB_f, iB_ok, okB_0, okB_1, nar0, nar1, o2, o4, o6, o20, o36, o140, Option.bind_some, if_true, if_false, if_pos, if_neg, Int.reduceAdd, Int.reduceSub, Int.reduceMul, Int.reduceNeg, Int.zero_add, Int.add_zero, eK, eS]
  · obtain ⟨x1, x2, x3, x4⟩ := hb
    have n87 : ¬ X (3 * (i : Int) + 3) = 87 := by omega
    rw [cW, cT, RWs, RTs, if_neg n87, if_neg n87, if_neg n87, if_neg n87, x1]
    have eP : uz (pre P (RTs X R1 i) (cT X i) 0) (cT X i) (X (3 * (i : Int) + 4) - 48) = pre P (uz (uz (RTs X R1 i) (2 * cT X i) (X (3 * (i : Int) + 4) - 48)) (2 * cT X i + 1) (X (3 * (i : Int) + 5) - 48)) (cT X i + 1) 0 := by
      rw [pre_congr (R2 := uz (uz (RTs X R1 i) (2 * cT X i) (X (3 * (i : Int) + 4) - 48)) (2 * cT X i + 1) (X (3 * (i : Int) + 5) - 48)) (fun j h1 h2 => by rw [uz_ne (by omega), uz_ne (by omega)]), pre_up c3 (by rw [uz_ne (by omega), Int.add_zero, uz_same])]
    have eU : uz (pre U (RTs X R1 i) (cT X i) 1) (cT X i) (X (3 * (i : Int) + 5) - 48) = pre U (uz (uz (RTs X R1 i) (2 * cT X i) (X (3 * (i : Int) + 4) - 48)) (2 * cT X i + 1) (X (3 * (i : Int) + 5) - 48)) (cT X i + 1) 1 := by
      rw [pre_congr (R2 := uz (uz (RTs X R1 i) (2 * cT X i) (X (3 * (i : Int) + 4) - 48)) (2 * cT X i + 1) (X (3 * (i : Int) + 5) - 48)) (fun j h1 h2 => by rw [uz_ne (by omega), uz_ne (by omega)]), pre_up c3 (uz_same _ _ _)]
    unfold f1_addThing
    simp (disch := omega) only [iI_add, iI_sub, iI_mul, iI_lt, iI_le, iI_eq, iI_lt0, iI_0lt, iI_le0, iI_0le, iI_eq0, iI_div, iI_rem, iI_max, iI_min, iI_abs, ib_iI, aI_get, aI_upd, iB_eq0, iB_eqi0, iB_eqi1, iB_t, iB_f, iB_ok, okB_0, okB_1, nar0, nar1, o2, o4, o6, o20, o36, o140, Option.bind_some, if_true, if_false, if_pos, if_neg, Int.reduceAdd, Int.reduceSub, Int.reduceMul, Int.reduceNeg, Int.zero_add, Int.add_zero, eP, eU]
abbrev AZ : Type := Nat → Int32
abbrev KW5 : Type := Option (Int32 × AZ × AZ × AZ × Int32 × Int32 × AZ × Int32 × Int32 × Int32 × Int32 × Int32 × Int32 × AZ × Int32)
abbrev KW6 : Type := Option (Int32 × Int32 × Int32 × Int32 × Int32 × Int32 × Int32 × Int32 × AZ × AZ × AZ × AZ × AZ × AZ × AZ)
theorem L_wk {X : Int → Int} (K P U s R0 R1 : Int → Int) {n : Int} (hn : n ≤ 36) {e : Nat} (he : n = 3 * (e : Int) + 3) (hB : ∀ j : Nat, j < e → blk X j) (k : Int32 → AZ → AZ → AZ → Int32 → Int32 → AZ → KW5) : ∀ (f i N : Nat), i + f = e → f < N → l5_walk_47 k (aI X) (iI n) N (iI (3 * (i : Int) + 3)) (aI (pre K (RWs X R0 i) (cW X i) 1)) (aI (pre P (RTs X R1 i) (cT X i) 0)) (aI (pre U (RTs X R1 i) (cT X i) 1)) (iI (cW X i)) (iI (cT X i)) (aI (pre s (RWs X R0 i) (cW X i) 0)) = k (iI n) (aI (pre K (RWs X R0 e) (cW X e) 1)) (aI (pre P (RTs X R1 e) (cT X e) 0)) (aI (pre U (RTs X R1 e) (cT X e) 1)) (iI (cW X e)) (iI (cT X e)) (aI (pre s (RWs X R0 e) (cW X e) 0)) := by
  intro f
  induction f with
  | zero =>
    intro i N h1 h2
    obtain ⟨N, rfl⟩ : ∃ q, N = q + 1 := ⟨N - 1, by omega⟩
    obtain rfl : i = e := by omega
    subst he
    rw [l5_walk_47]
    simp (disch := omega) only [iI_add, iI_sub, iI_mul, iI_lt, iI_le, iI_eq, iI_lt0, iI_0lt, iI_le0, iI_0le, iI_eq0, iI_div, iI_rem, iI_max, iI_min, iI_abs, ib_iI, aI_get, aI_upd, iB_eq0, iB_eqi0, iB_eqi1, iB_t, iB_f, iB_ok, okB_0, okB_1, nar0, nar1, o2, o4, o6, o20, o36, o140, Option.bind_some, if_true, if_false, if_pos, if_neg, Int.reduceAdd, Int.reduceSub, Int.reduceMul, Int.reduceNeg, Int.zero_add, Int.add_zero]
  | succ f ih =>
    intro i N h1 h2
    obtain ⟨N, rfl⟩ : ∃ q, N = q + 1 := ⟨N - 1, by omega⟩
    have ih2 := ih (i + 1) N (by omega) (by omega)
    have e0 : 3 * (((i + 1 : Nat) : Int)) + 3 = 3 * (i : Int) + 6 := by omega
    rw [e0] at ih2
    have e4 : 3 * (i : Int) + 3 + 1 = 3 * (i : Int) + 4 := by omega
    have e5 : 3 * (i : Int) + 3 + 2 = 3 * (i : Int) + 5 := by omega
    have e6 : 3 * (i : Int) + 3 + 3 = 3 * (i : Int) + 6 := by omega
    rw [l5_walk_47, if_neg (by rw [iI_le (by omega) (by omega) (by omega) (by omega)]; omega), iI_add, iI_add, iI_add, e4, e5, e6, letterAt_s (by omega) (by omega), Option.bind_some, figureAt_s (by omega) (by omega), Option.bind_some, figureAt_s (by omega) (by omega), Option.bind_some, tell_b (hB i (by omega)) (cnt_b i (fun j hj => hB j (by omega))), Option.bind_some]
    exact ih2
/-- the reference's three loops -/
theorem L_m30 (M : Int → Int) (k : Int32 → AZ → KW6) : ∀ (f i N : Nat), i + f = 10 → f < N → l6_walk_30 k N (iI (i : Int)) (aI (pre M (fun _ => 0) (i : Int) 0)) = k (iI 10) (aI (pre M (fun _ => 0) 10 0)) := by
  intro f
  induction f with
  | zero =>
    intro i N h1 h2
    obtain ⟨N, rfl⟩ : ∃ q, N = q + 1 := ⟨N - 1, by omega⟩
    obtain rfl : i = 10 := by omega
    rw [l6_walk_30, if_pos (by decide)]
    rfl
  | succ f ih =>
    intro i N h1 h2
    obtain ⟨N, rfl⟩ : ∃ q, N = q + 1 := ⟨N - 1, by omega⟩
    have ih2 := ih (i + 1) N (by omega) (by omega)
    rw [show ((i + 1 : Nat) : Int) = (i : Int) + 1 from rfl] at ih2
    have e1 : uz (pre M (fun _ => 0) (i : Int) 0) (i : Int) 0 = pre M (fun _ => 0) ((i : Int) + 1) 0 := pre_up (by omega) rfl
    rw [l6_walk_30]
    simp (disch := omega) only [iI_add, iI_sub, iI_mul, iI_lt, iI_le, iI_eq, iI_lt0, iI_0lt, iI_le0, iI_0le, iI_eq0, iI_div, iI_rem, iI_max, iI_min, iI_abs, ib_iI, aI_get, aI_upd, iB_eq0, iB_eqi0, iB_eqi1, iB_t, iB_f, iB_ok, okB_0, okB_1, nar0, nar1, o2, o4, o6, o20, o36, o140, Option.bind_some, if_true, if_false, if_pos, if_neg, Int.reduceAdd, Int.reduceSub, Int.reduceMul, Int.reduceNeg, Int.zero_add, Int.add_zero, e1]
    exact ih2
theorem L_m51 (K M R : Int → Int) {W : Int} (hW : W ≤ 4) (k : Int32 → AZ → AZ → KW6) : ∀ (f i N : Nat), (i : Int) + (f : Int) = W → f < N → l6_walk_51 k (iI W) (aI R) N (iI (i : Int)) (aI (pre K R (i : Int) 1)) (aI (pre M R (i : Int) 0)) = k (iI W) (aI (pre K R W 1)) (aI (pre M R W 0)) := by
  intro f
  induction f with
  | zero =>
    intro i N h1 h2
    obtain ⟨N, rfl⟩ : ∃ q, N = q + 1 := ⟨N - 1, by omega⟩
    obtain rfl : (i : Int) = W := by omega
    rw [l6_walk_51]
    simp (disch := omega) only [iI_add, iI_sub, iI_mul, iI_lt, iI_le, iI_eq, iI_lt0, iI_0lt, iI_le0, iI_0le, iI_eq0, iI_div, iI_rem, iI_max, iI_min, iI_abs, ib_iI, aI_get, aI_upd, iB_eq0, iB_eqi0, iB_eqi1, iB_t, iB_f, iB_ok, okB_0, okB_1, nar0, nar1, o2, o4, o6, o20, o36, o140, Option.bind_some, if_true, if_false, if_pos, if_neg, Int.reduceAdd, Int.reduceSub, Int.reduceMul, Int.reduceNeg, Int.zero_add, Int.add_zero]
  | succ f ih =>
    intro i N h1 h2
    obtain ⟨N, rfl⟩ : ∃ q, N = q + 1 := ⟨N - 1, by omega⟩
    have ih2 := ih (i + 1) N (by omega) (by omega)
    rw [show ((i + 1 : Nat) : Int) = (i : Int) + 1 from rfl] at ih2
    have e1 : uz (pre K R (i : Int) 1) (i : Int) (R (2 * (i : Int) + 1)) = pre K R ((i : Int) + 1) 1 := pre_up (by omega) rfl
    have e2 : uz (pre M R (i : Int) 0) (i : Int) (R (2 * (i : Int))) = pre M R ((i : Int) + 1) 0 := pre_up (by omega) (by rw [Int.add_zero])
    rw [l6_walk_51]
    simp (disch := omega) only [iI_add, iI_sub, iI_mul, iI_lt, iI_le, iI_eq, iI_lt0, iI_0lt, iI_le0, iI_0le, iI_eq0, iI_div, iI_rem, iI_max, iI_min, iI_abs, ib_iI, aI_get, aI_upd, iB_eq0, iB_eqi0, iB_eqi1, iB_t, iB_f, iB_ok, okB_0, okB_1, nar0, nar1, o2, o4, o6, o20, o36, o140, Option.bind_some, if_true, if_false, if_pos, if_neg, Int.reduceAdd, Int.reduceSub, Int.reduceMul, Int.reduceNeg, Int.zero_add, Int.add_zero, ib_iI (n := 8), ib_iI (n := 4), e1, e2]
    exact ih2
theorem L_m97 (P U R : Int → Int) {T : Int} (hT : T ≤ 4) (k : Int32 → AZ → AZ → KW6) : ∀ (f i N : Nat), (i : Int) + (f : Int) = T → f < N → l6_walk_97 k (iI T) (aI R) N (iI (i : Int)) (aI (pre P R (i : Int) 0)) (aI (pre U R (i : Int) 1)) = k (iI T) (aI (pre P R T 0)) (aI (pre U R T 1)) := by
  intro f
  induction f with
  | zero =>
    intro i N h1 h2
    obtain ⟨N, rfl⟩ : ∃ q, N = q + 1 := ⟨N - 1, by omega⟩
    obtain rfl : (i : Int) = T := by omega
    rw [l6_walk_97]
    simp (disch := omega) only [iI_add, iI_sub, iI_mul, iI_lt, iI_le, iI_eq, iI_lt0, iI_0lt, iI_le0, iI_0le, iI_eq0, iI_div, iI_rem, iI_max, iI_min, iI_abs, ib_iI, aI_get, aI_upd, iB_eq0, iB_eqi0, iB_eqi1, iB_t, iB_f, iB_ok, okB_0, okB_1, nar0, nar1, o2, o4, o6, o20, o36, o140, Option.bind_some, if_true, if_false, if_pos, if_neg, Int.reduceAdd, Int.reduceSub, Int.reduceMul, Int.reduceNeg, Int.zero_add, Int.add_zero]
  | succ f ih =>
    intro i N h1 h2
    obtain ⟨N, rfl⟩ : ∃ q, N = q + 1 := ⟨N - 1, by omega⟩
    have ih2 := ih (i + 1) N (by omega) (by omega)
    rw [show ((i + 1 : Nat) : Int) = (i : Int) + 1 from rfl] at ih2
    have e1 : uz (pre P R (i : Int) 0) (i : Int) (R (2 * (i : Int))) = pre P R ((i : Int) + 1) 0 := pre_up (by omega) (by rw [Int.add_zero])
    have e2 : uz (pre U R (i : Int) 1) (i : Int) (R (2 * (i : Int) + 1)) = pre U R ((i : Int) + 1) 1 := pre_up (by omega) rfl
    rw [l6_walk_97]
    simp (disch := omega) only [iI_add, iI_sub, iI_mul, iI_lt, iI_le, iI_eq, iI_lt0, iI_0lt, iI_le0, iI_0le, iI_eq0, iI_div, iI_rem, iI_max, iI_min, iI_abs, ib_iI, aI_get, aI_upd, iB_eq0, iB_eqi0, iB_eqi1, iB_t, iB_f, iB_ok, okB_0, okB_1, nar0, nar1, o2, o4, o6, o20, o36, o140, Option.bind_some, if_true, if_false, if_pos, if_neg, Int.reduceAdd, Int.reduceSub, Int.reduceMul, Int.reduceNeg, Int.zero_add, Int.add_zero, e1, e2]
    exact ih2
