/-! share: both sides -/
theorem L_r16 {K P U M : Int → Int} {W : Nat} {T : Int} {d : DZ} (h : CX K P U (W : Int) T d M) {S y : Int} (hS1 : 0 ≤ S) (hS2 : S < 16) (hy1 : 0 ≤ y) (hy2 : y ≤ 9) (k : Int32 → Int32 → Option Int32) : ∀ (c : Nat) (w : Int) (N : Nat) (b : Bool), w + (c : Int) = (W : Int) → 0 ≤ w → c < N → l6_reached_16 k (iI S) (iI y) (iI (W : Int)) (iI T) (aI K) (aI P) (aI U) (aI M) N (iB b) (iI w) = k (iB (hitF (fun w => br K P U T (dS d) (dH d) w y) S c w b)) (iI (W : Int)) := by
  have hW4 := h.1.2.1
  have eT : ¬ (iB true = 0) := by decide
  have eF : iB false = 0 := by decide
  intro c
  induction c with
  | zero =>
    intro w N b h1 h2 h3
    obtain ⟨N, rfl⟩ : ∃ q, N = q + 1 := ⟨N - 1, by omega⟩
    obtain rfl : w = (W : Int) := by omega
    rw [l6_reached_16, if_pos (by rw [iI_le (by omega) (by omega) (by omega) (by omega)]; omega), hitF]
  | succ c ih =>
    intro w N b h1 h2 h3
    obtain ⟨N, rfl⟩ : ∃ q, N = q + 1 := ⟨N - 1, by omega⟩
    have it := ih (w + 1) N true (by omega) (by omega) (by omega)
    have if_ := ih (w + 1) N false (by omega) (by omega) (by omega)
    rw [iB_t] at it
    rw [iB_f] at if_
    rw [l6_reached_16, if_neg (by rw [iI_le (by omega) (by omega) (by omega) (by omega)]; omega), iI_add, it, if_, hitF]
    cases b with
    | true => rw [if_neg eT, Bool.true_or]
    | false =>
      rw [if_pos eF, Bool.false_or, has_s hS1 hS2 h2 (by omega), Option.bind_some, cnow h h2 (by omega) hy1 hy2, Option.bind_some]
      rcases bt_01 S w with hb | hb
      · rw [hb, if_pos (by decide), decide_eq_false (by decide), Bool.false_and]
      · rw [hb, if_neg (by decide), decide_eq_true (by decide), Bool.true_and]
        cases br K P U T (dS d) (dH d) w y with
        | true => rw [if_neg eT]
        | false => rw [if_pos eF]
theorem L_r4 {K P U M : Int → Int} {W : Nat} {T : Int} {d : DZ} (h : CX K P U (W : Int) T d M) {S : Int} (hS1 : 0 ≤ S) (hS2 : S < 16) (k : Int32 → Int32 → Option Int32) : ∀ (c : Nat) (y a : Int) (N : Nat), y + (c : Int) = 10 → 0 ≤ y → c < N → l6_reached_4 k (iI S) (iI (W : Int)) (iI T) (aI K) (aI P) (aI U) (aI M) N (iI a) (iI y) = k (iI (a + rcF (fun y w => br K P U T (dS d) (dH d) w y) W S c y)) (iI 10) := by
  have hW4 := h.1.2.1
  have eT : ¬ (iB true = 0) := by decide
  have eF : iB false = 0 := by decide
  intro c
  induction c with
  | zero =>
    intro y a N h1 h2 h3
    obtain ⟨N, rfl⟩ : ∃ q, N = q + 1 := ⟨N - 1, by omega⟩
    obtain rfl : y = 10 := by omega
    rw [l6_reached_4, if_pos (by decide), rcF, Int.add_zero]
  | succ c ih =>
    intro y a N h1 h2 h3
    obtain ⟨N, rfl⟩ : ∃ q, N = q + 1 := ⟨N - 1, by omega⟩
    have ih2 := fun a => ih (y + 1) a N (by omega) (by omega) (by omega)
    have e16 := fun k => L_r16 h hS1 hS2 h2 (by omega) k W 0 FU false (by omega) (by decide) (by unfold FU; omega)
    rw [iB_f] at e16
    rw [l6_reached_4, if_neg (by rw [iI_le (by decide) (by decide) (by omega) (by omega)]; omega), e16, iI_add, iI_add, iI_add, ih2, ih2, rcF, ← Int.add_assoc]
    unfold hI
    show (if iB (hitF (fun w => br K P U T (dS d) (dH d) w y) S W 0 false) = 0 then _ else _) = k (iI (a + (if hitF (fun w => br K P U T (dS d) (dH d) w y) S W 0 false = true then 1 else 0) + _)) _
    cases hitF (fun w => br K P U T (dS d) (dH d) w y) S W 0 false with
    | true =>
      rw [if_neg eT, if_pos rfl]
    | false => rw [if_pos eF, if_neg (by decide)]
theorem reached_s {K P U M : Int → Int} {W : Nat} {T : Int} {d : DZ} (h : CX K P U (W : Int) T d M) {S : Int} (hS1 : 0 ≤ S) (hS2 : S < 16) : f6_reached (iI S) (iI (W : Int)) (iI T) (aI K) (aI P) (aI U) (aI M) = some (iI (rcF (fun y w => br K P U T (dS d) (dH d) w y) W S 10 0)) := by
  unfold f6_reached
  rw [L_r4 h hS1 hS2 (fun v2 v3 => some v2) 10 0 0 FU (by decide) (by decide) (by unfold FU; omega), Int.zero_add]
theorem L_sh6 {K P U M : Int → Int} {W : Nat} {T w : Int} {d : DZ} (h : CX K P U (W : Int) T d M) (hw1 : 0 ≤ w) (hw2 : w < (W : Int)) (k : Int32 → Int32 → Option Int32) : ∀ (c : Nat) (s a : Int) (N : Nat), s + (c : Int) = ((2 ^ W : Nat) : Int) → 0 ≤ s → c < N → l6_share_15 k (iI w) (iI (W : Int)) (iI T) (aI K) (aI P) (aI U) (aI M) N (iI a) (iI s) = k (iI (a + sumS (tmF (fun y w => br K P U T (dS d) (dH d) w y) W w 10 0) c s)) (iI ((2 ^ W : Nat) : Int)) := by
  have hW4 : W ≤ 4 := by have := h.1.2.1; omega
  obtain ⟨t1, t2, t3⟩ := p2_b hW4
  intro c
  induction c with
  | zero =>
    intro s a N h1 h2 h3
    obtain ⟨N, rfl⟩ : ∃ q, N = q + 1 := ⟨N - 1, by omega⟩
    obtain rfl : s = ((2 ^ W : Nat) : Int) := by omega
    rw [l6_share_15, t3, if_pos (by rw [iI_le (by omega) (by omega) (by omega) (by omega)]; omega), sumS, Int.add_zero]
  | succ c ih =>
    intro s a N h1 h2 h3
    obtain ⟨N, rfl⟩ : ∃ q, N = q + 1 := ⟨N - 1, by omega⟩
    have ih2 := fun a => ih (s + 1) a N (by omega) (by omega) (by omega)
    obtain ⟨o1, o2, o3⟩ := orw_s h2 (show s < 16 by omega) hw1 (show w < 4 by omega)
    rw [l6_share_15, t3, if_neg (by rw [iI_le (by omega) (by omega) (by omega) (by omega)]; omega), has_s h2 (by omega) hw1 (by omega), Option.bind_some, sumS, ← Int.add_assoc]
    unfold tmF
    rcases bt_01 s w with hb | hb
    · obtain ⟨n, rfl⟩ := Int.eq_ofNat_of_zero_le h2
      obtain ⟨m, rfl⟩ := Int.eq_ofNat_of_zero_le hw1
      obtain ⟨l1, l2, l3, l4⟩ := left_t ⟨W, by omega⟩ ⟨m, by omega⟩ ⟨n, by omega⟩ (by show m < W; omega) (by show n < 2 ^ W; omega) hb
      have l1' : 0 ≤ (W : Int) - 1 - onesI (n : Int) := l1
      have l2' : (W : Int) - 1 - onesI (n : Int) ≤ 4 := l2
      have l3' : 0 ≤ onesI (n : Int) := l3
      have l4' : onesI (n : Int) ≤ 4 := l4
      rw [hb, if_pos (by decide), if_neg (by decide), ones_s h2 (by omega), Option.bind_some, fact_s l3' l4', Option.bind_some, Option.bind_some, iI_sub, iI_sub, fact_s l1' l2', Option.bind_some, o1, reached_s h o2 o3, Option.bind_some, reached_s h h2 (by omega), Option.bind_some, iI_mul, iI_sub, iI_mul, iI_add, iI_add, ih2]
      rfl
    · rw [hb, if_neg (by decide), if_pos rfl, iI_add, ih2, Int.add_zero]
      rfl
theorem L_wb {K P U M : Int → Int} {W : Nat} {T : Int} {d : DZ} (h : CX K P U (W : Int) T d M) {y : Int} (hy1 : 0 ≤ y) (hy2 : y ≤ 9) : ∀ (c : Nat) (w a : Int) (N : Nat), w + (c : Int) = (W : Int) → 0 ≤ w → c < N → l5_wordsThatBring_4 (fun v2 v3 => some v2) (iI y) (aI K) (aI P) (aI U) (iI (W : Int)) (iI T) (aI (dS d)) (iI (dH d)) N (iI a) (iI w) = some (iI (a + cntF (fun w => br K P U T (dS d) (dH d) w y) c w)) := by
  have hW4 := h.1.2.1
  have eT : ¬ (iB true = 0) := by decide
  have eF : iB false = 0 := by decide
  intro c
  induction c with
  | zero =>
    intro w a N h1 h2 h3
    obtain ⟨N, rfl⟩ : ∃ q, N = q + 1 := ⟨N - 1, by omega⟩
    obtain rfl : w = (W : Int) := by omega
    rw [l5_wordsThatBring_4, if_pos (by rw [iI_le (by omega) (by omega) (by omega) (by omega)]; omega), cntF, Int.add_zero]
  | succ c ih =>
    intro w a N h1 h2 h3
    obtain ⟨N, rfl⟩ : ∃ q, N = q + 1 := ⟨N - 1, by omega⟩
    have ih2 := fun a => ih (w + 1) a N (by omega) (by omega) (by omega)
    rw [l5_wordsThatBring_4, if_neg (by rw [iI_le (by omega) (by omega) (by omega) (by omega)]; omega), cbr h h2 (by omega) hy1 hy2, Option.bind_some, iI_add, iI_add, ih2, ih2, cntF, ← Int.add_assoc]
    show _ = some (iI (a + (if br K P U T (dS d) (dH d) w y = true then 1 else 0) + _))
    cases br K P U T (dS d) (dH d) w y with
    | true => rw [if_neg eT, if_pos rfl]
    | false => rw [if_pos eF, if_neg (by decide), Int.add_zero]
theorem cntF_b (f : Int → Bool) : ∀ (c : Nat) (w : Int), 0 ≤ cntF f c w ∧ cntF f c w ≤ (c : Int) := by
  intro c
  induction c with
  | zero => intro w; exact ⟨Int.le_refl _, Int.le_refl _⟩
  | succ c ih =>
    intro w
    have := ih (w + 1)
    rw [cntF]
    split <;> omega
theorem L_sh5 {K P U M : Int → Int} {W : Nat} {T w : Int} {d : DZ} (h : CX K P U (W : Int) T d M) (hw1 : 0 ≤ w) (hw2 : w < (W : Int)) (k : Int32 → Int32 → Option Int32) : ∀ (c : Nat) (y a : Int) (N : Nat), y + (c : Int) = 10 → 0 ≤ y → c < N → l5_share_18 k (iI w) (aI K) (aI P) (aI U) (iI (W : Int)) (iI T) (aI (dS d)) (iI (dH d)) N (iI a) (iI y) = k (iI (a + twF (fun y w => br K P U T (dS d) (dH d) w y) W w c y)) (iI 10) := by
  have hW4 := h.1.2.1
  have eT : ¬ (iB true = 0) := by decide
  have eF : iB false = 0 := by decide
  intro c
  induction c with
  | zero =>
    intro y a N h1 h2 h3
    obtain ⟨N, rfl⟩ : ∃ q, N = q + 1 := ⟨N - 1, by omega⟩
    obtain rfl : y = 10 := by omega
    rw [l5_share_18, if_pos (by decide), twF, Int.add_zero]
  | succ c ih =>
    intro y a N h1 h2 h3
    obtain ⟨N, rfl⟩ : ∃ q, N = q + 1 := ⟨N - 1, by omega⟩
    have ih2 := fun a => ih (y + 1) a N (by omega) (by omega) (by omega)
    have hb := cntF_b (fun w => br K P U T (dS d) (dH d) w y) W 0
    rw [l5_share_18, if_neg (by rw [iI_lt (by decide) (by decide) (by omega) (by omega)]; omega), twF, ← Int.add_assoc]
    unfold f5_wordsThatBring
    rw [L_wb h h2 (by omega) W 0 0 FU (by omega) (by decide) (by unfold FU; omega), Option.bind_some, Int.zero_add, cbr h hw1 hw2 h2 (by omega), Option.bind_some, iI_add]
    unfold gW
    show _ = k (iI (a + (if cntF (fun w => br K P U T (dS d) (dH d) w y) W 0 ≤ 0 then 0 else if br K P U T (dS d) (dH d) w y = true then 12 / cntF (fun w => br K P U T (dS d) (dH d) w y) W 0 else 0) + _)) _
    generalize cntF (fun w => br K P U T (dS d) (dH d) w y) W 0 = q at *
    by_cases c1 : q ≤ 0
    · rw [if_pos (by rw [iI_le0 (by omega) (by omega)]; exact c1), if_pos c1, ih2, Int.add_zero]
    · have hz : ¬ (iI q = 0) := by rw [iI_eq0 (by omega) (by omega)]; omega
      rw [if_neg (by rw [iI_le0 (by omega) (by omega)]; exact c1), if_neg c1, if_neg hz, iI_div (by decide) (by decide) (by omega) (by omega), iI_add, ih2, ih2]
      cases br K P U T (dS d) (dH d) w y with
      | true => rw [if_neg eT, if_pos rfl]
      | false => rw [if_pos eF, if_neg (by decide), Int.add_zero]
theorem factI_b (z : Int) : 1 ≤ factI z ∧ factI z ≤ 24 := by
  unfold factI
  repeat' split
  all_goals omega
theorem op_share {K P U M : Int → Int} {W T : Int} {d : DZ} (h : CX K P U W T d M) (v1 v2 : Int32) : Same (f5_share v1 v2 (aI K) (aI P) (aI U) (iI W) (iI T) (aI (dS d)) (iI (dH d))) (f6_share v1 v2 (iI W) (iI T) (aI K) (aI P) (aI U) (aI M)) := by
  obtain ⟨w, a1, a2, rfl⟩ := iI_of v1
  have hW := h.1.1
  have hW2 := h.1.2.1
  have eT : ¬ (iB true = 0) := by decide
  have eF : iB false = 0 := by decide
  unfold f5_share f6_share
  rw [hasWord_s a1 a2 hW hW2, isWord_s a1 a2 hW hW2]
  by_cases cw : 0 ≤ w ∧ w < W
  · rw [decide_eq_true cw]
    obtain ⟨W, rfl⟩ := Int.eq_ofNat_of_zero_le hW
    obtain ⟨t1, t2, t3⟩ := p2_b (show W ≤ 4 by omega)
    obtain ⟨s1, s2, s3⟩ := share_eq (fun y w => br K P U T (dS d) (dH d) w y) (show W ≤ 4 by omega) cw.1 cw.2 10 0
    have k5 := fun k => L_sh5 h cw.1 cw.2 k 10 0 0 FU (by decide) (by decide) (by unfold FU; omega)
    have k6 := fun k => L_sh6 h cw.1 cw.2 k (2 ^ W) 0 0 FU (by omega) (by decide) (by unfold FU; omega)
    have fb := factI_b (W : Int)
    generalize twF (fun y w => br K P U T (dS d) (dH d) w y) W w 10 0 = t at *
    generalize sumS (tmF (fun y w => br K P U T (dS d) (dH d) w y) W w 10 0) (2 ^ W) 0 = q at *
    obtain ⟨t, rfl⟩ := Int.eq_ofNat_of_zero_le s2
    obtain ⟨f, hf⟩ := Int.eq_ofNat_of_zero_le (show 0 ≤ factI (W : Int) by omega)
    have hft : (factI (W : Int)).toNat = f := by omega
    have hnn : 0 ≤ (t : Int) * factI (W : Int) := Int.mul_nonneg s2 (by omega)
    have hq0 : 0 ≤ q := by omega
    obtain ⟨q, rfl⟩ := Int.eq_ofNat_of_zero_le hq0
    have hqn : q * 12 = t * f := by
      rw [hf, ← Int.natCast_mul] at s1
      omega
    have hqd : t * f / 12 = q := by omega
    have ft := frac_t ⟨W, by omega⟩ ⟨t, by omega⟩ (by show 1 ≤ W; omega)
    have ft2 : q / Nat.gcd q f = t / Nat.gcd t 12 ∧ f / Nat.gcd q f = 12 / Nat.gcd t 12 := by
      have ft3 := ft (by show t * (factI (W : Int)).toNat / 12 * 12 = t * (factI (W : Int)).toNat; rw [hft]; omega)
      have ft4 : t * (factI (W : Int)).toNat / 12 / Nat.gcd (t * (factI (W : Int)).toNat / 12) (factI (W : Int)).toNat = t / Nat.gcd t 12 ∧ (factI (W : Int)).toNat / Nat.gcd (t * (factI (W : Int)).toNat / 12) (factI (W : Int)).toNat = 12 / Nat.gcd t 12 := ft3
      rw [hft, hqd] at ft4
      exact ft4
    have hq2 : q ≤ 1000000 := by
      have : t * f ≤ 120 * 24 := Nat.mul_le_mul (by omega) (by omega)
      omega
    have hg1 : 0 < Nat.gcd q f := Nat.gcd_pos_of_pos_right q (by omega)
    have hg2 : Nat.gcd q f ≤ f := Nat.gcd_le_right q (by omega)
    have hz : ¬ (iI (Nat.gcd q f : Int) = 0) := by rw [iI_eq0 (by omega) (by omega)]; omega
    refine ⟨if v2 = 0 then iI ((12 / Nat.gcd t 12 : Nat) : Int) else iI ((t / Nat.gcd t 12 : Nat) : Int), ?_, ?_⟩
    · rw [Option.bind_some, if_neg eT, k5, Int.zero_add, show (iI 12) = iI ((12 : Nat) : Int) from rfl, fraction_s (by omega) (by decide) (by decide), Option.bind_some]
    · rw [Option.bind_some, if_neg eT, k6, Int.zero_add, fact_s (by omega) (by omega), Option.bind_some, hf, cm6 hq2 (by omega), Option.bind_some, Option.bind_some, if_neg hz, if_neg hz, iI_div (by omega) (by omega) (by omega) (by omega), iI_div (by omega) (by omega) (by omega) (by omega), ← Int.natCast_ediv, ← Int.natCast_ediv, ft2.1, ft2.2]
      by_cases c : v2 = 0
      · rw [if_pos c, if_pos c]
      · rw [if_neg c, if_neg c]
  · rw [decide_eq_false cw]
    refine ⟨iI (-1), ?_, ?_⟩
    · rw [Option.bind_some, if_pos eF]
    · rw [Option.bind_some, if_pos eF]
