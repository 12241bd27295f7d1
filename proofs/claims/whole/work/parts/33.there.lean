/-! greatest divisors -/
def gcdF : Nat → Nat → Nat → Nat
  | 0, a, _ => a
  | f + 1, a, b => if b = 0 then a else gcdF f b (a % b)
theorem gcd_le : ∀ (f a b : Nat), b ≤ a → a * b < 2 ^ f → gcdF f a b = Nat.gcd a b := by
  intro f
  induction f with
  | zero =>
    intro a b h1 h2
    have hb : b = 0 := by
      by_cases c : b = 0
      · exact c
      · have := Nat.mul_pos (show 0 < a by omega) (show 0 < b by omega)
        omega
    rw [hb, gcdF, Nat.gcd_zero_right]
  | succ f ih =>
    intro a b h1 h2
    rw [gcdF]
    by_cases c : b = 0
    · rw [if_pos c, c, Nat.gcd_zero_right]
    · rw [if_neg c]
      have hb : 0 < b := by omega
      have hm := Nat.mod_lt a hb
      have hq : a % b * 2 ≤ a := by
        have e := Nat.div_add_mod a b
        have h3 : 1 ≤ a / b := (Nat.one_le_div_iff hb).mpr h1
        have h4 : b * 1 ≤ b * (a / b) := Nat.mul_le_mul_left b h3
        omega
      have hm2 : b * (a % b * 2) ≤ b * a := Nat.mul_le_mul_left b hq
      rw [← Nat.mul_assoc, Nat.mul_comm b a] at hm2
      rw [ih b (a % b) (by omega) (by rw [Nat.pow_succ] at h2; omega), Nat.gcd_comm b, ← Nat.gcd_rec, Nat.gcd_comm]
theorem gcdF_s {f a b : Nat} (hf : 29 ≤ f) (hb : b ≤ 10000) : gcdF f a b = Nat.gcd a b := by
  obtain ⟨f, rfl⟩ : ∃ q, f = q + 1 := ⟨f - 1, by omega⟩
  rw [gcdF]
  by_cases c : b = 0
  · rw [if_pos c, c, Nat.gcd_zero_right]
  · rw [if_neg c]
    have hb0 : 0 < b := by omega
    have hm := Nat.mod_lt a hb0
    have h1 : b * (a % b) ≤ 10000 * 10000 := Nat.mul_le_mul hb (by omega)
    have h2 : 2 ^ 28 ≤ 2 ^ f := Nat.pow_le_pow_right (by decide) (by omega)
    rw [gcd_le f b (a % b) (by omega) (by omega), Nat.gcd_comm b, ← Nat.gcd_rec, Nat.gcd_comm]
theorem L_gd {k : Int32 → Int32 → Int32 → Option Int32} (hk : ∀ a b c d e, k a b c = k a d e) : ∀ (f j N a b : Nat), j + f = 64 → f < N → a ≤ 1000000 → b ≤ 1000000 → l5_greatestDivisor_7 k N (iI (a : Int)) (iI (b : Int)) (iI (j : Int)) = k (iI (gcdF f a b : Int)) 0 0 := by
  intro f
  induction f with
  | zero =>
    intro j N a b h1 h2 h3 h4
    obtain ⟨N, rfl⟩ : ∃ q, N = q + 1 := ⟨N - 1, by omega⟩
    obtain rfl : j = 64 := by omega
    rw [l5_greatestDivisor_7, if_pos (by decide), gcdF]
    exact hk _ _ _ _ _
  | succ f ih =>
    intro j N a b h1 h2 h3 h4
    obtain ⟨N, rfl⟩ : ∃ q, N = q + 1 := ⟨N - 1, by omega⟩
    have hj : ¬ (iI 64 ≤ iI (j : Int)) := by rw [iI_le (by decide) (by decide) (by omega) (by omega)]; omega
    rw [l5_greatestDivisor_7, if_neg hj, gcdF]
    by_cases c : b = 0
    · rw [if_pos (by rw [c]; decide), if_pos c]
      exact hk _ _ _ _ _
    · have hz : ¬ (iI (b : Int) = 0) := by rw [iI_eq0 (by omega) (by omega)]; omega
      have hm := Nat.mod_lt a (show 0 < b by omega)
      have ih2 := ih (j + 1) N b (a % b) (by omega) (by omega) (by omega) (by omega)
      rw [show ((j + 1 : Nat) : Int) = (j : Int) + 1 from rfl, Int.natCast_emod] at ih2
      rw [if_neg hz, if_neg hz, if_neg c, iI_rem (by omega) (by omega) (by omega) (by omega), iI_add]
      exact ih2
theorem gd5 {a b : Nat} (ha : a ≤ 1000000) (hb : b ≤ 10000) : f5_greatestDivisor (iI (a : Int)) (iI (b : Int)) = some (iI (Nat.gcd a b : Int)) := by
  unfold f5_greatestDivisor
  have h := L_gd (k := fun v2 v3 v4 => some v2) (fun _ _ _ _ _ => rfl) 64 0 FU a b (by omega) (by unfold FU; omega) ha (by omega)
  rw [gcdF_s (by decide) hb] at h
  exact h
theorem L_cm {k : Int32 → Int32 → Option Int32} (hk : ∀ a b d, k a b = k a d) : ∀ (f N a b : Nat), a * b < 2 ^ f → b ≤ a → f + 1 < N → a ≤ 1000000 → l6_common_13 k N (iI (a : Int)) (iI (b : Int)) = k (iI (Nat.gcd a b : Int)) 0 := by
  intro f
  induction f with
  | zero =>
    intro N a b h1 h2 h3 h4
    obtain ⟨N, rfl⟩ : ∃ q, N = q + 1 := ⟨N - 1, by omega⟩
    have hb : b = 0 := by
      by_cases c : b = 0
      · exact c
      · have := Nat.mul_pos (show 0 < a by omega) (show 0 < b by omega)
        omega
    rw [hb, l6_common_13, if_pos (by decide), Nat.gcd_zero_right]
    exact hk _ _ _
  | succ f ih =>
    intro N a b h1 h2 h3 h4
    obtain ⟨N, rfl⟩ : ∃ q, N = q + 1 := ⟨N - 1, by omega⟩
    rw [l6_common_13]
    by_cases c : b = 0
    · rw [if_pos (by rw [c]; decide), c, Nat.gcd_zero_right]
      exact hk _ _ _
    · have hb : 0 < b := by omega
      have hm := Nat.mod_lt a hb
      have hq : a % b * 2 ≤ a := by
        have e := Nat.div_add_mod a b
        have h3 : 1 ≤ a / b := (Nat.one_le_div_iff hb).mpr h2
        have h4 : b * 1 ≤ b * (a / b) := Nat.mul_le_mul_left b h3
        omega
      have hm2 : b * (a % b * 2) ≤ b * a := Nat.mul_le_mul_left b hq
      rw [← Nat.mul_assoc, Nat.mul_comm b a] at hm2
      have hz : ¬ (iI (b : Int) = 0) := by rw [iI_eq0 (by omega) (by omega)]; omega
      have ih2 := ih N b (a % b) (by rw [Nat.pow_succ] at h1; omega) (by omega) (by omega) (by omega)
      rw [Int.natCast_emod, Nat.gcd_comm b, ← Nat.gcd_rec, Nat.gcd_comm b a] at ih2
      rw [if_neg hz, if_neg hz, iI_rem (by omega) (by omega) (by omega) (by omega)]
      exact ih2
theorem cm6 {a b : Nat} (ha : a ≤ 1000000) (hb : b ≤ 10000) : f6_common (iI (a : Int)) (iI (b : Int)) = some (iI (Nat.gcd a b : Int)) := by
  unfold f6_common
  rw [if_pos (by rw [iI_0le (by omega) (by omega)]; omega), show FU = 19999 + 1 from rfl, l6_common_13]
  by_cases c : b = 0
  · rw [if_pos (by rw [c]; decide), c, Nat.gcd_zero_right]
  · have hb0 : 0 < b := by omega
    have hm := Nat.mod_lt a hb0
    have hz : ¬ (iI (b : Int) = 0) := by rw [iI_eq0 (by omega) (by omega)]; omega
    have h1 : b * (a % b) ≤ 10000 * 10000 := Nat.mul_le_mul hb (by omega)
    have ih2 := L_cm (k := fun v2 v3 => some v2) (fun _ _ _ => rfl) 28 19999 b (a % b) (by omega) (by omega) (by decide) (by omega)
    rw [Int.natCast_emod, Nat.gcd_comm b, ← Nat.gcd_rec, Nat.gcd_comm b a] at ih2
    rw [if_neg hz, if_neg hz, iI_rem (by omega) (by omega) (by omega) (by omega)]
    exact ih2
/-! there -/
def wtF (x s : Int) : Nat → Int → Int → Int
  | 0, _, a => a
  | c + 1, t, a => wtF x s c (t + 1) (if bt s t = 1 then a * x else a * (10 - x))
def wt (x s : Int) (T : Nat) : Int := wtF x s T 0 1
theorem wtF_0 {x s : Int} (h1 : 0 ≤ x) (h2 : x ≤ 10) : ∀ (c : Nat) (t a : Int), 0 ≤ a → 0 ≤ wtF x s c t a := by
  intro c
  induction c with
  | zero => intro t a h; exact h
  | succ c ih =>
    intro t a h
    rw [wtF]
    apply ih
    split
    · exact Int.mul_nonneg h h1
    · exact Int.mul_nonneg h (by omega)
def sE (e : Int → Bool) (x : Int) (T : Nat) : Nat → Int → Int
  | 0, _ => 0
  | c + 1, s => (if e s = true then wt x s T else 0) + sE e x T c (s + 1)
theorem sE_b {x : Int} (h1 : 0 ≤ x) (h2 : x ≤ 10) (e : Int → Bool) (T : Nat) : ∀ (c : Nat) (s : Int), 0 ≤ sE e x T c s ∧ sE e x T c s ≤ sE (fun _ => true) x T c s := by
  intro c
  induction c with
  | zero => intro s; exact ⟨Int.le_refl _, Int.le_refl _⟩
  | succ c ih =>
    intro s
    have hw := wtF_0 (s := s) h1 h2 T 0 1 (by decide)
    have := ih (s + 1)
    rw [sE, sE]
    show 0 ≤ (if e s = true then wt x s T else 0) + sE e x T c (s + 1) ∧ (if e s = true then wt x s T else 0) + sE e x T c (s + 1) ≤ wt x s T + sE (fun _ => true) x T c (s + 1)
    have hw2 : 0 ≤ wt x s T := hw
    split <;> omega
theorem sum_w : ∀ x : Fin 11, ∀ T : Fin 5, sE (fun _ => true) ((x.val : Nat) : Int) T.val (2 ^ T.val) 0 = ((10 ^ T.val : Nat) : Int) := by decide +kernel
theorem sum_x {x : Int} {T : Nat} (h1 : 0 ≤ x) (h2 : x ≤ 10) (hT : T ≤ 4) : sE (fun _ => true) x T (2 ^ T) 0 = ((10 ^ T : Nat) : Int) := by
  obtain ⟨n, rfl⟩ := Int.eq_ofNat_of_zero_le h1
  exact sum_w ⟨n, by omega⟩ ⟨T, by omega⟩
theorem p2_b {T : Nat} (hT : T ≤ 4) : 1 ≤ 2 ^ T ∧ 2 ^ T ≤ 16 ∧ (iI 1) <<< (iI (T : Int) &&& 31) = iI ((2 ^ T : Nat) : Int) := by
  have : ∀ q : Fin 5, 1 ≤ 2 ^ q.val ∧ 2 ^ q.val ≤ 16 ∧ (iI 1) <<< (iI ((q.val : Nat) : Int) &&& 31) = iI ((2 ^ q.val : Nat) : Int) := by decide
  exact this ⟨T, by omega⟩
theorem L_wt5 {x s : Int} {T : Nat} (hT : T ≤ 4) (hs1 : 0 ≤ s) (hs2 : s < 16) (k : Int32 → Int32 → Option Int32) : ∀ (c : Nat) (t a : Int) (N : Nat), t + (c : Int) = (T : Int) → 0 ≤ t → c < N → l5_weightOf_5 k (iI s) (iI x) (iI (T : Int)) N (iI a) (iI t) = k (iI (wtF x s c t a)) (iI (T : Int)) := by
  intro c
  induction c with
  | zero =>
    intro t a N h1 h2 h3
    obtain ⟨N, rfl⟩ : ∃ q, N = q + 1 := ⟨N - 1, by omega⟩
    obtain rfl : t = (T : Int) := by omega
    rw [l5_weightOf_5, if_pos (by rw [iI_le (by omega) (by omega) (by omega) (by omega)]; omega), wtF]
  | succ c ih =>
    intro t a N h1 h2 h3
    obtain ⟨N, rfl⟩ : ∃ q, N = q + 1 := ⟨N - 1, by omega⟩
    have ih2 := fun a => ih (t + 1) a N (by omega) (by omega) (by omega)
    rw [l5_weightOf_5, if_neg (by rw [iI_le (by omega) (by omega) (by omega) (by omega)]; omega), sh_bt hs1 hs2 h2 (by omega), iI_sub, iI_mul, iI_mul, iI_add, ih2, ih2, wtF]
    rcases bt_01 s t with hb | hb
    · rw [hb, if_neg (by decide), if_neg (by decide)]
    · rw [hb, if_pos rfl, if_pos rfl]
theorem L_wt6 {x s : Int} {T : Nat} (hT : T ≤ 4) (hs1 : 0 ≤ s) (hs2 : s < 16) (k : Int32 → Int32 → Option Int32) : ∀ (c : Nat) (t a : Int) (N : Nat), t + (c : Int) = (T : Int) → 0 ≤ t → c < N → l6_there_51 k (iI x) (iI s) (iI (T : Int)) N (iI a) (iI t) = k (iI (wtF x s c t a)) (iI (T : Int)) := by
  intro c
  induction c with
  | zero =>
    intro t a N h1 h2 h3
    obtain ⟨N, rfl⟩ : ∃ q, N = q + 1 := ⟨N - 1, by omega⟩
    obtain rfl : t = (T : Int) := by omega
    rw [l6_there_51, if_pos (by rw [iI_le (by omega) (by omega) (by omega) (by omega)]; omega), wtF]
  | succ c ih =>
    intro t a N h1 h2 h3
    obtain ⟨N, rfl⟩ : ∃ q, N = q + 1 := ⟨N - 1, by omega⟩
    have ih2 := fun a => ih (t + 1) a N (by omega) (by omega) (by omega)
    rw [l6_there_51, if_neg (by rw [iI_le (by omega) (by omega) (by omega) (by omega)]; omega), has_s hs1 hs2 h2 (by omega), Option.bind_some, iI_sub, iI_mul, iI_mul, iI_add, ih2, ih2, wtF]
    rcases bt_01 s t with hb | hb
    · rw [hb, if_pos (by decide), if_neg (by decide)]
    · rw [hb, if_neg (by decide), if_pos rfl]
theorem L_th5 {P U : Int → Int} {T : Nat} {p y x : Int} (hF : FOK P U (T : Int)) (hp1 : -200 ≤ p) (hp2 : p ≤ 200) (hy1 : 0 ≤ y) (hy2 : y ≤ 9) (k : Int32 → Int32 → Option Int32) : ∀ (c : Nat) (s a : Int) (N : Nat), s + (c : Int) = ((2 ^ T : Nat) : Int) → 0 ≤ s → c < N → l5_there_53 k (iI x) (iI p) (aI P) (aI U) (iI (T : Int)) (iI y) N (iI a) (iI s) = k (iI (a + sE (fun s => en P U (T : Int) p y s) x T c s)) (iI ((2 ^ T : Nat) : Int)) := by
  have hT : T ≤ 4 := by have := hF.2.1; omega
  obtain ⟨t1, t2, t3⟩ := p2_b hT
  intro c
  induction c with
  | zero =>
    intro s a N h1 h2 h3
    obtain ⟨N, rfl⟩ : ∃ q, N = q + 1 := ⟨N - 1, by omega⟩
    obtain rfl : s = ((2 ^ T : Nat) : Int) := by omega
    rw [l5_there_53, t3, if_pos (by rw [iI_le (by omega) (by omega) (by omega) (by omega)]; omega), sE, Int.add_zero]
  | succ c ih =>
    intro s a N h1 h2 h3
    obtain ⟨N, rfl⟩ : ∃ q, N = q + 1 := ⟨N - 1, by omega⟩
    have ih2 := fun a => ih (s + 1) a N (by omega) (by omega) (by omega)
    rw [l5_there_53, t3, if_neg (by rw [iI_le (by omega) (by omega) (by omega) (by omega)]; omega), isEnough_s hF hp1 hp2 hy1 hy2 h2 (by omega), Option.bind_some, iI_add, sE]
    unfold f5_weightOf
    rw [L_wt5 hT h2 (by omega) _ T 0 1 FU (by omega) (by decide) (by unfold FU; omega), Option.bind_some, iI_add, ih2, ih2]
    cases en P U (T : Int) p y s with
    | true =>
      rw [if_neg (by decide), if_pos rfl, ← Int.add_assoc]
      rfl
    | false => rw [if_pos (by decide), if_neg (by decide), Int.zero_add]
theorem L_th6 {K P U M : Int → Int} {W w : Int} {T : Nat} {d : DZ} {x : Int} (h : CX K P U W (T : Int) d M) (hw1 : 0 ≤ w) (hw2 : w < W) (k : Int32 → Int32 → Int32 → Option Int32) : ∀ (c : Nat) (s a b : Int) (N : Nat), s + (c : Int) = ((2 ^ T : Nat) : Int) → 0 ≤ s → c < N → l6_there_34 k (iI w) (iI x) (iI (T : Int)) (aI K) (aI P) (aI U) (aI M) N (iI a) (iI b) (iI s) = k (iI (a + sE (fun s => en P U (T : Int) (pw K (dH d) (dS d w) w (dY d)) (dY d) s) x T c s)) (iI (b + sE (fun _ => true) x T c s)) (iI ((2 ^ T : Nat) : Int)) := by
  obtain ⟨a1, a2, a3, a4, a5, a6, a7, a8, a9, a10, a11, a12⟩ := CX_w h hw1 hw2
  have hF := h.1.2.2.2
  have hT : T ≤ 4 := by have := hF.2.1; omega
  obtain ⟨t1, t2, t3⟩ := p2_b hT
  intro c
  induction c with
  | zero =>
    intro s a b N h1 h2 h3
    obtain ⟨N, rfl⟩ : ∃ q, N = q + 1 := ⟨N - 1, by omega⟩
    obtain rfl : s = ((2 ^ T : Nat) : Int) := by omega
    rw [l6_there_34, t3, if_pos (by rw [iI_le (by omega) (by omega) (by omega) (by omega)]; omega), sE, sE, Int.add_zero, Int.add_zero]
  | succ c ih =>
    intro s a b N h1 h2 h3
    obtain ⟨N, rfl⟩ : ∃ q, N = q + 1 := ⟨N - 1, by omega⟩
    have ih2 := fun a b => ih (s + 1) a b N (by omega) (by omega) (by omega)
    rw [l6_there_34, t3, if_neg (by rw [iI_le (by omega) (by omega) (by omega) (by omega)]; omega), L_wt6 hT h2 (by omega) _ T 0 1 FU (by omega) (by decide) (by unfold FU; omega), ib_iI hw1 (by omega) (by decide), if_pos rfl, aI_get hw1 (by omega), aI_get (by decide) (by decide), a6, a10, comesBy_s hF (by omega) (by omega) hw1 (by omega) a4 a5 (by omega) (by omega) a11 a12 h2 (by omega), Option.bind_some, iI_add, iI_add, iI_add, iI_add, ih2, ih2, sE, sE, a7, Int.add_zero]
    show (if iB (en P U (T : Int) (pw K (dH d) (dS d w) w (dY d)) (dY d) s) = 0 then _ else _) = k (iI (a + ((if en P U (T : Int) (pw K (dH d) (dS d w) w (dY d)) (dY d) s = true then wt x s T else 0) + _))) (iI (b + (wt x s T + _))) _
    cases en P U (T : Int) (pw K (dH d) (dS d w) w (dY d)) (dY d) s with
    | true =>
      rw [if_neg (by decide), if_pos rfl, ← Int.add_assoc, ← Int.add_assoc]
      rfl
    | false =>
      rw [if_pos (by decide), if_neg (by decide), Int.zero_add, ← Int.add_assoc]
      rfl
theorem fraction_s {a b : Nat} (ha : a ≤ 1000000) (hb1 : 1 ≤ b) (hb : b ≤ 10000) (v : Int32) : f5_fraction (iI (a : Int)) (iI (b : Int)) v = some (if v = 0 then iI ((b / Nat.gcd a b : Nat) : Int) else iI ((a / Nat.gcd a b : Nat) : Int)) := by
  have hg1 : 0 < Nat.gcd a b := Nat.gcd_pos_of_pos_right a (by omega)
  have hg2 : Nat.gcd a b ≤ b := Nat.gcd_le_right a (by omega)
  unfold f5_fraction
  rw [gd5 ha hb, Option.bind_some, if_pos (by rw [iI_le (by decide) (by decide) (by omega) (by omega)]; omega)]
  have hz : ¬ (iI (Nat.gcd a b : Int) = 0) := by rw [iI_eq0 (by omega) (by omega)]; omega
  rw [if_neg hz, if_neg hz, iI_div (by omega) (by omega) (by omega) (by omega), iI_div (by omega) (by omega) (by omega) (by omega), ← Int.natCast_ediv, ← Int.natCast_ediv]
  by_cases c : v = 0
  · rw [if_pos c, if_pos c]
  · rw [if_neg c, if_neg c]
theorem op_there {K P U M : Int → Int} {W T : Int} {d : DZ} (h : CX K P U W T d M) (v1 v2 v3 : Int32) : Same (f5_there v1 v2 v3 (aI K) (aI P) (aI U) (iI W) (iI T) (aI (dS d)) (iI (dY d)) (iI (dH d))) (f6_there v1 v2 v3 (iI W) (iI T) (aI K) (aI P) (aI U) (aI M)) := by
  obtain ⟨w, a1, a2, rfl⟩ := iI_of v1
  obtain ⟨x, b1, b2, rfl⟩ := iI_of v2
  have hW := h.1.1
  have hW2 := h.1.2.1
  have hF := h.1.2.2.2
  have eT : ¬ (iB true = 0) := by decide
  have eF : iB false = 0 := by decide
  unfold f5_there f6_there
  rw [hasWord_s a1 a2 hW hW2, isWord_s a1 a2 hW hW2, lN0, lL10, in_s b1 b2 (by decide) (by decide) (by decide) (by decide)]
  by_cases cw : 0 ≤ w ∧ w < W
  · rw [decide_eq_true cw]
    by_cases cx : 0 ≤ x ∧ x ≤ 10
    · rw [decide_eq_true cx]
      obtain ⟨n, rfl⟩ := Int.eq_ofNat_of_zero_le hF.1
      have hT : n ≤ 4 := by have := hF.2.1; omega
      obtain ⟨t1, t2, t3⟩ := p2_b hT
      have t10 := p10_b (m := n) (by omega)
      have h10 : 10 ^ n ≤ 10000 := by
        have : ∀ q : Fin 5, 10 ^ q.val ≤ 10000 := by decide
        exact this ⟨n, by omega⟩
      obtain ⟨d1, d2, d3, d4, d5, d6, d7, d8, d9, d10, d11, d12⟩ := CX_w h cw.1 cw.2
      have hp : -200 ≤ pw K (dH d) (dS d w) w (dY d) ∧ pw K (dH d) (dS d w) w (dY d) ≤ 200 := by
        unfold pw
        split <;> omega
      have hb := sE_b cx.1 cx.2 (fun s => en P U (n : Int) (pw K (dH d) (dS d w) w (dY d)) (dY d) s) n (2 ^ n) 0
      have hs := sum_x cx.1 cx.2 hT
      have k5 := fun k => L_th5 (x := x) hF hp.1 hp.2 d11 d12 k (2 ^ n) 0 0 FU (by omega) (by decide) (by unfold FU; omega)
      have k6 := fun k => L_th6 (x := x) h cw.1 cw.2 k (2 ^ n) 0 0 0 FU (by omega) (by decide) (by unfold FU; omega)
      rw [hs] at k6 hb
      generalize sE (fun s => en P U (n : Int) (pw K (dH d) (dS d w) w (dY d)) (dY d) s) x n (2 ^ n) 0 = q at *
      obtain ⟨q, rfl⟩ := Int.eq_ofNat_of_zero_le hb.1
      have hg1 : 0 < Nat.gcd q (10 ^ n) := Nat.gcd_pos_of_pos_right q (by omega)
      have hg2 : Nat.gcd q (10 ^ n) ≤ 10 ^ n := Nat.gcd_le_right q (by omega)
      have hz : ¬ (iI (Nat.gcd q (10 ^ n) : Int) = 0) := by rw [iI_eq0 (by omega) (by omega)]; omega
      refine ⟨if v3 = 0 then iI ((10 ^ n / Nat.gcd q (10 ^ n) : Nat) : Int) else iI ((q / Nat.gcd q (10 ^ n) : Nat) : Int), ?_, ?_⟩
      · rw [Option.bind_some, if_neg eT, if_neg (by rw [iI_lt0 b1 b2]; omega), if_pos (by rw [iI_le b1 b2 (by decide) (by decide)]; omega), powerOf_s (by omega) (by omega) cw.1 (by omega) d4 d5 d8 d9 d11 d12, Option.bind_some, k5, Int.zero_add, ten5 (by omega), Option.bind_some, fraction_s (by omega) (by omega) h10, Option.bind_some]
      · rw [Option.bind_some, if_neg eT, Option.bind_some, if_neg eT, k6, Int.zero_add, Int.zero_add, cm6 (by omega) h10, Option.bind_some, if_neg hz, if_neg hz, iI_div (by omega) (by omega) (by omega) (by omega), iI_div (by omega) (by omega) (by omega) (by omega), ← Int.natCast_ediv, ← Int.natCast_ediv]
        by_cases c : v3 = 0
        · rw [if_pos c, if_pos c]
        · rw [if_neg c, if_neg c]
    · rw [decide_eq_false cx]
      refine ⟨iI (-2), ?_, ?_⟩
      · rw [Option.bind_some, if_neg eT]
        by_cases q : x < 0
        · rw [if_pos (by rw [iI_lt0 b1 b2]; exact q)]
        · rw [if_neg (by rw [iI_lt0 b1 b2]; exact q), if_neg (by rw [iI_le b1 b2 (by decide) (by decide)]; omega)]
      · rw [Option.bind_some, if_neg eT, Option.bind_some, if_pos eF]
  · rw [decide_eq_false cw]
    refine ⟨iI (-1), ?_, ?_⟩
    · rw [Option.bind_some, if_pos eF]
    · rw [Option.bind_some, if_pos eF]
