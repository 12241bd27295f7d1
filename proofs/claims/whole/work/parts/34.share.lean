/-! share -/
def factI (z : Int) : Int := if z ≤ 1 then 1 else if z = 2 then 2 else if z = 3 then 6 else 24
def onesI (s : Int) : Int := bt s 0 + bt s 1 + bt s 2 + bt s 3
def orw (s w : Int) : Int := if bt s w = 1 then s else s + 2 ^ w.toNat
theorem ones_t : ∀ s : Fin 16, f6_ones (iI ((s.val : Nat) : Int)) = some (iI (onesI ((s.val : Nat) : Int))) := by decide +kernel
theorem fact_t : ∀ s : Fin 5, f6_factorial (iI ((s.val : Nat) : Int)) = some (iI (factI ((s.val : Nat) : Int))) := by decide +kernel
theorem orw_t : ∀ s : Fin 16, ∀ w : Fin 4, iI ((s.val : Nat) : Int) ||| ((iI 1) <<< (iI ((w.val : Nat) : Int) &&& 31)) = iI (orw ((s.val : Nat) : Int) ((w.val : Nat) : Int)) ∧ 0 ≤ orw ((s.val : Nat) : Int) ((w.val : Nat) : Int) ∧ orw ((s.val : Nat) : Int) ((w.val : Nat) : Int) < 16 := by decide +kernel
theorem left_t : ∀ W : Fin 5, ∀ w : Fin 4, ∀ s : Fin 16, w.val < W.val → s.val < 2 ^ W.val → bt ((s.val : Nat) : Int) ((w.val : Nat) : Int) = 0 → 0 ≤ ((W.val : Nat) : Int) - 1 - onesI ((s.val : Nat) : Int) ∧ ((W.val : Nat) : Int) - 1 - onesI ((s.val : Nat) : Int) ≤ 4 ∧ 0 ≤ onesI ((s.val : Nat) : Int) ∧ onesI ((s.val : Nat) : Int) ≤ 4 := by decide +kernel
theorem ones_s {s : Int} (h1 : 0 ≤ s) (h2 : s < 16) : f6_ones (iI s) = some (iI (onesI s)) := by
  obtain ⟨n, rfl⟩ := Int.eq_ofNat_of_zero_le h1
  exact ones_t ⟨n, by omega⟩
theorem fact_s {s : Int} (h1 : 0 ≤ s) (h2 : s ≤ 4) : f6_factorial (iI s) = some (iI (factI s)) := by
  obtain ⟨n, rfl⟩ := Int.eq_ofNat_of_zero_le h1
  exact fact_t ⟨n, by omega⟩
theorem orw_s {s w : Int} (h1 : 0 ≤ s) (h2 : s < 16) (h3 : 0 ≤ w) (h4 : w < 4) : iI s ||| ((iI 1) <<< (iI w &&& 31)) = iI (orw s w) ∧ 0 ≤ orw s w ∧ orw s w < 16 := by
  obtain ⟨n, rfl⟩ := Int.eq_ofNat_of_zero_le h1
  obtain ⟨m, rfl⟩ := Int.eq_ofNat_of_zero_le h3
  exact orw_t ⟨n, by omega⟩ ⟨m, by omega⟩
/-- whether one of the words of the set S brings -/
def hitF (f : Int → Bool) (S : Int) : Nat → Int → Bool → Bool
  | 0, _, b => b
  | c + 1, w, b => hitF f S c (w + 1) (b || (decide (bt S w = 1) && f w))
def cntF (f : Int → Bool) : Nat → Int → Int
  | 0, _ => 0
  | c + 1, w => (if f w = true then 1 else 0) + cntF f c (w + 1)
def sumS (t : Int → Int) : Nat → Int → Int
  | 0, _ => 0
  | c + 1, s => t s + sumS t c (s + 1)
def hI (f : Int → Bool) (W : Nat) (S : Int) : Int := if hitF f S W 0 false = true then 1 else 0
def phi (W : Nat) (w : Int) (f : Int → Bool) (S : Int) : Int := if bt S w = 1 then 0 else (factI (onesI S) * factI ((W : Int) - 1 - onesI S)) * (hI f W (orw S w) - hI f W S)
def gW (W : Nat) (w : Int) (f : Int → Bool) : Int := if cntF f W 0 ≤ 0 then 0 else if f w = true then 12 / cntF f W 0 else 0
def mk (m : Int) : Int → Bool := fun w => decide (bt m w = 1)
theorem phi_t : ∀ W : Fin 5, ∀ w : Fin 4, ∀ m : Fin 16, w.val < W.val → sumS (phi W.val ((w.val : Nat) : Int) (mk ((m.val : Nat) : Int))) (2 ^ W.val) 0 * 12 = gW W.val ((w.val : Nat) : Int) (mk ((m.val : Nat) : Int)) * factI ((W.val : Nat) : Int) ∧ 0 ≤ gW W.val ((w.val : Nat) : Int) (mk ((m.val : Nat) : Int)) ∧ gW W.val ((w.val : Nat) : Int) (mk ((m.val : Nat) : Int)) ≤ 12 := by decide +kernel
def b1 (b : Bool) : Nat := if b = true then 1 else 0
def mo (f : Int → Bool) : Nat := b1 (f 0) + 2 * b1 (f 1) + 4 * b1 (f 2) + 8 * b1 (f 3)
theorem mo_t : ∀ a b c d : Bool, b1 a + 2 * b1 b + 4 * b1 c + 8 * b1 d < 16 ∧ mk ((b1 a + 2 * b1 b + 4 * b1 c + 8 * b1 d : Nat) : Int) 0 = a ∧ mk ((b1 a + 2 * b1 b + 4 * b1 c + 8 * b1 d : Nat) : Int) 1 = b ∧ mk ((b1 a + 2 * b1 b + 4 * b1 c + 8 * b1 d : Nat) : Int) 2 = c ∧ mk ((b1 a + 2 * b1 b + 4 * b1 c + 8 * b1 d : Nat) : Int) 3 = d := by decide
theorem mo_s (f : Int → Bool) : mo f < 16 ∧ ∀ w : Int, 0 ≤ w → w < 4 → f w = mk ((mo f : Nat) : Int) w := by
  obtain ⟨h, h0, h1, h2, h3⟩ := mo_t (f 0) (f 1) (f 2) (f 3)
  refine ⟨h, fun w w1 w2 => ?_⟩
  by_cases c0 : w = 0
  · rw [c0]; exact h0.symm
  · by_cases c1 : w = 1
    · rw [c1]; exact h1.symm
    · by_cases c2 : w = 2
      · rw [c2]; exact h2.symm
      · rw [show w = 3 by omega]; exact h3.symm
theorem hit_congr {f g : Int → Bool} (S : Int) (e : ∀ w : Int, 0 ≤ w → w < 4 → f w = g w) : ∀ (c : Nat) (w : Int) (b : Bool), 0 ≤ w → w + (c : Int) ≤ 4 → hitF f S c w b = hitF g S c w b := by
  intro c
  induction c with
  | zero => intro w b _ _; rfl
  | succ c ih =>
    intro w b h1 h2
    rw [hitF, hitF, e w h1 (by omega)]
    exact ih (w + 1) _ (by omega) (by omega)
theorem cnt_congr {f g : Int → Bool} (e : ∀ w : Int, 0 ≤ w → w < 4 → f w = g w) : ∀ (c : Nat) (w : Int), 0 ≤ w → w + (c : Int) ≤ 4 → cntF f c w = cntF g c w := by
  intro c
  induction c with
  | zero => intro w _ _; rfl
  | succ c ih =>
    intro w h1 h2
    rw [cntF, cntF, e w h1 (by omega), ih (w + 1) (by omega) (by omega)]
theorem sumS_congr {t u : Int → Int} (e : ∀ s, t s = u s) : ∀ (c : Nat) (s : Int), sumS t c s = sumS u c s := by
  intro c
  induction c with
  | zero => intro s; rfl
  | succ c ih => intro s; rw [sumS, sumS, e, ih]
theorem sumS_add (t u : Int → Int) : ∀ (c : Nat) (s : Int), sumS (fun s => t s + u s) c s = sumS t c s + sumS u c s := by
  intro c
  induction c with
  | zero => intro s; rfl
  | succ c ih =>
    intro s
    rw [sumS, sumS, sumS, ih]
    omega
theorem sumS_0 : ∀ (c : Nat) (s : Int), sumS (fun _ => 0) c s = 0 := by
  intro c
  induction c with
  | zero => intro s; rfl
  | succ c ih => intro s; rw [sumS, ih]; rfl
theorem phi_s {W : Nat} {w : Int} (f : Int → Bool) (hW : W ≤ 4) (hw1 : 0 ≤ w) (hw2 : w < (W : Int)) : sumS (phi W w f) (2 ^ W) 0 * 12 = gW W w f * factI (W : Int) ∧ 0 ≤ gW W w f ∧ gW W w f ≤ 12 := by
  obtain ⟨m1, m2⟩ := mo_s f
  obtain ⟨n, rfl⟩ := Int.eq_ofNat_of_zero_le hw1
  have h := phi_t ⟨W, by omega⟩ ⟨n, by omega⟩ ⟨mo f, m1⟩ (by show n < W; omega)
  have eh : ∀ S, hI f W S = hI (mk ((mo f : Nat) : Int)) W S := by
    intro S
    unfold hI
    rw [hit_congr S m2 W 0 false (by decide) (by omega)]
  have ep : ∀ S, phi W (n : Int) f S = phi W (n : Int) (mk ((mo f : Nat) : Int)) S := by
    intro S
    unfold phi
    rw [eh, eh]
  have eg : gW W (n : Int) f = gW W (n : Int) (mk ((mo f : Nat) : Int)) := by
    unfold gW
    rw [cnt_congr m2 W 0 (by decide) (by omega), m2 (n : Int) (by omega) (by omega)]
  rw [sumS_congr ep, eg]
  exact h
/-- over the yards -/
def rcF (F : Int → Int → Bool) (W : Nat) (S : Int) : Nat → Int → Int
  | 0, _ => 0
  | c + 1, y => hI (F y) W S + rcF F W S c (y + 1)
def twF (F : Int → Int → Bool) (W : Nat) (w : Int) : Nat → Int → Int
  | 0, _ => 0
  | c + 1, y => gW W w (F y) + twF F W w c (y + 1)
def tmF (F : Int → Int → Bool) (W : Nat) (w : Int) (c : Nat) (y : Int) (S : Int) : Int := if bt S w = 1 then 0 else (factI (onesI S) * factI ((W : Int) - 1 - onesI S)) * (rcF F W (orw S w) c y - rcF F W S c y)
theorem share_eq {W : Nat} {w : Int} (F : Int → Int → Bool) (hW : W ≤ 4) (hw1 : 0 ≤ w) (hw2 : w < (W : Int)) : ∀ (c : Nat) (y : Int), sumS (tmF F W w c y) (2 ^ W) 0 * 12 = twF F W w c y * factI (W : Int) ∧ 0 ≤ twF F W w c y ∧ twF F W w c y ≤ 12 * (c : Int) := by
  intro c
  induction c with
  | zero =>
    intro y
    have e : ∀ S, tmF F W w 0 y S = 0 := by
      intro S
      unfold tmF
      split
      · rfl
      · show _ * ((0 : Int) - 0) = 0
        rw [Int.sub_self, Int.mul_zero]
    rw [sumS_congr e, sumS_0, twF]
    exact ⟨by rw [Int.zero_mul, Int.zero_mul], Int.le_refl _, by decide⟩
  | succ c ih =>
    intro y
    obtain ⟨i1, i2, i3⟩ := ih (y + 1)
    obtain ⟨p1, p2, p3⟩ := phi_s (F y) hW hw1 hw2
    have e : ∀ S, tmF F W w (c + 1) y S = phi W w (F y) S + tmF F W w c (y + 1) S := by
      intro S
      unfold tmF phi
      by_cases q : bt S w = 1
      · rw [if_pos q, if_pos q, if_pos q]
        rfl
      · rw [if_neg q, if_neg q, if_neg q, rcF, rcF, ← Int.mul_add]
        congr 1
        omega
    rw [sumS_congr e, sumS_add, twF, Int.add_mul, Int.add_mul, p1, i1]
    exact ⟨rfl, by omega, by omega⟩
theorem frac_t : ∀ W : Fin 5, ∀ t : Fin 121, 1 ≤ W.val → (t.val * (factI ((W.val : Nat) : Int)).toNat / 12) * 12 = t.val * (factI ((W.val : Nat) : Int)).toNat → (t.val * (factI ((W.val : Nat) : Int)).toNat / 12) / Nat.gcd (t.val * (factI ((W.val : Nat) : Int)).toNat / 12) (factI ((W.val : Nat) : Int)).toNat = t.val / Nat.gcd t.val 12 ∧ (factI ((W.val : Nat) : Int)).toNat / Nat.gcd (t.val * (factI ((W.val : Nat) : Int)).toNat / 12) (factI ((W.val : Nat) : Int)).toNat = 12 / Nat.gcd t.val 12 := by decide +kernel
