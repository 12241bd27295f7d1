/-! numbers: Int32 and Int64 as Int -/
theorem iI_toInt {z : Int} (h1 : -2147483648 ≤ z) (h2 : z < 2147483648) : (iI z).toInt = z := by
  unfold iI
  exact Int32.toInt_ofInt_of_le (by omega) (by omega)
theorem iI_of (x : Int32) : ∃ z : Int, -2147483648 ≤ z ∧ z < 2147483648 ∧ x = iI z := by
  have h1 := Int32.le_toInt x
  have h2 := Int32.toInt_lt x
  refine ⟨x.toInt, by omega, by omega, ?_⟩
  unfold iI
  rw [Int32.ofInt_toInt]
theorem iI_add (a b : Int) : iI a + iI b = iI (a + b) := by
  unfold iI
  rw [Int32.ofInt_add]
theorem iI_sub (a b : Int) : iI a - iI b = iI (a - b) := by
  unfold iI
  rw [Int32.ofInt_sub]
theorem iI_mul (a b : Int) : iI a * iI b = iI (a * b) := by
  unfold iI
  rw [Int32.ofInt_mul]
theorem iI_zero : (0 : Int32) = iI 0 := by decide
theorem iI_lt {a b : Int} (h1 : -2147483648 ≤ a) (h2 : a < 2147483648) (h3 : -2147483648 ≤ b) (h4 : b < 2147483648) : (iI a < iI b) ↔ a < b := by
  rw [Int32.lt_iff_toInt_lt, iI_toInt h1 h2, iI_toInt h3 h4]
theorem iI_le {a b : Int} (h1 : -2147483648 ≤ a) (h2 : a < 2147483648) (h3 : -2147483648 ≤ b) (h4 : b < 2147483648) : (iI a ≤ iI b) ↔ a ≤ b := by
  rw [Int32.le_iff_toInt_le, iI_toInt h1 h2, iI_toInt h3 h4]
theorem iI_eq {a b : Int} (h1 : -2147483648 ≤ a) (h2 : a < 2147483648) (h3 : -2147483648 ≤ b) (h4 : b < 2147483648) : (iI a = iI b) ↔ a = b := by
  rw [← Int32.toInt_inj, iI_toInt h1 h2, iI_toInt h3 h4]
theorem iI_lt0 {a : Int} (h1 : -2147483648 ≤ a) (h2 : a < 2147483648) : (iI a < 0) ↔ a < 0 := by
  rw [iI_zero]
  exact iI_lt h1 h2 (by decide) (by decide)
theorem iI_0lt {a : Int} (h1 : -2147483648 ≤ a) (h2 : a < 2147483648) : (0 < iI a) ↔ 0 < a := by
  rw [iI_zero]
  exact iI_lt (by decide) (by decide) h1 h2
theorem iI_le0 {a : Int} (h1 : -2147483648 ≤ a) (h2 : a < 2147483648) : (iI a ≤ 0) ↔ a ≤ 0 := by
  rw [iI_zero]
  exact iI_le h1 h2 (by decide) (by decide)
theorem iI_0le {a : Int} (h1 : -2147483648 ≤ a) (h2 : a < 2147483648) : (0 ≤ iI a) ↔ 0 ≤ a := by
  rw [iI_zero]
  exact iI_le (by decide) (by decide) h1 h2
theorem iI_eq0 {a : Int} (h1 : -2147483648 ≤ a) (h2 : a < 2147483648) : (iI a = 0) ↔ a = 0 := by
  rw [iI_zero]
  exact iI_eq h1 h2 (by decide) (by decide)
theorem iI_div {a b : Int} (h1 : 0 ≤ a) (h2 : a < 2147483648) (h3 : 0 < b) (h4 : b < 2147483648) : iI a / iI b = iI (a / b) := by
  have h5 : 0 ≤ a / b := Int.ediv_nonneg h1 (by omega)
  have h6 : a / b ≤ a := Int.ediv_le_self b h1
  apply Int32.toInt_inj.mp
  rw [Int32.toInt_div_of_ne_right _ _ (by rw [show (-1 : Int32) = iI (-1) from by decide]; intro h; rw [iI_eq (by omega) (by omega) (by decide) (by decide)] at h; omega), iI_toInt (by omega) (by omega), iI_toInt (by omega) (by omega), iI_toInt (by omega) (by omega), Int.tdiv_eq_ediv_of_nonneg h1]
theorem iI_rem {a b : Int} (h1 : 0 ≤ a) (h2 : a < 2147483648) (h3 : 0 < b) (h4 : b < 2147483648) : rmI (iI a) (iI b) = iI (a % b) := by
  unfold rmI
  rw [iI_div h1 h2 h3 h4, iI_mul, iI_sub, Int.emod_def, Int.mul_comm]
theorem iI_max {a b : Int} (h1 : -2147483648 ≤ a) (h2 : a < 2147483648) (h3 : -2147483648 ≤ b) (h4 : b < 2147483648) : mxI (iI a) (iI b) = iI (max a b) := by
  unfold mxI
  by_cases h : a < b
  · rw [if_pos ((iI_lt h1 h2 h3 h4).mpr h)]
    congr 1
    omega
  · rw [if_neg (fun q => h ((iI_lt h1 h2 h3 h4).mp q))]
    congr 1
    omega
theorem iI_min {a b : Int} (h1 : -2147483648 ≤ a) (h2 : a < 2147483648) (h3 : -2147483648 ≤ b) (h4 : b < 2147483648) : mnI (iI a) (iI b) = iI (min a b) := by
  unfold mnI
  by_cases h : b < a
  · rw [if_pos ((iI_lt h3 h4 h1 h2).mpr h)]
    congr 1
    omega
  · rw [if_neg (fun q => h ((iI_lt h3 h4 h1 h2).mp q))]
    congr 1
    omega
theorem iI_abs {a : Int} (h1 : -2147483648 < a) (h2 : a < 2147483648) : abI (iI a) = iI (max a (-a)) := by
  unfold abI
  by_cases h : 0 ≤ a
  · rw [if_pos ((iI_0le (by omega) h2).mpr h)]
    congr 1
    omega
  · rw [if_neg (fun q => h ((iI_0le (by omega) h2).mp q)), iI_zero, iI_sub]
    congr 1
    omega
theorem iI_nat {z : Int} (h1 : 0 ≤ z) (h2 : z < 2147483648) : ((iI z).toNatClampNeg : Int) = z := by
  rw [Int32.cast_toNatClampNeg _ ((iI_0le (by omega) h2).mpr h1), iI_toInt (by omega) h2]
theorem ib_iI {z : Int} {n : Nat} (h1 : 0 ≤ z) (h2 : z < (n : Int)) (h3 : n < 2147483648) : ib (iI z) n = true := by
  unfold ib
  apply decide_eq_true
  intro h
  rcases h with h | h
  · rw [iI_lt0 (by omega) (by omega)] at h
    omega
  · have h4 := iI_nat h1 (by omega : z < 2147483648)
    omega
theorem oN (n : Nat) : Int32.ofNat n = iI (n : Int) := by
  unfold iI
  rw [Int32.ofInt_eq_ofNat]
/-! arrays of Int -/
def aI (f : Int → Int) : Nat → Int32 := fun j => iI (f (j : Int))
def uz (f : Int → Int) (k v : Int) : Int → Int := fun j => if j = k then v else f j
theorem uz_same (f : Int → Int) (k v : Int) : uz f k v k = v := if_pos rfl
theorem uz_ne {f : Int → Int} {k v j : Int} (h : j ≠ k) : uz f k v j = f j := if_neg h
theorem aI_of (f : Nat → Int32) : ∃ g : Int → Int, f = aI g := by
  refine ⟨fun z => (f z.toNat).toInt, ?_⟩
  funext j
  unfold aI iI
  simp [Int32.ofInt_toInt]
theorem aI_zero : (fun _ : Nat => (0 : Int32)) = aI (fun _ => 0) := by
  funext j
  exact iI_zero
theorem aI_get {f : Int → Int} {z : Int} (h1 : 0 ≤ z) (h2 : z < 2147483648) : aI f (iI z).toNatClampNeg = iI (f z) := by
  unfold aI
  rw [iI_nat h1 h2]
theorem aI_upd {f : Int → Int} {z v : Int} (h1 : 0 ≤ z) (h2 : z < 2147483648) : upd (aI f) (iI z).toNatClampNeg (iI v) = aI (uz f z v) := by
  funext j
  have h3 := iI_nat h1 h2
  unfold upd aI uz
  by_cases h : j = (iI z).toNatClampNeg
  · rw [if_pos h, if_pos (by omega)]
  · rw [if_neg h, if_neg (by omega)]
/-! booleans -/
def iB (b : Bool) : Int32 := if b = true then iI 1 else iI 0
theorem iB_t : iB true = iI 1 := rfl
theorem iB_f : iB false = iI 0 := rfl
theorem iB_eq0 (b : Bool) : (iB b = 0) ↔ b = false := by cases b <;> decide
theorem iB_eqi0 (b : Bool) : (iB b = iI 0) ↔ b = false := by cases b <;> decide
theorem iB_eqi1 (b : Bool) : (iB b = iI 1) ↔ b = true := by cases b <;> decide
theorem iB_ok (b : Bool) : okB (iB b) = true := by cases b <;> decide
theorem iB_nar (b : Bool) : vp_nar .boolean (iB b) = iB b := by cases b <;> decide
theorem nar0 : vp_nar .boolean (iI 0) = iI 0 := by decide
theorem nar1 : vp_nar .boolean (iI 1) = iI 1 := by decide
/-! longs -/
def lI (z : Int) : Int64 := Int64.ofInt z
theorem lI_toInt {z : Int} (h1 : -2147483648 ≤ z) (h2 : z < 2147483648) : (lI z).toInt = z := by
  unfold lI
  exact Int64.toInt_ofInt_of_le (by omega) (by omega)
theorem iI_long {z : Int} (h1 : -2147483648 ≤ z) (h2 : z < 2147483648) : (iI z).toInt64 = lI z := by
  apply Int64.toInt_inj.mp
  rw [lI_toInt h1 h2, Int32.toInt_toInt64, iI_toInt h1 h2]
theorem lcmp_lt {a b : Int} (h1 : -2147483648 ≤ a) (h2 : a < 2147483648) (h3 : -2147483648 ≤ b) (h4 : b < 2147483648) : (lg_cmp (lI a) (lI b) < 0) ↔ a < b := by
  have e1 := lI_toInt h1 h2
  have e2 := lI_toInt h3 h4
  unfold lg_cmp
  by_cases h : lI a > lI b
  · rw [if_pos h]
    have h5 := Int64.lt_iff_toInt_lt.mp h
    exact ⟨fun q => absurd q (by decide), fun q => by omega⟩
  · rw [if_neg h]
    by_cases h6 : lI a = lI b
    · rw [if_pos h6]
      have h7 := congrArg Int64.toInt h6
      exact ⟨fun q => absurd q (by decide), fun q => by omega⟩
    · rw [if_neg h6]
      have h7 : ¬ (lI b).toInt < (lI a).toInt := fun q => h (Int64.lt_iff_toInt_lt.mpr q)
      have h8 : ¬ (lI a).toInt = (lI b).toInt := fun q => h6 (Int64.toInt_inj.mp q)
      exact ⟨fun _ => by omega, fun _ => by decide⟩
theorem lcmp_gt {a b : Int} (h1 : -2147483648 ≤ a) (h2 : a < 2147483648) (h3 : -2147483648 ≤ b) (h4 : b < 2147483648) : (0 < lg_cmp (lI a) (lI b)) ↔ b < a := by
  have e1 := lI_toInt h1 h2
  have e2 := lI_toInt h3 h4
  unfold lg_cmp
  by_cases h : lI a > lI b
  · rw [if_pos h]
    have h5 := Int64.lt_iff_toInt_lt.mp h
    exact ⟨fun _ => by omega, fun _ => by decide⟩
  · rw [if_neg h]
    have h7 : ¬ (lI b).toInt < (lI a).toInt := fun q => h (Int64.lt_iff_toInt_lt.mpr q)
    by_cases h6 : lI a = lI b
    · rw [if_pos h6]
      exact ⟨fun q => absurd q (by decide), fun q => by omega⟩
    · rw [if_neg h6]
      exact ⟨fun q => absurd q (by decide), fun q => by omega⟩
theorem lN0 : Int64.ofNat 0 = lI 0 := by decide
theorem lN1 : Int64.ofNat 1 = lI 1 := by decide
theorem lL255 : (255 : Int64) = lI 255 := by decide
theorem lL9 : (9 : Int64) = lI 9 := by decide
theorem lL6 : (6 : Int64) = lI 6 := by decide
theorem lL10 : (10 : Int64) = lI 10 := by decide
theorem lL30 : (30 : Int64) = lI 30 := by decide
theorem f6_in_s {v a b : Int} (h1 : -2147483648 ≤ v) (h2 : v < 2147483648) (h3 : -2147483648 ≤ a) (h4 : a < 2147483648) (h5 : -2147483648 ≤ b) (h6 : b < 2147483648) : f6_in (lI v) (lI a) (lI b) = some (iB (decide (a ≤ v ∧ v ≤ b))) := by
  unfold f6_in
  by_cases c1 : v < a
  · rw [if_pos ((lcmp_lt h1 h2 h3 h4).mpr c1), decide_eq_false (by omega), iB_f]
  · rw [if_neg (fun q => c1 ((lcmp_lt h1 h2 h3 h4).mp q))]
    by_cases c2 : b < v
    · rw [if_pos ((lcmp_gt h1 h2 h5 h6).mpr c2), decide_eq_false (by omega), iB_f]
    · rw [if_neg (fun q => c2 ((lcmp_gt h1 h2 h5 h6).mp q)), decide_eq_true (by omega), iB_t]
theorem o2 : Int32.ofNat 2 = iI 2 := by decide
theorem o4 : Int32.ofNat 4 = iI 4 := by decide
theorem o6 : Int32.ofNat 6 = iI 6 := by decide
theorem o20 : Int32.ofNat 20 = iI 20 := by decide
theorem o36 : Int32.ofNat 36 = iI 36 := by decide
theorem o140 : Int32.ofNat 140 = iI 140 := by decide
