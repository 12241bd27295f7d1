/-! rests -/
def gn (K P U : Int → Int) (T : Int) (d : DZ) (w own other : Int) : Int := if own = 0 then 0 else if en P U T (pw K (dH d) (dS d w) w (dY d) - 2 * other) (dY d) 15 = true then 3 - other else -1
theorem gn_b (K P U : Int → Int) (T : Int) (d : DZ) (w own other : Int) (h1 : 0 ≤ other) (h2 : other ≤ 1) : -1 ≤ gn K P U T d w own other ∧ gn K P U T d w own other ≤ 3 := by
  unfold gn
  repeat' split
  all_goals omega
theorem gain5 {K P U M : Int → Int} {W T : Int} {d : DZ} (h : CX K P U W T d M) {w own other : Int} (hw1 : 0 ≤ w) (hw2 : w < W) (ho1 : 0 ≤ own) (ho2 : own ≤ 1) (hp1 : 0 ≤ other) (hp2 : other ≤ 1) : f5_gainOf (iI w) (iI own) (iI other) (aI K) (aI P) (aI U) (iI T) (aI (dS d)) (iI (dY d)) (iI (dH d)) = some (iI (gn K P U T d w own other)) := by
  obtain ⟨a1, a2, a3, a4, a5, a6, a7, a8, a9, a10, a11, a12⟩ := CX_w h hw1 hw2
  have hF := h.1.2.2.2
  have hp : -50 ≤ pw K (dH d) (dS d w) w (dY d) ∧ pw K (dH d) (dS d w) w (dY d) ≤ 50 := by
    unfold pw
    split <;> omega
  unfold f5_gainOf gn
  by_cases c : own = 0
  · rw [if_pos c, c]
    simp (disch := omega) only [iI_add, iI_sub, iI_mul, iI_lt, iI_le, iI_eq, iI_lt0, iI_0lt, iI_le0, iI_0le, iI_eq0, iI_div, iI_rem, iI_max, iI_min, iI_abs, ib_iI, aI_get, aI_upd, iB_eq0, iB_eqi0, iB_eqi1, iB_t, iB_f, iB_ok, okB_0, okB_1, nar0, nar1, o2, o4, o6, o20, o36, o140, Option.bind_some, if_true, if_false, if_pos, if_neg, Int.reduceAdd, Int.reduceSub, Int.reduceMul, Int.reduceNeg, Int.zero_add, Int.add_zero]
  · rw [if_neg c, if_neg (by rw [iI_eq0 (by omega) (by omega)]; exact c), powerOf_s (by omega) (by omega) hw1 (by omega) a4 a5 a8 a9 a11 a12, Option.bind_some, iI_mul, iI_sub, isEnough_s hF (by omega) (by omega) a11 a12 (by decide) (by decide), Option.bind_some, iI_sub]
    cases en P U T (pw K (dH d) (dS d w) w (dY d) - 2 * other) (dY d) 15 with
    | true => rw [if_neg (by decide), if_pos rfl]
    | false => rw [if_pos (by decide), if_neg (by decide)]
theorem gain6 {K P U M : Int → Int} {W T : Int} {d : DZ} (h : CX K P U W T d M) {w own other : Int} (hw1 : 0 ≤ w) (hw2 : w < W) (ho1 : 0 ≤ own) (ho2 : own ≤ 1) (hp1 : 0 ≤ other) (hp2 : other ≤ 1) : f6_gain (iI w) (iI own) (iI other) (iI T) (aI K) (aI P) (aI U) (aI M) = some (iI (gn K P U T d w own other)) := by
  obtain ⟨a1, a2, a3, a4, a5, a6, a7, a8, a9, a10, a11, a12⟩ := CX_w h hw1 hw2
  have hF := h.1.2.2.2
  have epw : pw K (M 7) (dS d w - 2 * other) w (dY d) = pw K (dH d) (dS d w) w (dY d) - 2 * other := by
    unfold pw
    rw [a7]
    omega
  unfold f6_gain gn
  by_cases c : own = 0
  · rw [if_pos c, c]
    simp (disch := omega) only [iI_add, iI_sub, iI_mul, iI_lt, iI_le, iI_eq, iI_lt0, iI_0lt, iI_le0, iI_0le, iI_eq0, iI_div, iI_rem, iI_max, iI_min, iI_abs, ib_iI, aI_get, aI_upd, iB_eq0, iB_eqi0, iB_eqi1, iB_t, iB_f, iB_ok, okB_0, okB_1, nar0, nar1, o2, o4, o6, o20, o36, o140, Option.bind_some, if_true, if_false, if_pos, if_neg, Int.reduceAdd, Int.reduceSub, Int.reduceMul, Int.reduceNeg, Int.zero_add, Int.add_zero]
  · rw [if_neg c, if_neg (by rw [iI_eq0 (by omega) (by omega)]; exact c), ib_iI hw1 (by omega) (by decide), if_pos rfl, aI_get hw1 (by omega), aI_get (by decide) (by decide), a6, a10, iI_mul, iI_sub, comesBy_s hF (by omega) (by omega) hw1 (by omega) a4 a5 (by omega) (by omega) a11 a12 (by decide) (by decide), Option.bind_some, iI_sub, epw]
    cases en P U T (pw K (dH d) (dS d w) w (dY d) - 2 * other) (dY d) 15 with
    | true => rw [if_neg (by decide), if_pos rfl]
    | false => rw [if_pos (by decide), if_neg (by decide)]
def ctB (K P U : Int → Int) (T : Int) (d : DZ) (w own other : Int) : Bool := decide (gn K P U T d w (1 - own) other ≤ gn K P U T d w own other)
theorem content5 {K P U M : Int → Int} {W T : Int} {d : DZ} (h : CX K P U W T d M) {w own other : Int} (hw1 : 0 ≤ w) (hw2 : w < W) (ho1 : 0 ≤ own) (ho2 : own ≤ 1) (hp1 : 0 ≤ other) (hp2 : other ≤ 1) : f5_isContent (iI w) (iI own) (iI other) (aI K) (aI P) (aI U) (iI T) (aI (dS d)) (iI (dY d)) (iI (dH d)) = some (iB (ctB K P U T d w own other)) := by
  have b1 := gn_b K P U T d w own other hp1 hp2
  have b2 := gn_b K P U T d w (1 - own) other hp1 hp2
  unfold f5_isContent ctB
  rw [gain5 h hw1 hw2 ho1 ho2 hp1 hp2, Option.bind_some, iI_sub, gain5 h hw1 hw2 (by omega) (by omega) hp1 hp2, Option.bind_some]
  by_cases c : gn K P U T d w own other < gn K P U T d w (1 - own) other
  · rw [if_pos (by rw [iI_lt (by omega) (by omega) (by omega) (by omega)]; exact c), decide_eq_false (by omega)]
    rfl
  · rw [if_neg (by rw [iI_lt (by omega) (by omega) (by omega) (by omega)]; exact c), decide_eq_true (by omega)]
    rfl
def rsB (K P U : Int → Int) (T : Int) (d : DZ) (v w a b : Int) : Bool := ctB K P U T d v a b && ctB K P U T d w b a
theorem isRest6 {K P U M : Int → Int} {W T : Int} {d : DZ} (h : CX K P U W T d M) {v w a b : Int} (hv1 : 0 ≤ v) (hv2 : v < W) (hw1 : 0 ≤ w) (hw2 : w < W) (ha1 : 0 ≤ a) (ha2 : a ≤ 1) (hb1 : 0 ≤ b) (hb2 : b ≤ 1) : f6_isRest (iI v) (iI w) (iI a) (iI b) (iI T) (aI K) (aI P) (aI U) (aI M) = some (iB (rsB K P U T d v w a b)) := by
  have b1 := gn_b K P U T d v a b hb1 hb2
  have b2 := gn_b K P U T d v (1 - a) b hb1 hb2
  have b3 := gn_b K P U T d w b a ha1 ha2
  have b4 := gn_b K P U T d w (1 - b) a ha1 ha2
  unfold f6_isRest rsB ctB
  rw [iI_sub, iI_sub, gain6 h hv1 hv2 (by omega) (by omega) hb1 hb2, Option.bind_some, gain6 h hv1 hv2 ha1 ha2 hb1 hb2, Option.bind_some, gain6 h hw1 hw2 (by omega) (by omega) ha1 ha2, Option.bind_some, gain6 h hw1 hw2 hb1 hb2 ha1 ha2, Option.bind_some]
  by_cases c : gn K P U T d v a b < gn K P U T d v (1 - a) b
  · rw [if_pos (by rw [iI_lt (by omega) (by omega) (by omega) (by omega)]; exact c), decide_eq_false (by omega), Bool.false_and]
    rfl
  · rw [if_neg (by rw [iI_lt (by omega) (by omega) (by omega) (by omega)]; exact c), decide_eq_true (by omega), Bool.true_and]
    by_cases c2 : gn K P U T d w b a < gn K P U T d w (1 - b) a
    · rw [if_pos (by rw [iI_lt (by omega) (by omega) (by omega) (by omega)]; exact c2), decide_eq_false (by omega)]
      rfl
    · rw [if_neg (by rw [iI_lt (by omega) (by omega) (by omega) (by omega)]; exact c2), decide_eq_true (by omega)]
      rfl
def rZ (rb : Int → Int → Bool) (a b : Int) (z : Int32 × Int32) : Int32 × Int32 := if rb a b = true then (z.1 + iI 1, if z.1 = 0 then iI (10 * a + b) else z.2) else z
theorem st5 {K P U M : Int → Int} {W T : Int} {d : DZ} (h : CX K P U W T d M) {v w a b : Int} (hv1 : 0 ≤ v) (hv2 : v < W) (hw1 : 0 ≤ w) (hw2 : w < W) (ha1 : 0 ≤ a) (ha2 : a ≤ 1) (hb1 : 0 ≤ b) (hb2 : b ≤ 1) (k : Int32 → Int32 → Int32 → Option Int32) (N : Nat) (z : Int32 × Int32) : l5_rests_55 k (iI v) (iI w) (iI a) (aI K) (aI P) (aI U) (iI T) (aI (dS d)) (iI (dY d)) (iI (dH d)) (N + 1) z.1 z.2 (iI b) = l5_rests_55 k (iI v) (iI w) (iI a) (aI K) (aI P) (aI U) (iI T) (aI (dS d)) (iI (dY d)) (iI (dH d)) N (rZ (rsB K P U T d v w) a b z).1 (rZ (rsB K P U T d v w) a b z).2 (iI (b + 1)) := by
  rw [l5_rests_55, if_neg (by rw [iI_lt (by decide) (by decide) (by omega) (by omega)]; omega), content5 h hv1 hv2 ha1 ha2 hb1 hb2, Option.bind_some, content5 h hw1 hw2 hb1 hb2 ha1 ha2, Option.bind_some, iI_mul, iI_add, iI_add]
  unfold rZ rsB
  cases ctB K P U T d v a b with
  | false => rw [if_pos (by decide), Bool.false_and, if_neg (by decide)]
  | true =>
    rw [if_neg (by decide), Bool.true_and]
    cases ctB K P U T d w b a with
    | false => rw [if_pos (by decide), if_neg (by decide)]
    | true =>
      rw [if_neg (by decide), if_pos rfl]
      by_cases c : z.1 = 0
      · rw [if_pos c]
        show _ = l5_rests_55 k (iI v) (iI w) (iI a) (aI K) (aI P) (aI U) (iI T) (aI (dS d)) (iI (dY d)) (iI (dH d)) N (z.1 + iI 1) (if z.1 = 0 then iI (10 * a + b) else z.2) (iI (b + 1))
        rw [if_pos c]
      · rw [if_neg c]
        show _ = l5_rests_55 k (iI v) (iI w) (iI a) (aI K) (aI P) (aI U) (iI T) (aI (dS d)) (iI (dY d)) (iI (dH d)) N (z.1 + iI 1) (if z.1 = 0 then iI (10 * a + b) else z.2) (iI (b + 1))
        rw [if_neg c]
theorem st6 {K P U M : Int → Int} {W T : Int} {d : DZ} (h : CX K P U W T d M) {v w a b q : Int} (hv1 : 0 ≤ v) (hv2 : v < W) (hw1 : 0 ≤ w) (hw2 : w < W) (ha1 : 0 ≤ a) (ha2 : a ≤ 1) (hb1 : 0 ≤ b) (hb2 : b ≤ 1) (hq : q = 2 * a + b) (k : Int32 → Int32 → Int32 → Option Int32) (N : Nat) (z : Int32 × Int32) : l6_rests_41 k (iI v) (iI w) (iI T) (aI K) (aI P) (aI U) (aI M) (N + 1) z.1 z.2 (iI q) = l6_rests_41 k (iI v) (iI w) (iI T) (aI K) (aI P) (aI U) (aI M) N (rZ (rsB K P U T d v w) a b z).1 (rZ (rsB K P U T d v w) a b z).2 (iI (q + 1)) := by
  rw [l6_rests_41, if_neg (by rw [iI_le (by decide) (by decide) (by omega) (by omega)]; omega), iI_div (by omega) (by omega) (by decide) (by decide), iI_rem (by omega) (by omega) (by decide) (by decide), show q / 2 = a by omega, show q % 2 = b by omega, isRest6 h hv1 hv2 hw1 hw2 ha1 ha2 hb1 hb2, Option.bind_some, iI_mul, iI_add, iI_add]
  unfold rZ
  cases rsB K P U T d v w a b with
  | false => rw [if_pos (by decide), if_neg (by decide)]
  | true =>
    rw [if_neg (by decide), if_pos rfl]
    by_cases c : z.1 = 0
    · rw [if_pos c]
      show _ = l6_rests_41 k (iI v) (iI w) (iI T) (aI K) (aI P) (aI U) (aI M) N (z.1 + iI 1) (if z.1 = 0 then iI (10 * a + b) else z.2) (iI (q + 1))
      rw [if_pos c]
    · rw [if_neg c]
      show _ = l6_rests_41 k (iI v) (iI w) (iI T) (aI K) (aI P) (aI U) (aI M) N (z.1 + iI 1) (if z.1 = 0 then iI (10 * a + b) else z.2) (iI (q + 1))
      rw [if_neg c]
theorem FU3 : FU = 19997 + 1 + 1 + 1 := rfl
def r4 (rb : Int → Int → Bool) : Int32 × Int32 := rZ rb 1 1 (rZ rb 1 0 (rZ rb 0 1 (rZ rb 0 0 (iI 0, iI (-9)))))
theorem r55 {K P U M : Int → Int} {W T : Int} {d : DZ} (h : CX K P U W T d M) {v w a : Int} (hv1 : 0 ≤ v) (hv2 : v < W) (hw1 : 0 ≤ w) (hw2 : w < W) (ha1 : 0 ≤ a) (ha2 : a ≤ 1) (k : Int32 → Int32 → Int32 → Option Int32) (N : Nat) (z : Int32 × Int32) : l5_rests_55 k (iI v) (iI w) (iI a) (aI K) (aI P) (aI U) (iI T) (aI (dS d)) (iI (dY d)) (iI (dH d)) (N + 1 + 1 + 1) z.1 z.2 (iI 0) = k (rZ (rsB K P U T d v w) a 1 (rZ (rsB K P U T d v w) a 0 z)).1 (rZ (rsB K P U T d v w) a 1 (rZ (rsB K P U T d v w) a 0 z)).2 (iI 2) := by
  rw [st5 h hv1 hv2 hw1 hw2 ha1 ha2 (Int.le_refl 0) (by decide), Int.zero_add, st5 h hv1 hv2 hw1 hw2 ha1 ha2 (by decide) (Int.le_refl 1), show (1 : Int) + 1 = 2 from rfl, l5_rests_55, if_pos (by decide)]
theorem r55F {K P U M : Int → Int} {W T : Int} {d : DZ} (h : CX K P U W T d M) {v w a : Int} (hv1 : 0 ≤ v) (hv2 : v < W) (hw1 : 0 ≤ w) (hw2 : w < W) (ha1 : 0 ≤ a) (ha2 : a ≤ 1) (k : Int32 → Int32 → Int32 → Option Int32) (z : Int32 × Int32) : l5_rests_55 k (iI v) (iI w) (iI a) (aI K) (aI P) (aI U) (iI T) (aI (dS d)) (iI (dY d)) (iI (dH d)) FU z.1 z.2 (iI 0) = k (rZ (rsB K P U T d v w) a 1 (rZ (rsB K P U T d v w) a 0 z)).1 (rZ (rsB K P U T d v w) a 1 (rZ (rsB K P U T d v w) a 0 z)).2 (iI 2) := by
  rw [FU3]
  exact r55 h hv1 hv2 hw1 hw2 ha1 ha2 k 19997 z
theorem r46 {K P U M : Int → Int} {W T : Int} {d : DZ} (h : CX K P U W T d M) {v w : Int} (hv1 : 0 ≤ v) (hv2 : v < W) (hw1 : 0 ≤ w) (hw2 : w < W) (k : Int32 → Int32 → Int32 → Option Int32) (N : Nat) : l5_rests_46 k (iI v) (iI w) (aI K) (aI P) (aI U) (iI T) (aI (dS d)) (iI (dY d)) (iI (dH d)) (N + 1 + 1 + 1) (iI 0) (iI (-9)) (iI 0) = k (r4 (rsB K P U T d v w)).1 (r4 (rsB K P U T d v w)).2 (iI 2) := by
  have e1 := fun k => r55F h hv1 hv2 hw1 hw2 (a := 0) (by decide) (by decide) k (iI 0, iI (-9))
  have e2 := fun k z => r55F h hv1 hv2 hw1 hw2 (a := 1) (by decide) (by decide) k z
  rw [l5_rests_46, if_neg (by decide)]
  refine (e1 _).trans ?_
  rw [iI_add, Int.zero_add, l5_rests_46, if_neg (by decide), e2]
  rw [iI_add, show (1 : Int) + 1 = 2 from rfl, l5_rests_46, if_pos (by decide)]
  rfl
theorem r41 {K P U M : Int → Int} {W T : Int} {d : DZ} (h : CX K P U W T d M) {v w : Int} (hv1 : 0 ≤ v) (hv2 : v < W) (hw1 : 0 ≤ w) (hw2 : w < W) (k : Int32 → Int32 → Int32 → Option Int32) (N : Nat) : l6_rests_41 k (iI v) (iI w) (iI T) (aI K) (aI P) (aI U) (aI M) (N + 1 + 1 + 1 + 1 + 1) (iI 0) (iI (-9)) (iI 0) = k (r4 (rsB K P U T d v w)).1 (r4 (rsB K P U T d v w)).2 (iI 4) := by
  have t0 := st6 h hv1 hv2 hw1 hw2 (a := 0) (b := 0) (q := 0) (by decide) (by decide) (by decide) (by decide) (by decide) k (N + 1 + 1 + 1 + 1) (iI 0, iI (-9))
  have t1 := fun N z => st6 h hv1 hv2 hw1 hw2 (a := 0) (b := 1) (q := 1) (by decide) (by decide) (by decide) (by decide) (by decide) k N z
  have t2 := fun N z => st6 h hv1 hv2 hw1 hw2 (a := 1) (b := 0) (q := 2) (by decide) (by decide) (by decide) (by decide) (by decide) k N z
  have t3 := fun N z => st6 h hv1 hv2 hw1 hw2 (a := 1) (b := 1) (q := 3) (by decide) (by decide) (by decide) (by decide) (by decide) k N z
  refine t0.trans ?_
  rw [show (0 : Int) + 1 = 1 from rfl, t1, show (1 : Int) + 1 = 2 from rfl, t2, show (2 : Int) + 1 = 3 from rfl, t3, show (3 : Int) + 1 = 4 from rfl, l6_rests_41, if_pos (by decide)]
  rfl
theorem op_rests {K P U M : Int → Int} {W T : Int} {d : DZ} (h : CX K P U W T d M) (v1 v2 v3 : Int32) : Same (f5_rests v1 v2 v3 (aI K) (aI P) (aI U) (iI W) (iI T) (aI (dS d)) (iI (dY d)) (iI (dH d))) (f6_rests v1 v2 v3 (iI W) (iI T) (aI K) (aI P) (aI U) (aI M)) := by
  obtain ⟨v, a1, a2, rfl⟩ := iI_of v1
  obtain ⟨w, b1, b2, rfl⟩ := iI_of v2
  obtain ⟨x, c1, c2, rfl⟩ := iI_of v3
  have hW := h.1.1
  have hW2 := h.1.2.1
  unfold f5_rests f6_rests
  rw [hasWord_s a1 a2 hW hW2, isWord_s a1 a2 hW hW2, hasWord_s b1 b2 hW hW2, isWord_s b1 b2 hW hW2, lN0, lN1, in_s c1 c2 (by decide) (by decide) (by decide) (by decide)]
  have eT : ¬ (iB true = 0) := by decide
  have eF : iB false = 0 := by decide
  by_cases cv : 0 ≤ v ∧ v < W
  · rw [decide_eq_true cv]
    by_cases cw : 0 ≤ w ∧ w < W
    · rw [decide_eq_true cw]
      by_cases cx : 0 ≤ x ∧ x ≤ 1
      · rw [decide_eq_true cx]
        refine ⟨if iI x = 0 then (r4 (rsB K P U T d v w)).1 else (r4 (rsB K P U T d v w)).2, ?_, ?_⟩
        · rw [Option.bind_some, if_neg eT, Option.bind_some, if_neg eT, if_neg (by rw [iI_lt0 c1 c2]; omega), if_pos (by rw [iI_le c1 c2 (by decide) (by decide)]; omega), FU3, r46 h cv.1 cv.2 cw.1 cw.2]
          by_cases q : iI x = 0
          · rw [if_pos q, if_pos q]
          · rw [if_neg q, if_neg q]
        · rw [Option.bind_some, if_neg eT, Option.bind_some, if_neg eT, Option.bind_some, if_neg eT, FU5, r41 h cv.1 cv.2 cw.1 cw.2]
          by_cases q : iI x = 0
          · rw [if_pos q, if_pos q]
          · rw [if_neg q, if_neg q]
      · rw [decide_eq_false cx]
        refine ⟨iI (-2), ?_, ?_⟩
        · rw [Option.bind_some, if_neg eT, Option.bind_some, if_neg eT]
          by_cases q : x < 0
          · rw [if_pos (by rw [iI_lt0 c1 c2]; exact q)]
          · rw [if_neg (by rw [iI_lt0 c1 c2]; exact q), if_neg (by rw [iI_le c1 c2 (by decide) (by decide)]; omega)]
        · rw [Option.bind_some, if_neg eT, Option.bind_some, if_neg eT, Option.bind_some, if_pos eF]
    · rw [decide_eq_false cw]
      refine ⟨iI (-1), ?_, ?_⟩
      · rw [Option.bind_some, if_neg eT, Option.bind_some, if_pos eF]
      · rw [Option.bind_some, if_neg eT, Option.bind_some, if_pos eF]
  · rw [decide_eq_false cv]
    refine ⟨iI (-1), ?_, ?_⟩
    · rw [Option.bind_some, if_pos eF]
    · rw [Option.bind_some, if_pos eF]
