/-! fewest -/
theorem onlyLast_s {K P U : Int → Int} {W T : Int} {n f : Nat} {d : DZ} (hG : GOK K P U W T) (hd : DOK W d) (hn : n ≤ 6) (hf : f ≤ 1000000) (hv : ∀ q : Nat, q < n → 1 ≤ (dg n f q : Int) ∧ (dg n f q : Int) ≤ W) (tst : AZ) (tya tow tca : Int32) : ∃ (s2 : AZ) (c2 y2 o2 k2 h2 l2 : Int32), f5_onlyLastBrings (iI (n : Int)) (iI (f : Int)) (aI K) (aI P) (aI U) (iI T) (aI (dS d)) (iI (dC d)) (iI (dY d)) (iI (dO d)) (iI (dK d)) (iI (dH d)) (iI (dL d)) tst tya tow tca = some (iB (olB K P U T n f n 0 d), s2, c2, y2, o2, k2, h2, l2) := by
  obtain ⟨q1, q2, q3, q4, q5, q6, q7, q8, q9, q10⟩ := id hd
  obtain ⟨t, rfl⟩ := aI_of tst
  have hW2 := hG.2.1
  have eH : okB (iI (dH d)) = true := by
    by_cases c : dH d = 0
    · rw [c]; decide
    · rw [show dH d = 1 by omega]; decide
  have eL : okB (iI (dL d)) = true := by
    by_cases c : dL d = 0
    · rw [c]; decide
    · rw [show dL d = 1 by omega]; decide
  have ht : DOK W (cp4 (dS d) t, dC d, dY d, dO d, dK d, dH d, dL d) := DOK_cp4 hd hW2 t
  have eq := DEQ_ol (K := K) (P := P) (U := U) (T := T) hv n 0 _ d (by omega) (DEQ_cp4 hW2 t)
  obtain ⟨t2, k1, k2⟩ := L_ol hG hn hf hv (fun v3 tst tya tow tca => some ((iI 1), tst, iI (dC d), tya, tow, tca, iI (dH d), iI (dL d))) (dC d) (dH d) (dL d) n 0 FU (cp4 (dS d) t, dC d, dY d, dO d, dK d, dH d, dL d) (by omega) (by unfold FU; omega) ht rfl rfl rfl
  rw [eq] at k1 k2
  unfold f5_onlyLastBrings
  rw [copyFrom_s eH eL, Option.bind_some]
  cases hb : olB K P U T n f n 0 d with
  | true => exact ⟨_, _, _, _, _, _, _, k1 hb⟩
  | false => exact ⟨_, _, _, _, _, _, _, k2 hb⟩
theorem isRow_s {K P U : Int → Int} {W T : Int} {n f : Nat} {d : DZ} {M : Int → Int} (h : CX K P U W T d M) (hn : n ≤ 6) (hf : f ≤ 1000000) : ∃ M2 : Int → Int, f6_isRow (iI (n : Int)) (iI (f : Int)) (iI W) (iI T) (aI K) (aI P) (aI U) (aI M) = some (iB (grB K P U W T n f n 0 d), aI M2) ∧ CX K P U W T d M2 := by
  obtain ⟨hG, hd, hM⟩ := id h
  obtain ⟨q1, q2, q3, q4, q5, q6, q7, q8, q9, q10⟩ := id hd
  have hW2 := hG.2.1
  have hL := MR_lay hM hW2 (dS d)
  rw [cp4_self] at hL
  have e7 : lay M 10 7 = dH d := by rw [lay_lo (by decide)]; exact hM.2.2.2.2.1
  obtain ⟨M2, f1, f2, f3⟩ := L_gr hG hn hf (fun v3 mno => some ((iI 1), mno)) (dH d) q7 q8 n 0 FU d (lay M 10) (by omega) (by unfold FU; omega) hd hL e7
  refine ⟨M2, ?_, hG, hd, ?_⟩
  · unfold f6_isRow
    rw [layTrial_s, Option.bind_some]
    cases hb : grB K P U W T n f n 0 d with
    | true => exact f2 hb
    | false => exact f3 hb
  · exact MR_move hW2 hM (fun i i1 i2 => by rw [f1 (0 + i) (by omega), lay_lo (by omega)])
/-- the answer: from n calls on -/
def fwA (K P U : Int → Int) (W T : Int) (d : DZ) (v : Int32) : Nat → Nat → Int32
  | 0, _ => iI (-9)
  | c + 1, n => match (List.range' 0 (10 ^ n)).find? (fun f => grB K P U W T n f n 0 d) with
    | some f => if v = 0 then iI (n : Int) else iI (f : Int)
    | none => fwA K P U W T d v c (n + 1)
theorem L_few19 {K P U : Int → Int} {W T : Int} {n : Nat} {d : DZ} (hn : n ≤ 4) (v : Int32) (k : Int32 → AZ → Option (Int32 × AZ)) : ∀ (c j N : Nat) (M : Int → Int), j + c = 10 ^ n → c < N → CX K P U W T d M → ∃ M2 : Int → Int, CX K P U W T d M2 ∧ l6_fewest_19 k v (iI (n : Int)) (iI W) (iI T) (aI K) (aI P) (aI U) N (iI (j : Int)) (aI M) = (match (List.range' j c).find? (fun f => grB K P U W T n f n 0 d) with | some f => some (if v = 0 then iI (n : Int) else iI (f : Int), aI M2) | none => k (iI ((10 ^ n : Nat) : Int)) (aI M2)) := by
  have hb := p10_b (m := n) (by omega)
  intro c
  induction c with
  | zero =>
    intro j N M h1 h2 h
    obtain ⟨N, rfl⟩ : ∃ q, N = q + 1 := ⟨N - 1, by omega⟩
    obtain rfl : j = 10 ^ n := by omega
    refine ⟨M, h, ?_⟩
    rw [l6_fewest_19, ten6 (by omega), Option.bind_some, if_pos (by rw [iI_le (by omega) (by omega) (by omega) (by omega)]; omega)]
    rfl
  | succ c ih =>
    intro j N M h1 h2 h
    obtain ⟨N, rfl⟩ : ∃ q, N = q + 1 := ⟨N - 1, by omega⟩
    obtain ⟨M3, e1, e2⟩ := isRow_s (n := n) (f := j) h (by omega) (by omega)
    obtain ⟨M4, f1, f2⟩ := ih (j + 1) N M3 (by omega) (by omega) e2
    rw [show ((j + 1 : Nat) : Int) = (j : Int) + 1 from rfl] at f2
    rw [l6_fewest_19, ten6 (by omega), Option.bind_some, if_neg (by rw [iI_le (by omega) (by omega) (by omega) (by omega)]; omega), e1, Option.bind_some, List.range'_succ, List.find?_cons]
    cases hg : grB K P U W T n j n 0 d with
    | true =>
      refine ⟨M3, e2, ?_⟩
      simp only [iB_eq0, Bool.true_eq_false, if_false]
      by_cases cv : v = 0
      · rw [if_pos cv, if_pos cv]
      · rw [if_neg cv, if_neg cv]
    | false =>
      refine ⟨M4, f1, ?_⟩
      simp only [iB_eq0, if_true, iI_add]
      exact f2
theorem L_few2 {K P U : Int → Int} {W T : Int} {d : DZ} (hl : dL d = 0) (v : Int32) : ∀ (c n N : Nat) (M : Int → Int), n + c = 5 → c < N → CX K P U W T d M → ∃ M2 : Int → Int, CX K P U W T d M2 ∧ l6_fewest_2 (fun v2 mno => some ((iI (-9)), mno)) v (iI W) (iI T) (aI K) (aI P) (aI U) N (iI (n : Int)) (aI M) = some (fwA K P U W T d v c n, aI M2) := by
  intro c
  induction c with
  | zero =>
    intro n N M h1 h2 h
    obtain ⟨N, rfl⟩ : ∃ q, N = q + 1 := ⟨N - 1, by omega⟩
    obtain rfl : n = 5 := by omega
    refine ⟨M, h, ?_⟩
    rw [l6_fewest_2, if_pos (by decide)]
    rfl
  | succ c ih =>
    intro n N M h1 h2 h
    obtain ⟨N, rfl⟩ : ∃ q, N = q + 1 := ⟨N - 1, by omega⟩
    have hb := p10_b (m := n) (by omega)
    have h10 : 10 ^ n ≤ 10000 := by
      have : ∀ q : Fin 5, 10 ^ q.val ≤ 10000 := by decide
      exact this ⟨n, by omega⟩
    obtain ⟨M3, e1, e2⟩ := L_few19 (n := n) (d := d) (by omega) v (fun v3 mno => (l6_fewest_2 (fun v2 mno => some ((iI (-9)), mno)) v (iI W) (iI T) (aI K) (aI P) (aI U) N (iI (n : Int) + (iI 1)) mno)) (10 ^ n) 0 FU M (by omega) (by unfold FU; omega) h
    have g8 : aI M (iI 8).toNatClampNeg = iI 0 := by rw [aI_get (by decide) (by decide), ← hl]; exact congrArg iI h.2.2.2.2.2.2.2.1
    rw [show ((0 : Nat) : Int) = 0 from rfl] at e2
    rw [l6_fewest_2, if_neg (by rw [iI_le (by decide) (by decide) (by omega) (by omega)]; omega), g8, if_pos (by decide), e2, fwA]
    cases (List.range' 0 (10 ^ n)).find? (fun f => grB K P U W T n f n 0 d) with
    | some f => exact ⟨M3, e1, rfl⟩
    | none =>
      obtain ⟨M4, f1, f2⟩ := ih (n + 1) N M3 (by omega) (by omega) e1
      refine ⟨M4, f1, ?_⟩
      show l6_fewest_2 _ v (iI W) (iI T) (aI K) (aI P) (aI U) N (iI (n : Int) + iI 1) (aI M3) = _
      rw [iI_add]
      exact f2
theorem L_few35 {K P U : Int → Int} {W : Nat} {T : Int} {n : Nat} {d : DZ} (hG : GOK K P U (W : Int) T) (hd : DOK (W : Int) d) (hn0 : 1 ≤ n) (hn : n ≤ 4) (v : Int32) (k : Int32 → AZ → Int32 → Int32 → Int32 → Int32 → Int32 → Int32 → KF5) : ∀ (c j N : Nat) (s1 : AZ) (c1 y1 o1 k1 h1 l1 : Int32), j + c = W ^ n → c < N → ∃ (s2 : AZ) (c2 y2 o2 k2 h2 l2 : Int32), l5_fewest_35 k v (iI ((W ^ n : Nat) : Int)) (iI (n : Int)) (aI K) (aI P) (aI U) (iI (W : Int)) (iI T) (aI (dS d)) (iI (dC d)) (iI (dY d)) (iI (dO d)) (iI (dK d)) (iI (dH d)) (iI (dL d)) N (iI (j : Int)) s1 c1 y1 o1 k1 h1 l1 = (match (List.range' j c).find? (fun x => olB K P U T n (told W n x) n 0 d) with | some x => some (if v = 0 then iI (n : Int) else iI (told W n x : Int), s2, c2, y2, o2, k2, h2, l2) | none => k (iI ((W ^ n : Nat) : Int)) s2 c2 y2 o2 k2 h2 l2) := by
  have hW4 : W ≤ 4 := by have := hG.2.1; omega
  have hb : W ^ n ≤ 256 := by
    have : ∀ p : Fin 5, ∀ q : Fin 5, p.val ^ q.val ≤ 256 := by decide
    exact this ⟨W, by omega⟩ ⟨n, by omega⟩
  have hb10 := p10_b (m := n) (by omega)
  intro c
  induction c with
  | zero =>
    intro j N s1 c1 y1 o1 k1 h1 l1 e1 e2
    obtain ⟨N, rfl⟩ : ∃ q, N = q + 1 := ⟨N - 1, by omega⟩
    obtain rfl : j = W ^ n := by omega
    refine ⟨s1, c1, y1, o1, k1, h1, l1, ?_⟩
    rw [l5_fewest_35, if_pos (by rw [iI_le (by omega) (by omega) (by omega) (by omega)]; omega)]
    rfl
  | succ c ih =>
    intro j N s1 c1 y1 o1 k1 h1 l1 e1 e2
    obtain ⟨N, rfl⟩ : ∃ q, N = q + 1 := ⟨N - 1, by omega⟩
    have hW1 : 1 ≤ W := by
      by_cases cW : W = 0
      · subst cW
        rw [Nat.zero_pow (by omega)] at e1
        omega
      · omega
    obtain ⟨t1, t2⟩ := told_in (x := j) hW4 hn (by omega)
    obtain ⟨s3, c3, y3, o3, k3, h3, l3, eo⟩ := onlyLast_s (n := n) (f := told W n j) hG hd (by omega) (by omega) (fun q hq => vld_q t2 hq) s1 y1 o1 k1
    obtain ⟨s4, c4, y4, o4, k4, h4, l4, ei⟩ := ih (j + 1) N s3 c3 y3 o3 k3 h3 l3 (by omega) (by omega)
    rw [show ((j + 1 : Nat) : Int) = (j : Int) + 1 from rfl] at ei
    rw [l5_fewest_35, if_neg (by rw [iI_le (by omega) (by omega) (by omega) (by omega)]; omega), nthRow_s hW1 hW4 (by omega) (by omega), Option.bind_some, eo, Option.bind_some, List.range'_succ, List.find?_cons]
    cases hg : olB K P U T n (told W n j) n 0 d with
    | true =>
      refine ⟨s3, c3, y3, o3, k3, h3, l3, ?_⟩
      simp only [iB_eq0, Bool.true_eq_false, if_false]
      by_cases cv : v = 0
      · rw [if_pos cv, if_pos cv]
      · rw [if_neg cv, if_neg cv]
    | false =>
      refine ⟨s4, c4, y4, o4, k4, h4, l4, ?_⟩
      simp only [iB_eq0, if_true, iI_add]
      exact ei
theorem gr_tab {K P U : Int → Int} {W : Nat} {T : Int} {n : Nat} {d : DZ} (hW : W ≤ 4) (hn : n ≤ 4) : (List.range' 0 (10 ^ n)).find? (fun f => grB K P U (W : Int) T n f n 0 d) = ((List.range' 0 (W ^ n)).find? (fun x => olB K P U T n (told W n x) n 0 d)).map (told W n) := find_tab hW hn (fun f => olB K P U T n f n 0 d) _ (fun f => by
    show grB K P U (W : Int) T n f n 0 d = _
    rw [gr_ol n 0 d (by omega), vld_i])
theorem L_few17 {K P U : Int → Int} {W : Nat} {T : Int} {d : DZ} (hG : GOK K P U (W : Int) T) (hd : DOK (W : Int) d) (v : Int32) : ∀ (c m N : Nat) (s1 : AZ) (c1 y1 o1 k1 h1 l1 : Int32), m + 1 + c = 5 → c < N → ∃ (s2 : AZ) (c2 y2 o2 k2 h2 l2 : Int32), l5_fewest_17 (fun v2 v3 tst tch tya tow tca thu tle => some ((iI (-9)), tst, tch, tya, tow, tca, thu, tle)) v (aI K) (aI P) (aI U) (iI (W : Int)) (iI T) (aI (dS d)) (iI (dC d)) (iI (dY d)) (iI (dO d)) (iI (dK d)) (iI (dH d)) (iI (dL d)) N (iI ((W ^ m : Nat) : Int)) (iI ((m + 1 : Nat) : Int)) s1 c1 y1 o1 k1 h1 l1 = some (fwA K P U (W : Int) T d v c (m + 1), s2, c2, y2, o2, k2, h2, l2) := by
  have hW4 : W ≤ 4 := by have := hG.2.1; omega
  intro c
  induction c with
  | zero =>
    intro m N s1 c1 y1 o1 k1 h1 l1 e1 e2
    obtain ⟨N, rfl⟩ : ∃ q, N = q + 1 := ⟨N - 1, by omega⟩
    obtain rfl : m = 4 := by omega
    refine ⟨s1, c1, y1, o1, k1, h1, l1, ?_⟩
    rw [l5_fewest_17, if_pos (by decide)]
    rfl
  | succ c ih =>
    intro m N s1 c1 y1 o1 k1 h1 l1 e1 e2
    obtain ⟨N, rfl⟩ : ∃ q, N = q + 1 := ⟨N - 1, by omega⟩
    have hb : W ^ (m + 1) ≤ 256 := by
      have : ∀ p : Fin 5, ∀ q : Fin 5, p.val ^ q.val ≤ 256 := by decide
      exact this ⟨W, by omega⟩ ⟨m + 1, by omega⟩
    have em : iI ((W ^ m : Nat) : Int) * iI (W : Int) = iI ((W ^ (m + 1) : Nat) : Int) := by
      rw [iI_mul, Nat.pow_succ, Int.natCast_mul]
    obtain ⟨s3, c3, y3, o3, k3, h3, l3, e3⟩ := L_few35 (n := m + 1) hG hd (by omega) (by omega) v (fun v4 tst tch tya tow tca thu tle => (l5_fewest_17 (fun v2 v3 tst tch tya tow tca thu tle => some ((iI (-9)), tst, tch, tya, tow, tca, thu, tle)) v (aI K) (aI P) (aI U) (iI (W : Int)) (iI T) (aI (dS d)) (iI (dC d)) (iI (dY d)) (iI (dO d)) (iI (dK d)) (iI (dH d)) (iI (dL d)) N (iI ((W ^ (m + 1) : Nat) : Int)) (iI ((m + 1 : Nat) : Int) + iI 1) tst tch tya tow tca thu tle)) (W ^ (m + 1)) 0 FU s1 c1 y1 o1 k1 h1 l1 (by omega) (by unfold FU; omega)
    rw [show ((0 : Nat) : Int) = 0 from rfl] at e3
    rw [l5_fewest_17, if_neg (by rw [iI_lt (by decide) (by decide) (by omega) (by omega)]; omega), em, e3, fwA, gr_tab hW4 (by omega)]
    cases (List.range' 0 (W ^ (m + 1))).find? (fun x => olB K P U T (m + 1) (told W (m + 1) x) (m + 1) 0 d) with
    | some x => exact ⟨s3, c3, y3, o3, k3, h3, l3, rfl⟩
    | none =>
      obtain ⟨s4, c4, y4, o4, k4, h4, l4, e4⟩ := ih (m + 1) N s3 c3 y3 o3 k3 h3 l3 (by omega) (by omega)
      refine ⟨s4, c4, y4, o4, k4, h4, l4, ?_⟩
      have e5 : iI ((m + 1 : Nat) : Int) + iI 1 = iI ((m + 1 + 1 : Nat) : Int) := iI_add _ _
      show l5_fewest_17 _ v (aI K) (aI P) (aI U) (iI (W : Int)) (iI T) (aI (dS d)) (iI (dC d)) (iI (dY d)) (iI (dO d)) (iI (dK d)) (iI (dH d)) (iI (dL d)) N (iI ((W ^ (m + 1) : Nat) : Int)) (iI ((m + 1 : Nat) : Int) + iI 1) s3 c3 y3 o3 k3 h3 l3 = _
      rw [e5]
      exact e4
theorem op_fewest {K P U M : Int → Int} {W T : Int} {d : DZ} (h : CX K P U W T d M) (v : Int32) (s1 : AZ) (c1 y1 o1 k1 h1 l1 : Int32) : ∃ (r : Int32) (s2 : AZ) (c2 y2 o2 k2 h2 l2 : Int32) (M2 : Int → Int), CX K P U W T d M2 ∧ f5_fewest v (aI K) (aI P) (aI U) (iI W) (iI T) (aI (dS d)) (iI (dC d)) (iI (dY d)) (iI (dO d)) (iI (dK d)) (iI (dH d)) (iI (dL d)) s1 c1 y1 o1 k1 h1 l1 = some (r, s2, c2, y2, o2, k2, h2, l2) ∧ f6_fewest v (iI W) (iI T) (aI K) (aI P) (aI U) (aI M) = some (r, aI M2) := by
  obtain ⟨hG, hd, hM⟩ := id h
  obtain ⟨q1, q2, q3, q4, q5, q6, q7, q8, q9, q10⟩ := id hd
  unfold f5_fewest f6_fewest
  by_cases c : dL d = 0
  · obtain ⟨Wn, rfl⟩ := Int.eq_ofNat_of_zero_le hG.1
    obtain ⟨s2, c2, y2, o2, k2, h2, l2, e1⟩ := L_few17 hG hd v 4 0 FU s1 c1 y1 o1 k1 h1 l1 (by omega) (by unfold FU; omega)
    obtain ⟨M2, f1, f2⟩ := L_few2 c v 4 1 FU M (by omega) (by unfold FU; omega) h
    refine ⟨_, s2, c2, y2, o2, k2, h2, l2, M2, f1, ?_, f2⟩
    rw [if_pos (by rw [c]; decide)]
    exact e1
  · have g8 : aI M (iI 8).toNatClampNeg = iI 1 := by rw [aI_get (by decide) (by decide), show iI (M 8) = iI (dL d) from congrArg iI hM.2.2.2.2.2.1, show dL d = 1 by omega]
    refine ⟨iI (-9), s1, c1, y1, o1, k1, h1, l1, M, h, ?_, ?_⟩
    · rw [if_neg (by rw [iI_eq0 (by omega) (by omega)]; exact c)]
    · rw [show FU = 19999 + 1 from rfl, l6_fewest_2, if_neg (by decide), g8, if_neg (by decide)]
