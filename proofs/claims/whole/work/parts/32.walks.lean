/-! walks -/
theorem chance_s (a : UInt64) : ∃ v : Int, 0 ≤ v ∧ v < 20 ∧ (rmL ((a >>> ((iI 33).toInt64.toUInt64 &&& Int64.toUInt64 63)).toInt64) (20 : Int64)).toInt32 = iI v := by
  have e33 : ((iI 33).toInt64.toUInt64 &&& Int64.toUInt64 63) = 33 := by decide
  rw [e33]
  have h1 : (a >>> 33).toNat = a.toNat / 2 ^ 33 := by
    rw [UInt64.toNat_shiftRight, Nat.shiftRight_eq_div_pow]
    rfl
  have h2 : a.toNat < 2 ^ 64 := a.toNat_lt
  have h3 : (a >>> 33).toNat < 2147483648 := by
    rw [h1]
    omega
  have hy : (a >>> 33).toInt64 = lI ((a >>> 33).toNat : Int) := by
    apply Int64.toInt_inj.mp
    rw [lI_toInt (by omega) (by omega)]
    show (a >>> 33).toBitVec.toInt = _
    rw [BitVec.toInt_eq_toNat_of_lt (by show 2 * (a >>> 33).toNat < 2 ^ 64; omega)]
    rfl
  rw [hy]
  generalize (a >>> 33).toNat = y at h3
  have hz1 : (0 : Int) ≤ (y : Int) := by omega
  have hz2 : (y : Int) < 2147483648 := by omega
  generalize (y : Int) = z at hz1 hz2
  refine ⟨z % 20, by omega, by omega, ?_⟩
  have e20 : (20 : Int64) = lI 20 := by decide
  have ed : lI z / lI 20 = lI (z / 20) := by
    apply Int64.toInt_inj.mp
    rw [Int64.toInt_div_of_ne_right _ _ (by decide), lI_toInt (by omega) hz2, lI_toInt (by decide) (by decide), lI_toInt (by omega) (by omega), Int.tdiv_eq_ediv_of_nonneg hz1]
  unfold rmL
  rw [e20, ed]
  unfold lI iI
  rw [← Int64.ofInt_mul, ← Int64.ofInt_sub, Int64.toInt32_ofInt, show z - z / 20 * 20 = z % 20 by omega]
theorem ret_b {K P U : Int → Int} {W T : Int} {t : DZ} {M : Int → Int} (hG : GOK K P U W T) (ht : DOK W t) (hM : MR W M 10 t) (h71 : 0 ≤ M 7) (h72 : M 7 ≤ 1) (hl : dL t = 0) {v : Int} (hv1 : 0 ≤ v) (hv2 : v < 20) (sd : Int64) (hc : (rmL ((((sd * (6364136223846793005 : Int64)) + (1442695040888963407 : Int64)).toUInt64 >>> ((iI 33).toInt64.toUInt64 &&& Int64.toUInt64 63)).toInt64) (20 : Int64)).toInt32 = iI v) (k : Int32 → Int32 → Int64 → AZ → Option (Int32 × Int64 × AZ)) {m i : Int} (hm1 : i < m) (hm2 : m ≤ 30) (hi : 0 ≤ i) (N : Nat) (z : Int32) : ∃ (b : Bool) (t2 : DZ) (M2 : Int → Int), f5_returnsFrom (iI v) (aI K) (aI P) (aI U) (iI W) (iI T) (aI (dS t)) (iI (dC t)) (iI (dY t)) (iI (dK t)) (iI (dH t)) = some (iB b, aI (dS t2), iI (dC t2), iI (dY t2), iI (dO t2), iI (dK t2)) ∧ (dH t2 = dH t ∧ dL t2 = dL t) ∧ DOK W t2 ∧ MR W M2 10 t2 ∧ MF M M2 10 ∧ l6_walks_23 k (iI m) (iI W) (iI T) (aI K) (aI P) (aI U) (N + 1) z (iI i) sd (aI M) = l6_walks_23 k (iI m) (iI W) (iI T) (aI K) (aI P) (aI U) N (z + iB b) (iI (i + 1)) ((sd * (6364136223846793005 : Int64)) + (1442695040888963407 : Int64)) (aI M2) := by
  obtain ⟨q1, q2, q3, q4, q5, q6, q7, q8, q9, q10⟩ := id ht
  have hW := hG.1
  have hW2 := hG.2.1
  have eT : ¬ (iB true = 0) := by decide
  have eF : iB false = 0 := by decide
  have g18 : aI M (iI 18).toNatClampNeg = iI 0 := by rw [aI_get (by decide) (by decide), ← hl]; exact congrArg iI hM.2.2.2.2.2.1
  have hi2 : ¬ (iI m ≤ iI i) := by rw [iI_le (by omega) (by omega) (by omega) (by omega)]; omega
  obtain ⟨M1, e1, e2, e3⟩ := runOn_s (lev := 1) (n := v % 5) ht hM (Or.inr rfl) hW2 (by omega) (by omega)
  have ht1 : DOK W (runD (v % 5) t) := runD_ok ht (by omega)
  have e71 : M1 7 = M 7 := e3 7 (by omega)
  unfold f5_returnsFrom
  rw [l6_walks_23, if_neg hi2, g18, if_pos (by decide), hc, iI_rem hv1 (by omega) (by decide) (by decide), iI_div hv1 (by omega) (by decide) (by decide), e1, Option.bind_some, runOff_s q4 (by omega) (by omega) (by omega), Option.bind_some, hasWord_s (by omega) (by omega) hW hW2, isWord_s (by omega) (by omega) hW hW2, iI_add]
  by_cases cw : 0 ≤ v / 5 ∧ v / 5 < W
  · rw [decide_eq_true cw]
    obtain ⟨M2, f1, f2, f3⟩ := callOn_s (M := M1) (lev := 1) hG ht1 e2 (Or.inr rfl) (by omega) (by omega) cw.1 cw.2
    have ec : f1_callHim (iI (v / 5)) (aI K) (aI P) (aI U) (iI T) (aI (dS t)) (iI (min 9 (dY t + v % 5))) (iI (dK t)) (iI (dH t)) = _ := callHim_s hG ht1 cw.1 cw.2
    have ht2 : DOK W (callD K P U T (v / 5) (runD (v % 5) t)) := callD_ok ht1 cw.1 cw.2
    have ek := callD_keep K P U T (v / 5) (runD (v % 5) t)
    have ekC : dC (callD K P U T (v / 5) (runD (v % 5) t)) = dC t := ek.1
    have ekH : dH (callD K P U T (v / 5) (runD (v % 5) t)) = dH t := ek.2.1
    have ekL : dL (callD K P U T (v / 5) (runD (v % 5) t)) = dL t := ek.2.2
    generalize hb : callB K P U T (v / 5) (runD (v % 5) t) = b at f1 ec
    generalize callD K P U T (v / 5) (runD (v % 5) t) = t3 at *
    cases b with
    | false =>
      refine ⟨false, t3, M2, ?_, ⟨ekH, ekL⟩, ht2, f2, fun j hj => by rw [f3 j hj, e3 j hj], ?_⟩
      · rw [Option.bind_some, if_neg eT, ec, Option.bind_some, if_pos eF, ekC]
        rfl
      · rw [Option.bind_some, if_neg eT, f1, Option.bind_some, if_pos eF]
        rfl
    | true =>
      have ep := canPay_s (lev := 1) ht2 f2 (Or.inr rfl) hW2
      obtain ⟨p1, p2, p3, p4, p5, p6, p7, p8, p9, p10⟩ := id ht2
      have e5 : f0_canBePaid (iI (dC t)) (iI (dO t3)) = some (iB (canPayB t3)) := by
        rw [← ekC]
        exact canBePaid_s p2 p3 (by omega) (by omega)
      cases hp : canPayB t3 with
      | false =>
        rw [hp] at ep e5
        refine ⟨true, t3, M2, ?_, ⟨ekH, ekL⟩, ht2, f2, fun j hj => by rw [f3 j hj, e3 j hj], ?_⟩
        · rw [Option.bind_some, if_neg eT, ec, Option.bind_some, if_neg eT, e5, Option.bind_some, if_pos eF, ekC]
          rfl
        · rw [Option.bind_some, if_neg eT, f1, Option.bind_some, if_neg eT, ep, Option.bind_some, if_pos eF]
          rfl
      | true =>
        have hp2 := of_decide_eq_true hp
        have ho : 0 ≤ dO t3 ∧ dO t3 < W := by omega
        have hs := p1 (dO t3) ho.1 ho.2
        obtain ⟨M3, g1, g2, g3⟩ := payOn_s (lev := 1) ht2 f2 (Or.inr rfl) hW2 hp
        rw [hp] at ep e5
        refine ⟨true, payD t3, M3, ?_, ⟨ekH, ekL⟩, payD_ok ht2 hp, g2, fun j hj => by rw [g3 j hj, f3 j hj, e3 j hj], ?_⟩
        · rw [Option.bind_some, if_neg eT, ec, Option.bind_some, if_neg eT, e5, Option.bind_some, if_neg eT, bePaid_s ho.1 (by omega) (by omega) (by omega), Option.bind_some, ← ekC]
          rfl
        · rw [Option.bind_some, if_neg eT, f1, Option.bind_some, if_neg eT, ep, Option.bind_some, if_neg eT, g1, Option.bind_some]
          rfl
  · rw [decide_eq_false cw]
    refine ⟨false, runD (v % 5) t, M1, ?_, ⟨rfl, rfl⟩, ht1, e2, e3, ?_⟩
    · rw [Option.bind_some, if_pos eF]
      rfl
    · rw [Option.bind_some, if_pos eF]
      rfl
theorem L_walks {K P U : Int → Int} {W T : Int} (hG : GOK K P U W T) {m : Int} (hm2 : m ≤ 30) (h l : Int) (hl0 : 0 ≤ l) (hl1 : l ≤ 1) : ∀ (c : Nat) (i : Int) (N1 N2 : Nat) (t : DZ) (M : Int → Int) (z : Int32) (sd : Int64), i + (c : Int) = m → 0 ≤ i → c < N1 → c < N2 → DOK W t → MR W M 10 t → 0 ≤ M 7 → M 7 ≤ 1 → dH t = h → dL t = l → ∃ (r : Int32) (sd2 : Int64) (t2 : DZ) (M2 : Int → Int), l5_walks_29 (fun v2 v3 tst tch tya tow tca sd => some (v2, tst, tch, tya, tow, tca, iI h, iI l, sd)) (iI m) (aI K) (aI P) (aI U) (iI W) (iI T) (iI h) (iI l) N1 z (iI i) (aI (dS t)) (iI (dC t)) (iI (dY t)) (iI (dO t)) (iI (dK t)) sd = some (r, aI (dS t2), iI (dC t2), iI (dY t2), iI (dO t2), iI (dK t2), iI h, iI l, sd2) ∧ l6_walks_23 (fun v2 v3 msd mno => some (v2, msd, mno)) (iI m) (iI W) (iI T) (aI K) (aI P) (aI U) N2 z (iI i) sd (aI M) = some (r, sd2, aI M2) ∧ MF M M2 10 := by
  have eT : ¬ (iB true = 0) := by decide
  have eF : iB false = 0 := by decide
  intro c
  induction c with
  | zero =>
    intro i N1 N2 t M z sd h1 h2 h3 h4 ht hM h71 h72 eh el
    obtain ⟨N1, rfl⟩ : ∃ q, N1 = q + 1 := ⟨N1 - 1, by omega⟩
    obtain ⟨N2, rfl⟩ : ∃ q, N2 = q + 1 := ⟨N2 - 1, by omega⟩
    obtain rfl : i = m := by omega
    refine ⟨z, sd, t, M, ?_, ?_, fun j _ => rfl⟩
    · rw [l5_walks_29, if_pos (by rw [iI_le (by omega) (by omega) (by omega) (by omega)]; omega)]
    · rw [l6_walks_23, if_pos (by rw [iI_le (by omega) (by omega) (by omega) (by omega)]; omega)]
  | succ c ih =>
    intro i N1 N2 t M z sd h1 h2 h3 h4 ht hM h71 h72 eh el
    obtain ⟨N1, rfl⟩ : ∃ q, N1 = q + 1 := ⟨N1 - 1, by omega⟩
    obtain ⟨N2, rfl⟩ : ∃ q, N2 = q + 1 := ⟨N2 - 1, by omega⟩
    have hi2 : ¬ (iI m ≤ iI i) := by rw [iI_le (by omega) (by omega) (by omega) (by omega)]; omega
    by_cases cl : l = 0
    · obtain ⟨v, v1, v2, hv⟩ := chance_s ((sd * (6364136223846793005 : Int64)) + (1442695040888963407 : Int64)).toUInt64
      obtain ⟨b, t3, M3, r1, r2, r3, r4, r5, r6⟩ := ret_b hG ht hM h71 h72 (by omega) v1 v2 sd hv (fun v2 v3 msd mno => some (v2, msd, mno)) (m := m) (i := i) (by omega) hm2 h2 N2 z
      have e7 := r5 7 (by omega)
      obtain ⟨r, sd2, t4, M4, k1, k2, k3⟩ := ih (i + 1) N1 N2 t3 M3 (z + iB b) ((sd * (6364136223846793005 : Int64)) + (1442695040888963407 : Int64)) (by omega) (by omega) (by omega) (by omega) r3 r4 (by omega) (by omega) (by rw [r2.1, eh]) (by rw [r2.2, el])
      refine ⟨r, sd2, t4, M4, ?_, ?_, fun j hj => by rw [k3 j hj, r5 j hj]⟩
      · rw [← k1, l5_walks_29, if_neg hi2, if_pos (by rw [cl]; decide), hv, ← eh, r1, Option.bind_some, iI_add]
        cases b with
        | true =>
          rw [if_neg eT]
          rfl
        | false =>
          rw [if_pos eF, iB_f, ← iI_zero, Int32.add_zero]
      · rw [r6, k2]
    · obtain ⟨r, sd2, t4, M4, k1, k2, k3⟩ := ih (i + 1) N1 N2 t M z ((sd * (6364136223846793005 : Int64)) + (1442695040888963407 : Int64)) (by omega) (by omega) (by omega) (by omega) ht hM h71 h72 eh el
      have g18 : aI M (iI 18).toNatClampNeg = iI l := by rw [aI_get (by decide) (by decide), ← el]; exact congrArg iI hM.2.2.2.2.2.1
      refine ⟨r, sd2, t4, M4, ?_, ?_, k3⟩
      · rw [← k1, l5_walks_29, if_neg hi2, if_neg (by rw [iI_eq0 (by omega) (by omega)]; exact cl), iI_add]
      · rw [← k2, l6_walks_23, if_neg hi2, g18, if_neg (by rw [iI_eq0 (by omega) (by omega)]; exact cl), iI_add]
theorem op_walks {K P U M : Int → Int} {W T : Int} {d : DZ} (h : CX K P U W T d M) (v1 : Int32) (s1 : AZ) (c1 y1 o1 k1 h1 l1 : Int32) (sd : Int64) : ∃ (r : Int32) (s2 : AZ) (c2 y2 o2 k2 h2 l2 : Int32) (sd2 : Int64) (M2 : Int → Int), CX K P U W T d M2 ∧ f5_walks v1 (aI K) (aI P) (aI U) (iI W) (iI T) (aI (dS d)) (iI (dC d)) (iI (dY d)) (iI (dO d)) (iI (dK d)) (iI (dH d)) (iI (dL d)) s1 c1 y1 o1 k1 h1 l1 sd = some (r, s2, c2, y2, o2, k2, h2, l2, sd2) ∧ f6_walks v1 (iI W) (iI T) sd (aI K) (aI P) (aI U) (aI M) = some (r, sd2, aI M2) := by
  obtain ⟨m, a1, a2, rfl⟩ := iI_of v1
  obtain ⟨t, rfl⟩ := aI_of s1
  obtain ⟨hG, hd, hM⟩ := id h
  obtain ⟨q1, q2, q3, q4, q5, q6, q7, q8, q9, q10⟩ := id hd
  have hW2 := hG.2.1
  have eT : ¬ (iB true = 0) := by decide
  have eF : iB false = 0 := by decide
  unfold f5_walks f6_walks
  rw [lN1, lL30, in_s a1 a2 (by decide) (by decide) (by decide) (by decide)]
  by_cases ca : 1 ≤ m ∧ m ≤ 30
  · rw [decide_eq_true ca]
    have eH : okB (iI (dH d)) = true := by
      by_cases c : dH d = 0
      · rw [c]; decide
      · rw [show dH d = 1 by omega]; decide
    have eL : okB (iI (dL d)) = true := by
      by_cases c : dL d = 0
      · rw [c]; decide
      · rw [show dL d = 1 by omega]; decide
    have ht : DOK W (cp4 (dS d) t, dC d, dY d, dO d, dK d, dH d, dL d) := DOK_cp4 hd hW2 t
    have hL := MR_lay hM hW2 t
    have e7 : lay M 10 7 = dH d := by rw [lay_lo (by decide)]; exact hM.2.2.2.2.1
    obtain ⟨r, sd2, t2, M2, j1, j2, j3⟩ := L_walks hG ca.2 (dH d) (dL d) q9 q10 m.toNat 0 FU FU (cp4 (dS d) t, dC d, dY d, dO d, dK d, dH d, dL d) (lay M 10) (iI 0) sd (by omega) (by decide) (by unfold FU; omega) (by unfold FU; omega) ht hL (by omega) (by omega) rfl rfl
    refine ⟨r, aI (dS t2), iI (dC t2), iI (dY t2), iI (dO t2), iI (dK t2), iI (dH d), iI (dL d), sd2, M2, ⟨hG, hd, MR_move hW2 hM (fun i i1 i2 => by rw [j3 (0 + i) (by omega), lay_lo (by omega)])⟩, ?_, ?_⟩
    · rw [if_neg (by rw [iI_lt a1 a2 (by decide) (by decide)]; omega), if_pos (by rw [iI_le a1 a2 (by decide) (by decide)]; omega), copyFrom_s eH eL, Option.bind_some]
      exact j1
    · rw [Option.bind_some, if_neg eT, layTrial_s, Option.bind_some]
      exact j2
  · rw [decide_eq_false ca]
    refine ⟨iI (-2), aI t, c1, y1, o1, k1, h1, l1, sd, M, h, ?_, ?_⟩
    · by_cases c3 : m < 1
      · rw [if_pos (by rw [iI_lt a1 a2 (by decide) (by decide)]; exact c3)]
      · rw [if_neg (by rw [iI_lt a1 a2 (by decide) (by decide)]; exact c3), if_neg (by rw [iI_le a1 a2 (by decide) (by decide)]; omega)]
    · rw [Option.bind_some, if_pos eF]
