/-! walk: both sides -/
theorem L_kp (kz : Int → Int) (k : Int32 → AZ → KW5) : l5_walk_103 k FU (iI 0) (aI kz) = k (iI 2) (aI (uz (uz kz 0 0) 1 0)) := by
  rw [show FU = 19997 + 1 + 1 + 1 from rfl, l5_walk_103]
  simp (disch := omega) only [iI_add, iI_sub, iI_mul, iI_lt, iI_le, iI_eq, iI_lt0, iI_0lt, iI_le0, iI_0le, iI_eq0, iI_div, iI_rem, iI_max, iI_min, iI_abs, ib_iI, aI_get, aI_upd, iB_eq0, iB_eqi0, iB_eqi1, iB_t, iB_f, iB_ok, okB_0, okB_1, nar0, nar1, o2, o4, o6, o20, o36, o140, Option.bind_some, if_true, if_false, if_pos, if_neg, Int.reduceAdd, Int.reduceSub, Int.reduceMul, Int.reduceNeg, Int.zero_add, Int.add_zero]
  rw [l5_walk_103]
  simp (disch := omega) only [iI_add, iI_sub, iI_mul, iI_lt, iI_le, iI_eq, iI_lt0, iI_0lt, iI_le0, iI_0le, iI_eq0, iI_div, iI_rem, iI_max, iI_min, iI_abs, ib_iI, aI_get, aI_upd, iB_eq0, iB_eqi0, iB_eqi1, iB_t, iB_f, iB_ok, okB_0, okB_1, nar0, nar1, o2, o4, o6, o20, o36, o140, Option.bind_some, if_true, if_false, if_pos, if_neg, Int.reduceAdd, Int.reduceSub, Int.reduceMul, Int.reduceNeg, Int.zero_add, Int.add_zero]
  rw [l5_walk_103]
  simp (disch := omega) only [iI_add, iI_sub, iI_mul, iI_lt, iI_le, iI_eq, iI_lt0, iI_0lt, iI_le0, iI_0le, iI_eq0, iI_div, iI_rem, iI_max, iI_min, iI_abs, ib_iI, aI_get, aI_upd, iB_eq0, iB_eqi0, iB_eqi1, iB_t, iB_f, iB_ok, okB_0, okB_1, nar0, nar1, o2, o4, o6, o20, o36, o140, Option.bind_some, if_true, if_false, if_pos, if_neg, Int.reduceAdd, Int.reduceSub, Int.reduceMul, Int.reduceNeg, Int.zero_add, Int.add_zero]
theorem flN_le (X : Int → Int) (n : Int) : ∀ f i : Nat, flN X n f i ≤ 3 * (i : Int) + 3 * (f : Int) + 5 := by
  intro f
  induction f with
  | zero => intro i; show (-9 : Int) ≤ _; omega
  | succ f ih =>
    intro i
    have := ih (i + 1)
    rw [flN]
    repeat' split
    all_goals omega
theorem flZ_b (X : Int → Int) (n : Int) : -9 ≤ flZ X n ∧ flZ X n ≤ 100 := by
  have h1 := flN_le X n 12 0
  have h2 := flN_ge X n 12 0
  unfold flZ
  repeat' split
  all_goals omega
theorem walk_f {X : Int → Int} {n : Int} (h : TOK X n) (hv : flZ X n ≠ -9) (ki sp tu st kp mki mof mpu mno mik : AZ) (wo th ch ya ow ca hu le ai mwo mth mac a0 a1 a2 a3 : Int32) (R0 R1 : Int → Int) : f5_walk (aI X) (iI n) ki sp tu wo th st ch ya ow ca hu le kp ai = some (iI (-3), ki, sp, tu, wo, th, st, ch, ya, ow, ca, hu, le, kp, ai) ∧ ∃ (w t a f : Int32) (r0 r1 : AZ), f6_walk mwo mth a0 a1 (iI n) a2 a3 mac mki mof mpu mno (aI R0) (aI R1) (aI X) mik = some (iI (-3), mwo, mth, w, t, a, f, mac, mki, mof, mpu, mno, r0, r1, mik) := by
  have hb := flZ_b X n
  obtain ⟨w, t, a, f, r0, r1, q2⟩ := (readText_s h a0 a1 a2 a3 R0 R1).2 hv
  refine ⟨?_, w, t, a, f, r0, r1, ?_⟩
  · unfold f5_walk
    rw [firstFault_s h]
    simp (disch := omega) only [iI_add, iI_sub, iI_mul, iI_lt, iI_le, iI_eq, iI_lt0, iI_0lt, iI_le0, iI_0le, iI_eq0, iI_div, iI_rem, iI_max, iI_min, iI_abs, ib_iI, aI_get, aI_upd, iB_eq0, iB_eqi0, iB_eqi1, iB_t, iB_f, iB_ok, okB_0, okB_1, nar0, nar1, o2, o4, o6, o20, o36, o140, Option.bind_some, if_true, if_false, if_pos, if_neg, Int.reduceAdd, Int.reduceSub, Int.reduceMul, Int.reduceNeg, Int.zero_add, Int.add_zero]
  · unfold f6_walk
    rw [q2]
    simp (disch := omega) only [iI_add, iI_sub, iI_mul, iI_lt, iI_le, iI_eq, iI_lt0, iI_0lt, iI_le0, iI_0le, iI_eq0, iI_div, iI_rem, iI_max, iI_min, iI_abs, ib_iI, aI_get, aI_upd, iB_eq0, iB_eqi0, iB_eqi1, iB_t, iB_f, iB_ok, okB_0, okB_1, nar0, nar1, o2, o4, o6, o20, o36, o140, Option.bind_some, if_true, if_false, if_pos, if_neg, Int.reduceAdd, Int.reduceSub, Int.reduceMul, Int.reduceNeg, Int.zero_add, Int.add_zero]
theorem walk_t {X : Int → Int} {n : Int} (h : TOK X n) (hv : flZ X n = -9) (K P U s M R0 R1 kz : Int → Int) (ch ya ow ca hu le ai wo th mwo mth mac a0 a1 a2 a3 : Int32) : ∃ (K2 P2 U2 M2 : Int → Int) (W2 T2 : Int) (d2 : DZ) (a f : Int32) (r0 r1 : AZ), CX K2 P2 U2 W2 T2 d2 M2 ∧ f5_walk (aI X) (iI n) (aI K) (aI P) (aI U) wo th (aI s) ch ya ow ca hu le (aI kz) ai = some (iI (10 * W2 + T2), aI K2, aI P2, aI U2, iI W2, iI T2, aI (dS d2), iI (dC d2), iI (dY d2), iI (dO d2), iI (dK d2), iI (dH d2), iI (dL d2), aI (uz (uz kz 0 0) 1 0), iI 0) ∧ f6_walk mwo mth a0 a1 (iI n) a2 a3 mac (aI K) (aI P) (aI U) (aI M) (aI R0) (aI R1) (aI X) (aI kz) = some (iI (10 * W2 + T2), iI W2, iI T2, iI W2, iI T2, a, f, iI 0, aI K2, aI P2, aI U2, aI M2, r0, r1, aI (uz (uz kz 0 0) 1 0)) := by
  obtain ⟨t1, t2, t3⟩ := id h
  obtain ⟨e, he, q⟩ := (readText_s h a0 a1 a2 a3 R0 R1).1 hv
  have hz : (48 ≤ X 1 ∧ X 1 ≤ 57) ∧ (48 ≤ X 2 ∧ X 2 ≤ 57) ∧ flN X n 12 0 = -9 := by
    unfold flZ at hv
    by_cases c1 : n = 0 ∨ X 0 ≠ 68
    · rw [if_pos c1] at hv
      omega
    · rw [if_neg c1] at hv
      by_cases c2 : n ≤ 1 ∨ ¬ (48 ≤ X 1 ∧ X 1 ≤ 57)
      · rw [if_pos c2] at hv
        omega
      · rw [if_neg c2] at hv
        by_cases c3 : n ≤ 2 ∨ ¬ (48 ≤ X 2 ∧ X 2 ≤ 57)
        · rw [if_pos c3] at hv
          omega
        · rw [if_neg c3] at hv
          exact ⟨by omega, by omega, hv⟩
  obtain ⟨z1, z2, z3⟩ := hz
  have hB : ∀ j : Nat, j < e → blk X j := fun j hj => flN_ok 12 0 (by omega) (by omega) z3 e he j (by omega) hj
  obtain ⟨c1, c2, c3, c4⟩ := cnt_b e hB
  have bW := RWs_b (R0 := R0) e hB
  have bT := RTs_b (R0 := R1) e hB
  refine ⟨pre K (RWs X R0 e) (cW X e) 1, pre P (RTs X R1 e) (cT X e) 0, pre U (RTs X R1 e) (cT X e) 1, uz (uz (uz (pre (pre M (fun _ => 0) 10 0) (RWs X R0 e) (cW X e) 0) 4 (X 1 - 48)) 5 (X 2 - 48)) 6 (-9), cW X e, cT X e, (pre s (RWs X R0 e) (cW X e) 0, X 1 - 48, X 2 - 48, -9, 0, 0, 0), iI n, iI (-9), aI (RWs X R0 e), aI (RTs X R1 e), ⟨⟨c1, c2, ?_, c3, c4, ?_⟩, ⟨?_, ?_⟩, ?_⟩, ?_, ?_⟩
  · intro w w1 w2
    have := bW w w1 w2
    unfold pre
    rw [if_pos ⟨w1, w2⟩]
    exact this.2.2
  · intro w w1 w2
    have := bT w w1 w2
    unfold pre
    rw [if_pos ⟨w1, w2⟩, if_pos ⟨w1, w2⟩, Int.add_zero]
    exact this
  · intro w w1 w2
    have := bW w w1 w2
    show 0 ≤ pre s (RWs X R0 e) (cW X e) 0 w ∧ pre s (RWs X R0 e) (cW X e) 0 w ≤ 9
    unfold pre
    rw [if_pos ⟨w1, w2⟩, Int.add_zero]
    exact ⟨this.1, this.2.1⟩
  · show 0 ≤ X 1 - 48 ∧ X 1 - 48 ≤ 9 ∧ 0 ≤ X 2 - 48 ∧ X 2 - 48 ≤ 9 ∧ ((-9 : Int) = -9 ∨ (0 ≤ (-9 : Int) ∧ (-9 : Int) < cW X e)) ∧ (0 : Int) ≤ 0 ∧ (0 : Int) ≤ 1 ∧ (0 : Int) ≤ 0 ∧ (0 : Int) ≤ 1
    omega
  · refine ⟨?_, ?_, ?_, ?_, ?_, ?_, ?_⟩
    · intro w w1 w2
      show uz (uz (uz (pre (pre M (fun _ => 0) 10 0) (RWs X R0 e) (cW X e) 0) 4 (X 1 - 48)) 5 (X 2 - 48)) 6 (-9) (0 + w) = pre s (RWs X R0 e) (cW X e) 0 w
      rw [uz_ne (by omega), uz_ne (by omega), uz_ne (by omega), Int.zero_add]
      unfold pre
      rw [if_pos ⟨w1, w2⟩, if_pos ⟨w1, w2⟩]
    · rw [uz_ne (by decide), uz_ne (by decide), show (0 : Int) + 4 = 4 from rfl, uz_same]
    · rw [uz_ne (by decide), show (0 : Int) + 5 = 5 from rfl, uz_same]
    · rw [show (0 : Int) + 6 = 6 from rfl, uz_same]
    · rw [uz_ne (by decide), uz_ne (by decide), uz_ne (by decide)]
      unfold pre
      rw [if_neg (by omega), if_pos (by decide)]
    · rw [uz_ne (by decide), uz_ne (by decide), uz_ne (by decide)]
      unfold pre
      rw [if_neg (by omega), if_pos (by decide)]
    · rw [uz_ne (by decide), uz_ne (by decide), uz_ne (by decide)]
      unfold pre
      rw [if_neg (by omega), if_pos (by decide)]
  · have key := L_wk K P U s R0 R1 t2 he hB (fun v1 ki sp tu wo th st => l5_walk_103 (fun v1 kp => some ((((iI 10) * wo) + th), ki, sp, tu, wo, th, st, iI (X 1 - 48), iI (X 2 - 48), iI (-9), iI 0, iI 0, iI 0, kp, (iI 0))) FU (iI 0) (aI kz)) e 0 FU (by omega) (by unfold FU; omega)
    rw [show RWs X R0 0 = R0 from rfl, show RTs X R1 0 = R1 from rfl, show cW X 0 = 0 from rfl, show cT X 0 = 0 from rfl, pre_0, pre_0, pre_0, pre_0, show 3 * ((0 : Nat) : Int) + 3 = 3 from rfl, L_kp, iI_mul, iI_add] at key
    unfold f5_walk
    rw [firstFault_s h, hv, Option.bind_some, if_pos rfl, figureAt_s (by decide) (by decide), Option.bind_some, figureAt_s (by decide) (by decide), Option.bind_some]
    unfold f0_startAnew f1_clear
    rw [Option.bind_some, Option.bind_some]
    exact key
  · have k1 := L_m30 M (fun v1 mno => (l6_walk_51 (fun v1 mki mno => (l6_walk_97 (fun v1 mof mpu => some ((((iI 10) * iI (cW X e)) + iI (cT X e)), iI (cW X e), iI (cT X e), iI (cW X e), iI (cT X e), iI n, iI (-9), (iI 0), mki, mof, mpu, (upd (upd (upd mno (iI 4).toNatClampNeg ((aI X (iI 1).toNatClampNeg) - (iI 48))) (iI 5).toNatClampNeg ((aI X (iI 2).toNatClampNeg) - (iI 48))) (iI 6).toNatClampNeg (iI (-9))), aI (RWs X R0 e), aI (RTs X R1 e), (upd (upd (aI kz) (iI 0).toNatClampNeg (vp_nar .boolean (iI 0))) (iI 1).toNatClampNeg (vp_nar .boolean (iI 0))))) (iI (cT X e)) (aI (RTs X R1 e)) FU (iI 0) (aI P) (aI U))) (iI (cW X e)) (aI (RWs X R0 e)) FU (iI 0) (aI K) mno)) 10 0 FU (by omega) (by unfold FU; omega)
    have k2 := fun k => L_m51 K (pre M (fun _ => 0) 10 0) (RWs X R0 e) c2 k (cW X e).toNat 0 FU (by omega) (by unfold FU; omega)
    have k3 := fun k => L_m97 P U (RTs X R1 e) c4 k (cT X e).toNat 0 FU (by omega) (by unfold FU; omega)
    rw [show ((0 : Nat) : Int) = 0 from rfl, pre_0] at k1
    rw [show ((0 : Nat) : Int) = 0 from rfl, pre_0, pre_0] at k2 k3
    rw [k2, k3] at k1
    unfold f6_walk
    rw [q, Option.bind_some, if_pos rfl]
    refine k1.trans ?_
    simp (disch := omega) only [iI_add, iI_sub, iI_mul, iI_lt, iI_le, iI_eq, iI_lt0, iI_0lt, iI_le0, iI_0le, iI_eq0, iI_div, iI_rem, iI_max, iI_min, iI_abs, ib_iI, aI_get, aI_upd, iB_eq0, iB_eqi0, iB_eqi1, iB_t, iB_f, iB_ok, okB_0, okB_1, nar0, nar1, o2, o4, o6, o20, o36, o140, Option.bind_some, if_true, if_false, if_pos, if_neg, Int.reduceAdd, Int.reduceSub, Int.reduceMul, Int.reduceNeg, Int.zero_add, Int.add_zero]
