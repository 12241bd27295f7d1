/-! the rows of WORDS alone, in their order, are the numbers of such figures -/
def tl (W : Nat) : Nat → Nat → Nat → Nat → Nat
  | 0, a, _, _ => a
  | c + 1, a, u, r => tl W c (a + (r % W + 1) * u) (u * 10) (r / W)
def told (W n k : Nat) : Nat := tl W n 0 1 k
def vld (W n f : Nat) : Bool := (List.range' 0 n).all (fun q => decide (1 ≤ dg n f q ∧ dg n f q ≤ W))
set_option maxRecDepth 100000 in
theorem tab_w : ∀ W : Fin 5, ∀ n : Fin 5, (List.range' 0 (10 ^ n.val)).filter (vld W.val n.val) = (List.range' 0 (W.val ^ n.val)).map (told W.val n.val) := by decide +kernel
theorem tab {W n : Nat} (hW : W ≤ 4) (hn : n ≤ 4) : (List.range' 0 (10 ^ n)).filter (vld W n) = (List.range' 0 (W ^ n)).map (told W n) := tab_w ⟨W, by omega⟩ ⟨n, by omega⟩
theorem told_in {W n x : Nat} (hW : W ≤ 4) (hn : n ≤ 4) (hx : x < W ^ n) : told W n x < 10 ^ n ∧ vld W n (told W n x) = true := by
  have h : told W n x ∈ (List.range' 0 (W ^ n)).map (told W n) := List.mem_map.mpr ⟨x, by rw [List.mem_range'_1]; omega, rfl⟩
  rw [← tab hW hn, List.mem_filter, List.mem_range'_1] at h
  exact ⟨by omega, h.2⟩
theorem vld_q {W n f q : Nat} (h : vld W n f = true) (hq : q < n) : 1 ≤ (dg n f q : Int) ∧ (dg n f q : Int) ≤ (W : Int) := by
  unfold vld at h
  have := of_decide_eq_true (List.all_eq_true.mp h q (by rw [List.mem_range'_1]; omega))
  omega
theorem vld_i (W n f : Nat) : (List.range' 0 n).all (fun q => decide (1 ≤ (dg n f q : Int) ∧ (dg n f q : Int) ≤ (W : Int))) = vld W n f := by
  unfold vld
  congr 1
  funext q
  by_cases c : 1 ≤ dg n f q ∧ dg n f q ≤ W
  · rw [decide_eq_true c, decide_eq_true (by omega)]
  · rw [decide_eq_false c, decide_eq_false (by omega)]
theorem find_tab {W n : Nat} (hW : W ≤ 4) (hn : n ≤ 4) (ol gr : Nat → Bool) (h : ∀ f, gr f = (vld W n f && ol f)) : (List.range' 0 (10 ^ n)).find? gr = ((List.range' 0 (W ^ n)).find? (fun x => ol (told W n x))).map (told W n) := by
  have e1 : ∀ l : List Nat, l.find? gr = (l.filter (vld W n)).find? ol := by
    intro l
    induction l with
    | nil => rfl
    | cons x l ih =>
      rw [List.find?_cons, List.filter_cons, h, ih]
      cases vld W n x with
      | false => rfl
      | true =>
        rw [Bool.true_and, if_pos rfl, List.find?_cons]
  rw [e1, tab hW hn, List.find?_map]
  rfl
/-! dogs alike on the first W words -/
def DEQ (W : Int) (t u : DZ) : Prop := (∀ w : Int, 0 ≤ w → w < W → dS t w = dS u w) ∧ dC t = dC u ∧ dY t = dY u ∧ dO t = dO u ∧ dK t = dK u ∧ dH t = dH u ∧ dL t = dL u
theorem DEQ_callB {K P U : Int → Int} {W T w : Int} {t u : DZ} (h : DEQ W t u) (h1 : 0 ≤ w) (h2 : w < W) : callB K P U T w t = callB K P U T w u := by
  obtain ⟨e1, e2, e3, e4, e5, e6, e7⟩ := h
  unfold callB
  rw [br_congr (e1 w h1 h2), e6, e3]
theorem DEQ_callD {K P U : Int → Int} {W T w : Int} {t u : DZ} (h : DEQ W t u) (h1 : 0 ≤ w) (h2 : w < W) : DEQ W (callD K P U T w t) (callD K P U T w u) := by
  have eb := DEQ_callB (K := K) (P := P) (U := U) (T := T) h h1 h2
  obtain ⟨e1, e2, e3, e4, e5, e6, e7⟩ := h
  unfold callD
  rw [eb]
  cases callB K P U T w u with
  | true =>
    rw [if_pos rfl, if_pos rfl]
    exact ⟨e1, e2, rfl, rfl, by show dK t + 1 = dK u + 1; rw [e5], e6, e7⟩
  | false =>
    rw [if_neg Bool.false_ne_true, if_neg Bool.false_ne_true]
    refine ⟨fun v v1 v2 => ?_, e2, by show min 9 (dY t + 1) = min 9 (dY u + 1); rw [e3], rfl, by show dK t + 1 = dK u + 1; rw [e5], e6, e7⟩
    show uz (dS t) w _ v = uz (dS u) w _ v
    by_cases c : v = w
    · rw [c, uz_same, uz_same, e1 w h1 h2]
    · rw [uz_ne c, uz_ne c]
      exact e1 v v1 v2
theorem DEQ_ol {K P U : Int → Int} {W T : Int} {n f : Nat} (hv : ∀ q : Nat, q < n → 1 ≤ (dg n f q : Int) ∧ (dg n f q : Int) ≤ W) : ∀ (c p : Nat) (t u : DZ), p + c = n → DEQ W t u → olB K P U T n f c p t = olB K P U T n f c p u := by
  intro c
  induction c with
  | zero => intro p t u _ _; rfl
  | succ c ih =>
    intro p t u h1 h
    have hq := hv p (by omega)
    rw [olB, olB, DEQ_callB h (by omega) (by omega), ih (p + 1) _ _ (by omega) (DEQ_callD h (by omega) (by omega))]
theorem DEQ_cp4 {W : Int} {d : DZ} (hW : W ≤ 4) (t : Int → Int) : DEQ W (cp4 (dS d) t, dC d, dY d, dO d, dK d, dH d, dL d) d := ⟨fun w h1 h2 => cp4_in h1 (by omega), rfl, rfl, rfl, rfl, rfl, rfl⟩
theorem cp4_self (s : Int → Int) : cp4 s s = s := by
  funext j
  unfold cp4
  split <;> rfl
/-! the class's next row -/
theorem L_nth {W n : Nat} (hW1 : 1 ≤ W) (hW : W ≤ 4) (hn : n ≤ 6) : ∀ (c i N a u r : Nat), i + c = n → c < N → r ≤ 1000000 → l5_nthRow_27 (fun v4 v5 v6 v7 => some v4) (iI (n : Int)) (iI (W : Int)) N (iI (a : Int)) (iI (u : Int)) (iI (r : Int)) (iI (i : Int)) = some (iI (tl W c a u r : Int)) := by
  intro c
  induction c with
  | zero =>
    intro i N a u r h1 h2 h3
    obtain ⟨N, rfl⟩ : ∃ q, N = q + 1 := ⟨N - 1, by omega⟩
    obtain rfl : i = n := by omega
    rw [l5_nthRow_27]
    simp (disch := omega) only [iI_add, iI_sub, iI_mul, iI_lt, iI_le, iI_eq, iI_lt0, iI_0lt, iI_le0, iI_0le, iI_eq0, iI_div, iI_rem, iI_max, iI_min, iI_abs, ib_iI, aI_get, aI_upd, iB_eq0, iB_eqi0, iB_eqi1, iB_t, iB_f, iB_ok, okB_0, okB_1, nar0, nar1, o2, o4, o6, o20, o36, o140, Option.bind_some, if_true, if_false, if_pos, if_neg, Int.reduceAdd, Int.reduceSub, Int.reduceMul, Int.reduceNeg, Int.zero_add, Int.add_zero]
    rfl
  | succ c ih =>
    intro i N a u r h1 h2 h3
    obtain ⟨N, rfl⟩ : ∃ q, N = q + 1 := ⟨N - 1, by omega⟩
    have hle : r / W ≤ r := Nat.div_le_self r W
    have ih2 := ih (i + 1) N (a + (r % W + 1) * u) (u * 10) (r / W) (by omega) (by omega) (by omega)
    rw [show ((i + 1 : Nat) : Int) = (i : Int) + 1 from rfl, show ((a + (r % W + 1) * u : Nat) : Int) = (a : Int) + ((r : Int) % (W : Int) + 1) * (u : Int) by rw [Int.natCast_add, Int.natCast_mul, Int.natCast_add, Int.natCast_emod]; rfl, show ((u * 10 : Nat) : Int) = (u : Int) * 10 from rfl, Int.natCast_ediv] at ih2
    rw [l5_nthRow_27, tl]
    simp (disch := omega) only [iI_add, iI_sub, iI_mul, iI_lt, iI_le, iI_eq, iI_lt0, iI_0lt, iI_le0, iI_0le, iI_eq0, iI_div, iI_rem, iI_max, iI_min, iI_abs, ib_iI, aI_get, aI_upd, iB_eq0, iB_eqi0, iB_eqi1, iB_t, iB_f, iB_ok, okB_0, okB_1, nar0, nar1, o2, o4, o6, o20, o36, o140, Option.bind_some, if_true, if_false, if_pos, if_neg, Int.reduceAdd, Int.reduceSub, Int.reduceMul, Int.reduceNeg, Int.zero_add, Int.add_zero]
    exact ih2
theorem nthRow_s {W n x : Nat} (hW1 : 1 ≤ W) (hW : W ≤ 4) (hn : n ≤ 6) (hx : x ≤ 1000000) : f5_nthRow (iI (x : Int)) (iI (n : Int)) (iI (W : Int)) = some (iI (told W n x : Int)) := by
  unfold f5_nthRow
  rw [if_pos (by rw [iI_le (by decide) (by decide) (by omega) (by omega)]; omega)]
  exact L_nth hW1 hW hn n 0 FU 0 1 x (by omega) (by unfold FU; omega) hx
