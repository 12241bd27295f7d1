/-! the law, from its entry, for a room of 561 slots (begun from kit/laws/SKELETON.whole; its room is mine) -/
section
variable {p : Program} {l : Launch} {e : Env} {s : State} {m : MethodId} {below : List Frame} {meth : Method} {c : Code} {Q : State → Prop} {b L : Nat} {xs : Nat → Int32} {G : va_G} {cI cZ : ClassId} {q0 q1 q2 q3 q4 q5 q6 q7 q8 q9 q10 q11 q12 q13 q14 q15 q16 q17 q18 q19 m0 m1 m2 m3 m4 m5 m6 m7 m8 m9 m10 m11 m12 m13 : Nat}
set_option maxHeartbeats 4000000 in
set_option maxRecDepth 100000 in
theorem law_loop (Y : Cx p m meth c cL_law 4 s #[Value.ref b] RL (some .boolean)) (hK : va_K G vwCl (tyL cI cZ) s) (hX : va_X b L xs s s.heap) (hbl : b < s.heap.size) (hL : L ≤ 2048) (hexit : ∀ (H : Heap) (locs : List Loc) (ls : Array Slot), va_S (AL s) s.heap H locs → W p l e R5 s m #[Value.ref b] below meth c H locs 34 561 Q (F0 m 956 ls [])) :
    ∀ (n i : Nat), L < i + n → ∀ (wb wm : va_W) (H : Heap) (locs : List Loc) (ls : Array Slot), PAIR cI cZ q0 q1 q2 q3 q4 q5 q6 q7 q8 q9 q10 q11 q12 q13 q14 q15 q16 q17 q18 q19 m0 m1 m2 m3 m4 m5 m6 m7 m8 m9 m10 m11 m12 m13 wb wm → va_P G vwCl wb H → va_P G vwCl wm H → D2 (AL s) wb wm → va_S (AL s) s.heap H locs → lv_has ls 4 [(0, .ref b), (1, .ref q0), (2, .ref m0), (3, .int (iI (i : Int)))] → i ≤ L + 4 → W p l e R5 s m #[Value.ref b] below meth c H locs 34 561 Q (F0 m 18 ls []) := by
  intro n
  induction n with
  | zero =>
    intro i h1 wb wm H locs ls hI hPB hPM hD hS hl h2
    refine lv_iload_n Y.1.1 Y.1.2.1 dL_law_18 rfl (lv_at hl 3 rfl) ?_
    refine lv_aload_n Y.1.1 Y.1.2.1 dL_law_19 rfl (lv_at hl 0 rfl) ?_
    refine va_slen Y.1.1 Y.1.2.1 hX hbl (Nat.not_le.mpr hbl) hS dL_law_20 ?_
    refine lv_iconst (v := iI 4) Y.1.1 Y.1.2.1 dL_law_21 rfl ?_
    refine lv_isub Y.1.1 Y.1.2.1 dL_law_22 ?_
    refine lv_icmp_gt (tgt := 956) Y.1.1 Y.1.2.1 dL_law_23 (by decide) (fun _ => hexit H locs ls hS) (fun hc => absurd ?_ hc)
    rw [oN, iI_sub, iI_lt (by omega) (by omega) (by omega) (by omega)]
    omega
  | succ n ih =>
    intro i h1 wb wm H locs ls hI hPB hPM hD hS hl h2
    refine lv_iload_n Y.1.1 Y.1.2.1 dL_law_18 rfl (lv_at hl 3 rfl) ?_
    refine lv_aload_n Y.1.1 Y.1.2.1 dL_law_19 rfl (lv_at hl 0 rfl) ?_
    refine va_slen Y.1.1 Y.1.2.1 hX hbl (Nat.not_le.mpr hbl) hS dL_law_20 ?_
    refine lv_iconst (v := iI 4) Y.1.1 Y.1.2.1 dL_law_21 rfl ?_
    refine lv_isub Y.1.1 Y.1.2.1 dL_law_22 ?_
    refine lv_icmp_gt (tgt := 956) Y.1.1 Y.1.2.1 dL_law_23 (by decide) (fun _ => hexit H locs ls hS) (fun hc => ?_)
    rw [oN, iI_sub, iI_lt (by omega) (by omega) (by omega) (by omega)] at hc
    have hiL : i + 4 ≤ L := by omega
    refine lv_aload_n Y.1.1 Y.1.2.1 dL_law_26 rfl (lv_at hl 0 rfl) ?_
    refine lv_iload_n Y.1.1 Y.1.2.1 dL_law_27 rfl (lv_at hl 3 rfl) ?_
    refine va_sld Y.1.1 Y.1.2.1 hX hbl (Nat.not_le.mpr hbl) hS (lawin0 (by omega) hL) dL_law_28 ?_
    refine lv_bipush (v := iI 31) Y.1.1 Y.1.2.1 dL_law_29 (by decide) ?_
    refine lv_iand Y.1.1 Y.1.2.1 dL_law_31 ?_
    have tail : ∀ (wb wm : va_W) (H : Heap) (locs : List Loc), PAIR cI cZ q0 q1 q2 q3 q4 q5 q6 q7 q8 q9 q10 q11 q12 q13 q14 q15 q16 q17 q18 q19 m0 m1 m2 m3 m4 m5 m6 m7 m8 m9 m10 m11 m12 m13 wb wm → va_P G vwCl wb H → va_P G vwCl wm H → D2 (AL s) wb wm → va_S (AL s) s.heap H locs → W p l e R5 s m #[Value.ref b] below meth c H locs 34 561 Q (F0 m 950 ls []) := by
      intro wb wm H locs hI hPB hPM hD hS
      refine lv_iinc (v := iI ((i + 4 : Nat) : Int)) (lv' := [(3, .int (iI ((i + 4 : Nat) : Int))), (0, .ref b), (1, .ref q0), (2, .ref m0)]) Y.1.1 Y.1.2.1 dL_law_950 hl (k := 3) rfl (by show iI (i : Int) + iI 4 = _; rw [iI_add]; exact congrArg iI (by omega)) (by decide) rfl (fun ls hl => ?_)
      refine lv_goto (tgt := 18) Y.1.1 Y.1.2.1 dL_law_953 (by decide) ?_
      exact ih (i + 4) (by omega) wb wm H locs ls hI hPB hPM hD hS (lv_sub hl [1, 2, 3, 0] rfl) (by omega)
    generalize (xs (iI (i : Int)).toNatClampNeg &&& iI 31) = k0
    by_cases s_0 : k0 = iI 0
    · exact tbIn (k := 0) (off := 132) (tgt := 164) Y dL_law_32 s_0 (by decide) (by decide) (by decide) rfl (by decide) (LC_write Y hK hX hbl hL hiL hI hPB hPM hD hS hl tail)
    by_cases s_1 : k0 = iI 1
    · exact tbIn (k := 1) (off := 155) (tgt := 187) Y dL_law_32 s_1 (by decide) (by decide) (by decide) rfl (by decide) (LC_wipe Y hK hX hbl hL hiL hI hPB hPM hD hS hl tail)
    by_cases s_2 : k0 = iI 2
    · exact tbIn (k := 2) (off := 168) (tgt := 200) Y dL_law_32 s_2 (by decide) (by decide) (by decide) rfl (by decide) (LC_fault Y hK hX hbl hL hiL hI hPB hPM hD hS hl tail)
    by_cases s_3 : k0 = iI 3
    · exact tbIn (k := 3) (off := 181) (tgt := 213) Y dL_law_32 s_3 (by decide) (by decide) (by decide) rfl (by decide) (LC_walk Y hK hX hbl hL hiL hI hPB hPM hD hS hl tail)
    by_cases s_4 : k0 = iI 4
    · exact tbIn (k := 4) (off := 194) (tgt := 226) Y dL_law_32 s_4 (by decide) (by decide) (by decide) rfl (by decide) (LC_word Y hK hX hbl hL hiL hI hPB hPM hD hS hl tail)
    by_cases s_5 : k0 = iI 5
    · exact tbIn (k := 5) (off := 227) (tgt := 259) Y dL_law_32 s_5 (by decide) (by decide) (by decide) rfl (by decide) (LC_thing Y hK hX hbl hL hiL hI hPB hPM hD hS hl tail)
    by_cases s_6 : k0 = iI 6
    · exact tbIn (k := 6) (off := 260) (tgt := 292) Y dL_law_32 s_6 (by decide) (by decide) (by decide) rfl (by decide) (LC_pull Y hK hX hbl hL hiL hI hPB hPM hD hS hl tail)
    by_cases s_7 : k0 = iI 7
    · exact tbIn (k := 7) (off := 283) (tgt := 315) Y dL_law_32 s_7 (by decide) (by decide) (by decide) rfl (by decide) (LC_call Y hK hX hbl hL hiL hI hPB hPM hD hS hl tail)
    by_cases s_8 : k0 = iI 8
    · exact tbIn (k := 8) (off := 306) (tgt := 338) Y dL_law_32 s_8 (by decide) (by decide) (by decide) rfl (by decide) (LC_pay Y hK hX hbl hL hiL hI hPB hPM hD hS hl tail)
    by_cases s_9 : k0 = iI 9
    · exact tbIn (k := 9) (off := 319) (tgt := 351) Y dL_law_32 s_9 (by decide) (by decide) (by decide) rfl (by decide) (LC_run Y hK hX hbl hL hiL hI hPB hPM hD hS hl tail)
    by_cases s_10 : k0 = iI 10
    · exact tbIn (k := 10) (off := 342) (tgt := 374) Y dL_law_32 s_10 (by decide) (by decide) (by decide) rfl (by decide) (LC_lead Y hK hX hbl hL hiL hI hPB hPM hD hS hl tail)
    by_cases s_11 : k0 = iI 11
    · exact tbIn (k := 11) (off := 355) (tgt := 387) Y dL_law_32 s_11 (by decide) (by decide) (by decide) rfl (by decide) (LC_hunger Y hK hX hbl hL hiL hI hPB hPM hD hS hl tail)
    by_cases s_12 : k0 = iI 12
    · exact tbIn (k := 12) (off := 368) (tgt := 400) Y dL_law_32 s_12 (by decide) (by decide) (by decide) rfl (by decide) (LC_undo Y hK hX hbl hL hiL hI hPB hPM hD hS hl tail)
    by_cases s_13 : k0 = iI 13
    · exact tbIn (k := 13) (off := 381) (tgt := 413) Y dL_law_32 s_13 (by decide) (by decide) (by decide) rfl (by decide) (LC_comes Y hK hX hbl hL hiL hI hPB hPM hD hS hl tail)
    by_cases s_14 : k0 = iI 14
    · exact tbIn (k := 14) (off := 414) (tgt := 446) Y dL_law_32 s_14 (by decide) (by decide) (by decide) rfl (by decide) (LC_best Y hK hX hbl hL hiL hI hPB hPM hD hS hl tail)
    by_cases s_15 : k0 = iI 15
    · exact tbIn (k := 15) (off := 437) (tgt := 469) Y dL_law_32 s_15 (by decide) (by decide) (by decide) rfl (by decide) (LC_fewest Y hK hX hbl hL hiL hI hPB hPM hD hS hl tail)
    by_cases s_16 : k0 = iI 16
    · exact tbIn (k := 16) (off := 476) (tgt := 508) Y dL_law_32 s_16 (by decide) (by decide) (by decide) rfl (by decide) (LC_good Y hK hX hbl hL hiL hI hPB hPM hD hS hl tail)
    by_cases s_17 : k0 = iI 17
    · exact tbIn (k := 17) (off := 509) (tgt := 541) Y dL_law_32 s_17 (by decide) (by decide) (by decide) rfl (by decide) (LC_judge Y hK hX hbl hL hiL hI hPB hPM hD hS hl tail)
    by_cases s_18 : k0 = iI 18
    · exact tbIn (k := 18) (off := 542) (tgt := 574) Y dL_law_32 s_18 (by decide) (by decide) (by decide) rfl (by decide) (LC_see Y hK hX hbl hL hiL hI hPB hPM hD hS hl tail)
    by_cases s_19 : k0 = iI 19
    · exact tbIn (k := 19) (off := 585) (tgt := 617) Y dL_law_32 s_19 (by decide) (by decide) (by decide) rfl (by decide) (LC_unsee Y hK hX hbl hL hiL hI hPB hPM hD hS hl tail)
    by_cases s_20 : k0 = iI 20
    · exact tbIn (k := 20) (off := 598) (tgt := 630) Y dL_law_32 s_20 (by decide) (by decide) (by decide) rfl (by decide) (LC_may Y hK hX hbl hL hiL hI hPB hPM hD hS hl tail)
    by_cases s_21 : k0 = iI 21
    · exact tbIn (k := 21) (off := 621) (tgt := 653) Y dL_law_32 s_21 (by decide) (by decide) (by decide) rfl (by decide) (LC_share Y hK hX hbl hL hiL hI hPB hPM hD hS hl tail)
    by_cases s_22 : k0 = iI 22
    · exact tbIn (k := 22) (off := 670) (tgt := 702) Y dL_law_32 s_22 (by decide) (by decide) (by decide) rfl (by decide) (LC_rests Y hK hX hbl hL hiL hI hPB hPM hD hS hl tail)
    by_cases s_23 : k0 = iI 23
    · exact tbIn (k := 23) (off := 713) (tgt := 745) Y dL_law_32 s_23 (by decide) (by decide) (by decide) rfl (by decide) (LC_there Y hK hX hbl hL hiL hI hPB hPM hD hS hl tail)
    by_cases s_24 : k0 = iI 24
    · exact tbIn (k := 24) (off := 772) (tgt := 804) Y dL_law_32 s_24 (by decide) (by decide) (by decide) rfl (by decide) (LC_seed Y hK hX hbl hL hiL hI hPB hPM hD hS hl tail)
    by_cases s_25 : k0 = iI 25
    · exact tbIn (k := 25) (off := 826) (tgt := 858) Y dL_law_32 s_25 (by decide) (by decide) (by decide) rfl (by decide) (LC_walks Y hK hX hbl hL hiL hI hPB hPM hD hS hl tail)
    by_cases s_26 : k0 = iI 26
    · exact tbIn (k := 26) (off := 849) (tgt := 881) Y dL_law_32 s_26 (by decide) (by decide) (by decide) rfl (by decide) (LC_keep Y hK hX hbl hL hiL hI hPB hPM hD hS hl tail)
    by_cases s_27 : k0 = iI 27
    · exact tbIn (k := 27) (off := 872) (tgt := 904) Y dL_law_32 s_27 (by decide) (by decide) (by decide) rfl (by decide) (LC_again Y hK hX hbl hL hiL hI hPB hPM hD hS hl tail)
    by_cases s_28 : k0 = iI 28
    · exact tbIn (k := 28) (off := 895) (tgt := 927) Y dL_law_32 s_28 (by decide) (by decide) (by decide) rfl (by decide) (LC_count Y hK hX hbl hL hiL hI hPB hPM hD hS hl tail)
    have n_0 := sw_ne s_0 (by decide) (by decide)
    have n_1 := sw_ne s_1 (by decide) (by decide)
    have n_2 := sw_ne s_2 (by decide) (by decide)
    have n_3 := sw_ne s_3 (by decide) (by decide)
    have n_4 := sw_ne s_4 (by decide) (by decide)
    have n_5 := sw_ne s_5 (by decide) (by decide)
    have n_6 := sw_ne s_6 (by decide) (by decide)
    have n_7 := sw_ne s_7 (by decide) (by decide)
    have n_8 := sw_ne s_8 (by decide) (by decide)
    have n_9 := sw_ne s_9 (by decide) (by decide)
    have n_10 := sw_ne s_10 (by decide) (by decide)
    have n_11 := sw_ne s_11 (by decide) (by decide)
    have n_12 := sw_ne s_12 (by decide) (by decide)
    have n_13 := sw_ne s_13 (by decide) (by decide)
    have n_14 := sw_ne s_14 (by decide) (by decide)
    have n_15 := sw_ne s_15 (by decide) (by decide)
    have n_16 := sw_ne s_16 (by decide) (by decide)
    have n_17 := sw_ne s_17 (by decide) (by decide)
    have n_18 := sw_ne s_18 (by decide) (by decide)
    have n_19 := sw_ne s_19 (by decide) (by decide)
    have n_20 := sw_ne s_20 (by decide) (by decide)
    have n_21 := sw_ne s_21 (by decide) (by decide)
    have n_22 := sw_ne s_22 (by decide) (by decide)
    have n_23 := sw_ne s_23 (by decide) (by decide)
    have n_24 := sw_ne s_24 (by decide) (by decide)
    have n_25 := sw_ne s_25 (by decide) (by decide)
    have n_26 := sw_ne s_26 (by decide) (by decide)
    have n_27 := sw_ne s_27 (by decide) (by decide)
    have n_28 := sw_ne s_28 (by decide) (by decide)
    exact lv_tableOut (tgt := 950) Y.1.1 Y.1.2.1 dL_law_32 (by omega) (by decide) (tail wb wm H locs hI hPB hPM hD hS)
end
def R_law : String := "WhistleBackLaw"
def lw_P (b : Addr) (xs : List Int32) (args : Array Value) (s : State) : Prop := args = #[.ref b] ∧ s.IntsAt b xs ∧ xs.length ≤ 2048 ∧ (Jvm.Cond.and given_1 narrow_1).before args s = true
def lw_Q (_ : Array Value) (s : State) (o : Outcome) (t : State) : Prop := o = .returned (some (.int 1)) ∧ Framed s o t [] 34 561
def lw_Z (below : List Frame) (a : Array Value) (s : State) : State → Prop := fun t => ∃ o, t.status = .running ∧ Ended t below o ∧ lw_Q a s o t
/-- the law's own end, with 1 on the stack, nothing written that was there before, its room as the claim has it -/
theorem lw_ret {p : Program} {l : Launch} {e : Env} {s : State} {m : MethodId} {below : List Frame} {meth : Method} {c : Code} {b : Nat} (hx : p.tables.exec = Jvm.exec) (hb : c.code = code) (hr : meth.sig.returnType = ret) (hlocks : meth.locks = false) {pc : Nat} {H : Heap} {ls : Array Slot} (hdg : decode code pc = .ok (.ireturn, 1)) : W p l e R5 s m #[Value.ref b] below meth c H [] 34 561 (lw_Z below #[Value.ref b] s) (F0 m pc ls [.int 1]) := by
  intro T hT X
  obtain ⟨fs, hret, hrun, hended, hW, hframe⟩ := X.leave (v := some (.int 1)) (hlocks := hlocks) (fun h => by rw [hr] at h; cases h)
  have hmeth' : T.vm.method? m = some meth := X.method'
  refine ⟨T.setFrames fs, ?_, .returned (some (.int 1)), hrun, hended, rfl, ⟨_, rfl⟩, hW, hframe⟩
  jvm_step X.here [X.here.top, hx, hb, hdg, hmeth', hr, ret, narrow_b1]
  (try refine ⟨rfl, ?_⟩); (try refine ⟨rfl, ?_⟩)
  first | (intro acts; rw [hret _ acts rfl rfl rfl]) | rw [hret _ _ rfl rfl rfl]
  exact Steps.refl _
/-- what holds at the law's entry: the machine, the code, the tables' words (any of lw_tbl by 'hts w (by decide +kernel)'), the script of L ints xs at the cell b, what the Statement gives of the start (any of its parts by flat_of_before) -/
def lw_At (p : Program) (s : State) (m : MethodId) (meth : Method) (c : Code) (b L : Nat) (xs : Nat → Int32) : Prop :=
  p.tables.exec = Jvm.exec ∧ c.code = code ∧ meth.sig.returnType = ret ∧ c.maxLocals = 4 ∧ s.vm.findClass R_law = some m.cls ∧ (∀ w ∈ lw_tbl, w.before #[Value.ref b] s = true) ∧ va_X b L xs s s.heap ∧ b < s.heap.size ∧ meth.locks = false ∧ (Jvm.Cond.and given_1 narrow_1).before #[Value.ref b] s = true
theorem arr_of {args : Array Value} {s : State} {ty : FieldType} (hty : ty = .int ∨ ty = .boolean) (h : (Cond.arrayClass ty).before args s = true) : ∃ cA : ClassId, ArrOfT s cA ty ∧ va_RA s cA ty := by
  obtain ⟨cA, k, comp, h1, h2, h3⟩ := Cond.arrayClass_spec h
  refine ⟨cA, fun n z => ⟨fun k h => (by cases h), k, h2, comp, h3⟩, ?_⟩
  rcases hty with rfl | rfl <;> exact h1
set_option maxHeartbeats 4000000 in
set_option maxRecDepth 100000 in
theorem PAIR_0 {cI cZ : ClassId} {q0 q1 q2 q3 q4 q5 q6 q7 q8 q9 q10 q11 q12 q13 q14 q15 q16 q17 q18 q19 m0 m1 m2 m3 m4 m5 m6 m7 m8 m9 m10 m11 m12 m13 : Nat} : PAIR cI cZ q0 q1 q2 q3 q4 q5 q6 q7 q8 q9 q10 q11 q12 q13 q14 q15 q16 q17 q18 q19 m0 m1 m2 m3 m4 m5 m6 m7 m8 m9 m10 m11 m12 m13 (wB cI cZ q0 q1 q2 q3 q4 q5 q6 q7 q8 q9 q10 q11 q12 q13 q14 q15 q16 q17 q18 q19 (fun _ => 0) 0 (fun _ => 0) (fun _ => 0) (fun _ => 0) 0 0 (fun _ => 0) 0 0 (iI (-9)) 0 0 0 (fun _ => 0) 0 0 (iI (-9)) 0 0 0 (fun _ => 0) (fun _ => 0) (fun _ => 0) (fun _ => 0) (fun _ => 0) (fun _ => 0) 0 0 0) (wM cI cZ m0 m1 m2 m3 m4 m5 m6 m7 m8 m9 m10 m11 m12 m13 0 0 0 0 0 0 0 0 0 0 0 (fun _ => 0) (fun _ => 0) (fun _ => 0) (upd (fun _ => 0) (iI 6).toNatClampNeg (iI (-9))) (fun _ => 0) (fun _ => 0) (fun _ => 0) (fun _ => 0) (fun _ => 0) (fun _ => 0) (fun _ => 0) (fun _ => 0) (fun _ => 0)) := by
  refine ⟨(fun _ => 0), (fun _ => 0), (fun _ => 0), (fun _ => 0), (uz (fun _ => 0) 6 (-9)), (fun _ => 0), (fun _ => 0), (fun _ => 0), (fun _ => 0), (fun _ => 0), (fun _ => 0), (fun _ => 0), (fun _ => 0), (fun _ => 0), (fun _ => 0), (fun _ => 0), 0, 0, 0, 0, 0, 0, ((fun _ => 0), 0, 0, -9, 0, 0, 0), 0, 0, (iI (-9)), 0, 0, 0, 0, 0, 0, 0, 0, ⟨by decide, by decide, fun j _ _ => ⟨Int.le_refl 0, show (0 : Int) ≤ 255 by decide⟩⟩, ⟨⟨by decide, by decide, fun w h1 h2 => absurd h2 (by omega), ?_⟩, ⟨fun w h1 h2 => absurd h2 (by omega), by decide, by decide, by decide, by decide, Or.inl rfl, by decide, by decide, by decide, by decide⟩, ⟨fun w h1 h2 => absurd h2 (by omega), rfl, rfl, rfl, rfl, rfl, rfl⟩⟩, AR_0 _ _ (by decide) (by decide), SOK_0 _ _ _, KR_0 _ _ rfl rfl, ?_, ?_⟩
  · exact ⟨by decide, by decide, fun t h1 h2 => absurd h2 (by omega)⟩
  · rw [← aI_zero, ← iI_zero]
  · rw [← aI_upd (by decide) (by decide), ← aI_zero, ← iI_zero]
set_option maxHeartbeats 4000000 in
set_option maxRecDepth 100000 in
/-- the law, from its entry, in a room of 561 slots -/
theorem whole_start {p : Program} {e : Env} {s : State} {m : MethodId} {below : List Frame} {meth : Method} {c : Code} (l : Launch) (hflags : l.flags = flags0) {b L : Nat} {xs : Nat → Int32} (hL : L ≤ 2048) (C0 : lw_At p s m meth c b L xs) : W p l e R5 s m #[Value.ref b] below meth c s.heap [] 0 0 (lw_Z below #[Value.ref b] s) (entryFrame m ([Value.ref b] : List Value).toArray 4) := by
  obtain ⟨hx, hb, hr, hml, hown, hts, hX, hbl, hlocks, hgv⟩ := C0
  have X : Cx p m meth c cL_law 4 s #[Value.ref b] RL (some .boolean) := ⟨⟨hx, hb, hml, hown, TB_of hts⟩, NWs_of hts, hr, hlocks⟩
  have hA : ∀ q : Nat, s.heap.size ≤ q → AL s q := fun _ h => h
  obtain ⟨c0, iS0, hKn0⟩ := u_known (ws := TB) (C := RX0) (T := TX0) (N := 7) (n := 7) X.1.2.2.2.2 inX0 (X.1.2.2.2.2 _ tw95)
  obtain ⟨c1, iS1, hKn1⟩ := u_known (ws := TB) (C := RX1) (T := TX1) (N := 5) (n := 5) X.1.2.2.2.2 inX1 (X.1.2.2.2.2 _ tw71)
  obtain ⟨c2, iS2, hKn2⟩ := u_known (ws := TB) (C := RX2) (T := TX2) (N := 1) (n := 1) X.1.2.2.2.2 inX2 (X.1.2.2.2.2 _ tw140)
  obtain ⟨c3, iS3, hKn3⟩ := u_known (ws := TB) (C := RX3) (T := TX3) (N := 4) (n := 4) X.1.2.2.2.2 inX3 (X.1.2.2.2.2 _ tw150)
  obtain ⟨c4, iS4, hKn4⟩ := u_known (ws := TB) (C := RX4) (T := TX4) (N := 2) (n := 2) X.1.2.2.2.2 inX4 (X.1.2.2.2.2 _ tw56)
  obtain ⟨c5, iS5, hKn5⟩ := u_known (ws := TB) (C := RX5) (T := TX5) (N := 10) (n := 10) X.1.2.2.2.2 inX5 (X.1.2.2.2.2 _ tw48)
  obtain ⟨c6, iS6, hKn6⟩ := u_known (ws := TB) (C := RX6) (T := TX6) (N := 24) (n := 24) X.1.2.2.2.2 inX6 (X.1.2.2.2.2 _ tw580)
  obtain ⟨dC, dI, hKc⟩ : ∃ (dC : Nat → ClassId) (dI : Nat → Nat → Nat), ∀ (k : Nat) (q : vw_C), vwCl[k]? = some q → u_Kn s q.1 q.2.1 q.2.2 (dC k) (dI k) := by
    refine ⟨fun k => if k = 0 then c0 else if k = 1 then c1 else if k = 2 then c2 else if k = 3 then c3 else if k = 4 then c4 else if k = 5 then c5 else c6, fun k => if k = 0 then iS0 else if k = 1 then iS1 else if k = 2 then iS2 else if k = 3 then iS3 else if k = 4 then iS4 else if k = 5 then iS5 else iS6, ?_⟩
    intro k q hq
    match k, hq with
    | 0, hq => cases hq; exact hKn0
    | 1, hq => cases hq; exact hKn1
    | 2, hq => cases hq; exact hKn2
    | 3, hq => cases hq; exact hKn3
    | 4, hq => cases hq; exact hKn4
    | 5, hq => cases hq; exact hKn5
    | 6, hq => cases hq; exact hKn6
    | k + 7, hq => simp at hq
  obtain ⟨cI, hI1⟩ := arr_of (Or.inl rfl) (X.1.2.2.2.2 _ tw69)
  obtain ⟨cZ, hZ1⟩ := arr_of (Or.inr rfl) (X.1.2.2.2.2 _ tw169)
  have hS : va_S (AL s) s.heap s.heap [] := va_S.rf
  have hK : va_K (dC, dI) vwCl (tyL cI cZ) s := ⟨hKc, fun k q h => by
    match k, h with
    | 0, h => cases h; exact hI1
    | 1, h => cases h; exact hZ1
    | k + 2, h => simp at h⟩
  have hP : va_P (dC, dI) vwCl [] s.heap := fun k q h => by simp at h
  have hD : va_D (AL s) [] := ⟨fun i j p q h => by simp at h, fun k q h => by simp at h⟩
  have hl := lv_entry ([.ref b]) (n := 4) (Nat.le_of_ble_eq_true rfl)
  rw [lg_entry_eq]
  generalize (lg_sl ([.ref b]) ++ List.replicate (4 - (lg_sl ([.ref b])).length) Slot.unset).toArray = ls at hl ⊢
  have hl : lv_has ls 4 [(0, .ref b)] := hl
  refine va_new (ci := 5) (fs := dfX5) (own := RL) (C := RX5) (T := TX5) (N := 10) X.1.1 X.1.2.1 X.1.2.2.2.2 inX5 tyX5 tyX5_ok X.1.2.2.2.1 (X.1.2.2.2.2 _ tw47) (X.1.2.2.2.2 _ tw48) (X.1.2.2.2.2 _ tw39) hK hP hD hS hA rfl dvX5 (Nat.le_of_ble_eq_true rfl) (Nat.le_of_ble_eq_true rfl) dL_law_0 (fun q0 H hP hD hS => ?_)
  have hPn : va_P (dC, dI) vwCl [(q0, .inr (5, dfX5))] H := hP
  have hPo : va_P (dC, dI) vwCl [] H := fun k q h => by simp at h
  have hD : D2 (AL s) [] [(q0, .inr (5, dfX5))] := D2_of hD
  refine lv_dup X.1.1 X.1.2.1 dL_law_3 rfl ?_
  refine callN2 (As := []) (rest := [.ref q0]) (mc := 19) (ms := 263) X (i5 (l := l)) oi5 tw49 ⟨rfl, rfl, Nat.le_of_ble_eq_true rfl, Nat.le_of_ble_eq_true rfl⟩ hPo hPn hK hD hS hA rfl hl rfl (Nat.le_of_ble_eq_true rfl) ⟨Nat.le_of_ble_eq_true rfl, Nat.le_of_ble_eq_true rfl⟩ dL_law_4 (fun H locs w1 hw _ hPB hD hS => ?_)
  obtain ⟨q1, q2, q3, q4, q5, q6, q7, q8, q9, q10, q11, q12, q13, q14, q15, q16, q17, q18, q19, rfl⟩ := hw
  have hDB := hD.2.1
  refine lv_astore_n (lv' := [(1, .ref q0), (0, .ref b)]) X.1.1 X.1.2.1 dL_law_7 rfl hl (by decide) rfl (fun ls hl => ?_)
  refine va_new (ci := 6) (fs := dfX6) (own := RL) (C := RX6) (T := TX6) (N := 24) X.1.1 X.1.2.1 X.1.2.2.2.2 inX6 tyX6 tyX6_ok X.1.2.2.2.1 (X.1.2.2.2.2 _ tw579) (X.1.2.2.2.2 _ tw580) (X.1.2.2.2.2 _ tw45) hK hPB hDB hS hA rfl dvX6 (Nat.le_of_ble_eq_true rfl) (Nat.le_of_ble_eq_true rfl) dL_law_8 (fun m0 H hP hD hS => ?_)
  have hPB := P_left hP
  have hPn := P_right hP
  have hD := D2_of hD
  refine lv_dup X.1.1 X.1.2.1 dL_law_11 rfl ?_
  refine callN2 (As := []) (rest := [.ref m0]) (mc := 13) (ms := 264) X (i6 (l := l)) oi6 tw581 ⟨rfl, rfl, Nat.le_of_ble_eq_true rfl, Nat.le_of_ble_eq_true rfl⟩ hPB hPn hK hD hS hA rfl hl rfl (Nat.le_of_ble_eq_true rfl) ⟨Nat.le_of_ble_eq_true rfl, Nat.le_of_ble_eq_true rfl⟩ dL_law_12 (fun H locs w1 hw hPB hPM hD hS => ?_)
  obtain ⟨m1, m2, m3, m4, m5, m6, m7, m8, m9, m10, m11, m12, m13, rfl⟩ := hw
  refine lv_astore_n (lv' := [(2, .ref m0), (1, .ref q0), (0, .ref b)]) X.1.1 X.1.2.1 dL_law_15 rfl hl (by decide) rfl (fun ls hl => ?_)
  refine lv_iconst (v := iI 0) X.1.1 X.1.2.1 dL_law_16 rfl ?_
  refine lv_istore_n (lv' := [(3, .int (iI 0)), (2, .ref m0), (1, .ref q0), (0, .ref b)]) X.1.1 X.1.2.1 dL_law_17 rfl hl (by decide) rfl (fun ls hl => ?_)
  refine W.cs (cells' := 34) (slots' := 561) rfl rfl ?_
  refine law_loop X hK hX hbl hL (fun H locs ls hS => ?_) (L + 1) 0 (by omega) _ _ H locs ls PAIR_0 hPB hPM hD hS (lv_sub hl [3, 2, 1, 0] rfl) (by omega)
  refine lv_iconst (v := 1) X.1.1 X.1.2.1 dL_law_956 (by decide) ?_
  refine va_forget (fun q hq => hS.2.2 q hq) ?_
  exact lw_ret hx hb hr hlocks dL_law_957
set_option maxHeartbeats 4000000 in
theorem lw_walk (l : Launch) (hflags : l.flags = flags0) (b : Addr) (xs : List Int32) : MetFree l x (headSpec (Jvm.Cond.code x code maxLocals ret :: tables_1) R5) (lw_P b xs) (fun _ _ _ _ _ => True) lw_Q := by
  refine MetFree.of_bodyS (code := code) (maxLocals := maxLocals) (ret := ret) (by decide) ?_ ?_
  · intro args s m h hn
    obtain ⟨meth, c, h1, h2, h3, h4, h5, h6, -, -⟩ := Cond.code_spec hn (atoms_spec (ws := Jvm.Cond.code x code maxLocals ret :: tables_1) h _ List.mem_cons_self)
    exact ⟨meth, c, h1, h2, h3, h4, h5, h6⟩
  · intro p e s m args below meth c s₁ B hml0 hP _
    obtain ⟨rfl, hx, hbd, hgv⟩ := hP
    obtain ⟨scr, harrAt, hlist, hof, hsmall⟩ := hx
    obtain ⟨hcb, hkn, -, -⟩ := State.arrayAt?_spec harrAt
    have hown : s.vm.findClass R_law = some m.cls := findClass_of_methodNamed B.named
    have hts0 : ∀ c ∈ (Jvm.Cond.code x code maxLocals ret :: tables_1), c.before #[Value.ref b] s = true := atoms_spec (ws := Jvm.Cond.code x code maxLocals ret :: tables_1) B.pre
    have hts : ∀ w ∈ lw_tbl, w.before #[Value.ref b] s = true := k2_hts_sels lw_privs (fun w hw => hts0 w (List.mem_cons_of_mem _ hw)) lw_privs_ok
    have hml : c.maxLocals = 4 := B.maxLocals_eq (hts0 _ List.mem_cons_self)
    have X₀ : Stand p l e R5 s m #[Value.ref b] below meth c s₁ [] 0 0 := Stand.of_body B
    have hh0 : s₁.heap = s.heap := by rw [B.state]; rfl
    have hsz : scr.slots.size = xs.length := by rw [← Array.length_toList, hlist, List.length_map]
    have hval : ∀ j : Nat, j < xs.length → scr.slots[j]? = some (.int (xs.getD j 0)) := fun j hj => by
      rw [← Array.getElem?_toList, hlist]
      simp [hj]
    have hbl : b < s.heap.size := (Array.getElem?_eq_some_iff.mp hcb).1
    have hX : va_X b xs.length (fun j => xs.getD j 0) s s.heap := ⟨scr, hcb, hof, hkn, hsz, hval⟩
    have K : W p l e R5 s m #[Value.ref b] below meth c s₁.heap [] 0 0 (lw_Z below #[Value.ref b] s) (entryFrame m ([Value.ref b] : List Value).toArray 4) := by
      rw [hh0]
      exact whole_start l hflags hbd ⟨B.exec, B.bytes, B.returns, hml, hown, hts, hX, hbl, B.notSynchronized, hgv⟩
    obtain ⟨t, a1, o, b1, b2, b3⟩ := K s₁ rfl X₀
    exact ⟨t, o, a1, b1, b2, b3⟩
theorem lw_pre_spec {args : Array Value} {s : State} (h : (Jvm.Cond.and given_1 narrow_1).before args s = true) (hr : rest_1_c.before args s = true) : ∃ (b : Addr) (xs : List Int32), lw_P b xs args s := by
  have hs := flat_of_before _ h
  have hq := flat_of_before _ hr
  have hc : (Cond.count 1).before args s = true := hs _ (by decide +kernel)
  have harr : (Cond.arrayOf (.arg 0) .int).before args s = true := hs _ (by decide +kernel)
  have hle : (Cond.le (.length (.arg 0)) (.int 2048)).before args s = true := hs _ (by decide +kernel)
  have hlen : (Cond.isInt (.length (.arg 0))).before args s = true := hq _ (by decide +kernel)
  have hall : (Cond.all (.arg 0) (.isInt (.elem (.arg 0) (.index 0)))).before args s = true := hq _ (by decide +kernel)
  obtain ⟨b, xs, hb, hx⟩ := State.ints_of_pre rfl harr hlen hall
  have hsm : xs.length < 2 ^ 31 := hx.choose_spec.2.2.2
  have hev : (Term.length (.arg 0)).eval args s none [] s = some (.int xs.length.toInt32) := hx.length_eval hb
  have hv := Cond.le_ints hev (show (Term.int 2048).eval args s none [] s = some (.int 2048) from rfl)
  have hd : xs.length.toInt32 ≤ 2048 := by
    simpa [Cond.before, Cond.holds, hv] using hle
  have hN : xs.length ≤ 2048 := (Int32.ofNat_le_ofNat hsm (by decide)).mp (show Int32.ofNat xs.length ≤ Int32.ofNat 2048 from hd)
  exact ⟨b, xs, Cond.one_arg hc (show args[0]? = some (.ref b) from hb), hx, hN, h⟩
theorem lw_comes (l : Launch) (hflags : l.flags = flags0) : Comes l x (Jvm.Cond.code x code maxLocals ret :: tables_1) R5 (fun tb e args s => Calls_1 tb e args s ∧ rest_1 tb e args s ∧ Pre_1 tb e args s)
    (fun _ _ args s o t => lw_Q args s o t) := by
  intro p e ha hc hk s m args below hf hfit hheap happ hpre
  obtain ⟨b, xs, hP⟩ := lw_pre_spec hpre.2.2 hpre.2.1
  obtain ⟨k, o, h1, h2, h3, hQ⟩ := lw_walk l hflags b xs p e ha hc hk s m args below hf ((Spec.applies_iff_loose hf).mp happ).1 hP trivial
  exact ⟨k, o, h1, h2, h3, hQ⟩
theorem lw_frame {s t : State} {o : Outcome} {args : Array Value} (h : Framed s o t [] 34 561) :
    Framed s o t (fieldLocs frame_1_writes args s ++ arrayLocs frame_1_arrays args s ++ staticLocs frame_1_statics s) 34 561 := h
theorem lw_limb (L : Cond) (hL : ∀ (args : Array Value) (s t : State), L.after args s (.returned (some (.int 1))) t = true) :
    ArmFor flags0 classFile x code maxLocals ret World_1 tables_1 R5 Calls_1 rest_1 Pre_1
      (fun tb e a s o t => postC L tb e a s o t ∧ Framed s o t (fieldLocs frame_1_writes a s ++ arrayLocs frame_1_arrays a s ++ staticLocs frame_1_statics s) 34 561) := by
  intro l hflags _ _ p e ha hc hk s m args below hf hfit hheap happ hpre
  obtain ⟨k, o, h1, h2, h3, rfl, hF⟩ := lw_comes l hflags p e ha hc hk s m args below hf hfit hheap happ hpre
  exact ⟨k, _, h1, h2, h3, hL args s _, lw_frame hF⟩
/-- the two limbs of the claim word for word, but that the room they ask for, and the frame they promise, is 561 slots where the statement says 401 -/
theorem at_561 : ArmFor flags0 classFile x code maxLocals ret World_1 tables_1 R5 Calls_1 rest_1 Pre_1
      (fun tb e a s o t => postC limb_1_1 tb e a s o t ∧ Framed s o t (fieldLocs frame_1_writes a s ++ arrayLocs frame_1_arrays a s ++ staticLocs frame_1_statics s) 34 561)
    ∧ ArmFor flags0 classFile x code maxLocals ret World_1 tables_1 R5 Calls_1 rest_1 Pre_1
      (fun tb e a s o t => postC limb_1_2 tb e a s o t ∧ Framed s o t (fieldLocs frame_1_writes a s ++ arrayLocs frame_1_arrays a s ++ staticLocs frame_1_statics s) 34 561) := ⟨lw_limb limb_1_1 (fun args s t => by simp [limb_1_1, Cond.after, Cond.holds, Cond.value]), lw_limb limb_1_2 (fun args s t => Cond.after_iff.mpr (by
  first | (rw [show limb_1_2 = Cond.eq .result (.int 1) from rfl, Cond.eq_ints (x := 1) (y := 1) rfl rfl]; simp; done) | (simp [limb_1_2, Cond.value, Term.eval]; done)))⟩
