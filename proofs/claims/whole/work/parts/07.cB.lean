/-! the methods meet their functions (by program) -/
theorem o5_write : oV yX5_write RX5 cX5_write 2 (some .int) 1 := ⟨tw204, tw202, tw203, tw39, ⟨by decide +kernel, by decide +kernel⟩, by decide +kernel⟩
abbrev rm5_write : Room := { frames := 1, cells := 0, slots := 0, locals := 21 }
set_option maxHeartbeats 4000000 in
set_option maxRecDepth 100000 in
theorem c5_write {l : Launch} {G : va_G} {cI cZ : ClassId} {q0 q1 q2 q3 q4 q5 q6 q7 q8 q9 q10 q11 q12 q13 q14 q15 q16 q17 q18 q19 : Nat} {lt : Nat → Int32} {ln : Int32} {ki : Nat → Int32} {sp : Nat → Int32} {tu : Nat → Int32} {wo : Int32} {th : Int32} {st : Nat → Int32} {ch : Int32} {ya : Int32} {ow : Int32} {ca : Int32} {hu : Int32} {le : Int32} {tst : Nat → Int32} {tch : Int32} {tya : Int32} {tow : Int32} {tca : Int32} {thu : Int32} {tle : Int32} {an : Nat → Int32} {sn : Nat → Int32} {kp : Nat → Int32} {so : Nat → Int32} {sf : Nat → Int32} {sc : Nat → Int32} {ss : Int32} {ai : Int32} {sd : Int64} {v1 : Int32} {sz : Nat} {u : Int32 × (Nat → Int32) × Int32} (hE : f5_write v1 lt ln = some u) : Met l yX5_write (Cond.code yX5_write cX5_write 2 (some .int) :: TB) rm5_write (PcW G cI cZ (wB cI cZ q0 q1 q2 q3 q4 q5 q6 q7 q8 q9 q10 q11 q12 q13 q14 q15 q16 q17 q18 q19 lt ln ki sp tu wo th st ch ya ow ca hu le tst tch tya tow tca thu tle an sn kp so sf sc ss ai sd) sz ([.ref q0, .int v1] : List Value)) (QW G (some (.int u.1)) (wB cI cZ q0 q1 q2 q3 q4 q5 q6 q7 q8 q9 q10 q11 q12 q13 q14 q15 q16 q17 q18 q19 u.2.1 u.2.2 ki sp tu wo th st ch ya ow ca hu le tst tch tya tow tca thu tle an sn kp so sf sc ss ai sd) (va_A (wB cI cZ q0 q1 q2 q3 q4 q5 q6 q7 q8 q9 q10 q11 q12 q13 q14 q15 q16 q17 q18 q19 lt ln ki sp tu wo th st ch ya ow ca hu le tst tch tya tow tca thu tle an sn kp so sf sc ss ai sd) sz)) 0 0 (va_A (wB cI cZ q0 q1 q2 q3 q4 q5 q6 q7 q8 q9 q10 q11 q12 q13 q14 q15 q16 q17 q18 q19 lt ln ki sp tu wo th st ch ya ow ca hu le tst tch tya tow tca thu tle an sn kp so sf sc ss ai sd) sz) := by
  refine metW (own := RX5) (by decide +kernel) rfl (Nat.le_of_ble_eq_true rfl) ?_
  intro p e s m below meth c ls A X hA hP hK hD hl
  have hS : va_S A s.heap s.heap [] := va_S.rf
  have hl : lv_has ls 2 [(0, .ref q0), (1, .int v1)] := hl
  unfold f5_write at hE
  refine lv_iload_n X.1.1 X.1.2.1 dX5_write_0 rfl (lv_at hl 1 rfl) ?_
  refine lv_if_lt (tgt := 11) X.1.1 X.1.2.1 dX5_write_1 (by decide) (fun c_1 => ?_) (fun c_1 => ?_)
  · have hE := ite_t hE c_1
    refine lv_bipush (v := (iI (-2))) X.1.1 X.1.2.1 dX5_write_11 (by decide) ?_
    cases hE
    exact retW X hP hS dX5_write_13
  · have hE := ite_f hE c_1
    refine lv_iload_n X.1.1 X.1.2.1 dX5_write_4 rfl (lv_at hl 1 rfl) ?_
    refine lv_sipush (v := (iI 255)) X.1.1 X.1.2.1 dX5_write_5 (by decide) ?_
    refine lv_icmp_le (tgt := 14) X.1.1 X.1.2.1 dX5_write_8 (by decide) (fun c_8 => ?_) (fun c_8 => ?_)
    · have hE := ite_t hE c_8
      refine lv_aload_n X.1.1 X.1.2.1 dX5_write_14 rfl (lv_at hl 0 rfl) ?_
      refine gf5_12 X hK hP 0 rfl rfl dX5_write_15 ?_
      obtain ⟨u1001, e_u1001, hE⟩ := bd_some hE
      refine callRV (wsC := (wT cI cZ q1 q2 lt ln)) (As := []) (rest := []) (ci := 4) X (c4_isFull (l := l) e_u1001) o4_isFull tw205 ⟨rfl, rfl, Nat.le_of_ble_eq_true rfl, Nat.le_of_ble_eq_true rfl⟩ (hP.sub [1, 2] rfl) hK 0 rfl rfl rfl rfl hl rfl (by decide) ⟨Nat.le_refl _, Nat.le_refl _⟩ dX5_write_18 ?_
      refine lv_if_eq (tgt := 27) X.1.1 X.1.2.1 dX5_write_21 (by decide) (fun c_21 => ?_) (fun c_21 => ?_)
      · have hE := ite_t hE c_21
        refine lv_aload_n X.1.1 X.1.2.1 dX5_write_27 rfl (lv_at hl 0 rfl) ?_
        refine gf5_12 X hK hP 0 rfl rfl dX5_write_28 ?_
        refine lv_iload_n X.1.1 X.1.2.1 dX5_write_31 rfl (lv_at hl 1 rfl) ?_
        obtain ⟨u1002, e_u1002, hE⟩ := bd_some hE
        refine callWV (wsC := (wT cI cZ q1 q2 lt ln)) (w1 := (wT cI cZ q1 q2 u1002.1 u1002.2)) (ws' := (wB cI cZ q0 q1 q2 q3 q4 q5 q6 q7 q8 q9 q10 q11 q12 q13 q14 q15 q16 q17 q18 q19 u1002.1 u1002.2 ki sp tu wo th st ch ya ow ca hu le tst tch tya tow tca thu tle an sn kp so sf sc ss ai sd)) (As := [.int v1]) (rest := []) (ov := none) (st1 := []) (ci := 4) X (c4_append (l := l) e_u1002) o4_append tw209 ⟨rfl, rfl, Nat.le_of_ble_eq_true rfl, Nat.le_of_ble_eq_true rfl⟩ hP hK hD hS hA [1, 2] (by decide) rfl rfl rfl (wB_fst.trans wB_fst.symm) 1 rfl rfl rfl rfl hl rfl (by decide) ⟨Nat.le_refl _, Nat.le_refl _⟩ rfl dX5_write_32 (fun H locs hP hD hS => ?_)
        refine lv_aload_n X.1.1 X.1.2.1 dX5_write_35 rfl (lv_at hl 0 rfl) ?_
        refine gf5_12 X hK hP 0 rfl rfl dX5_write_36 ?_
        refine gf5_63 X hK hP 1 rfl rfl dX5_write_39 ?_
        cases hE
        exact retW X hP hS dX5_write_42
      · have hE := ite_f hE c_21
        refine lv_bipush (v := (iI (-4))) X.1.1 X.1.2.1 dX5_write_24 (by decide) ?_
        cases hE
        exact retW X hP hS dX5_write_26
    · have hE := ite_f hE c_8
      refine lv_bipush (v := (iI (-2))) X.1.1 X.1.2.1 dX5_write_11 (by decide) ?_
      cases hE
      exact retW X hP hS dX5_write_13
theorem o5_wipe : oV yX5_wipe RX5 cX5_wipe 2 (some .int) 0 := ⟨tw216, tw214, tw215, tw39, ⟨by decide +kernel, by decide +kernel⟩, by decide +kernel⟩
abbrev rm5_wipe : Room := { frames := 0, cells := 0, slots := 0, locals := 0 }
set_option maxHeartbeats 4000000 in
set_option maxRecDepth 100000 in
theorem c5_wipe {l : Launch} {G : va_G} {cI cZ : ClassId} {q0 q1 q2 q3 q4 q5 q6 q7 q8 q9 q10 q11 q12 q13 q14 q15 q16 q17 q18 q19 : Nat} {lt : Nat → Int32} {ln : Int32} {ki : Nat → Int32} {sp : Nat → Int32} {tu : Nat → Int32} {wo : Int32} {th : Int32} {st : Nat → Int32} {ch : Int32} {ya : Int32} {ow : Int32} {ca : Int32} {hu : Int32} {le : Int32} {tst : Nat → Int32} {tch : Int32} {tya : Int32} {tow : Int32} {tca : Int32} {thu : Int32} {tle : Int32} {an : Nat → Int32} {sn : Nat → Int32} {kp : Nat → Int32} {so : Nat → Int32} {sf : Nat → Int32} {sc : Nat → Int32} {ss : Int32} {ai : Int32} {sd : Int64} {sz : Nat} {u : Int32 × Int32} (hE : f5_wipe ln = some u) : Met l yX5_wipe (Cond.code yX5_wipe cX5_wipe 2 (some .int) :: TB) rm5_wipe (PcW G cI cZ (wB cI cZ q0 q1 q2 q3 q4 q5 q6 q7 q8 q9 q10 q11 q12 q13 q14 q15 q16 q17 q18 q19 lt ln ki sp tu wo th st ch ya ow ca hu le tst tch tya tow tca thu tle an sn kp so sf sc ss ai sd) sz ([.ref q0] : List Value)) (QW G (some (.int u.1)) (wB cI cZ q0 q1 q2 q3 q4 q5 q6 q7 q8 q9 q10 q11 q12 q13 q14 q15 q16 q17 q18 q19 lt u.2 ki sp tu wo th st ch ya ow ca hu le tst tch tya tow tca thu tle an sn kp so sf sc ss ai sd) (va_A (wB cI cZ q0 q1 q2 q3 q4 q5 q6 q7 q8 q9 q10 q11 q12 q13 q14 q15 q16 q17 q18 q19 lt ln ki sp tu wo th st ch ya ow ca hu le tst tch tya tow tca thu tle an sn kp so sf sc ss ai sd) sz)) 0 0 (va_A (wB cI cZ q0 q1 q2 q3 q4 q5 q6 q7 q8 q9 q10 q11 q12 q13 q14 q15 q16 q17 q18 q19 lt ln ki sp tu wo th st ch ya ow ca hu le tst tch tya tow tca thu tle an sn kp so sf sc ss ai sd) sz) := by
  refine metW (own := RX5) (by decide +kernel) rfl (Nat.le_of_ble_eq_true rfl) ?_
  intro p e s m below meth c ls A X hA hP hK hD hl
  have hS : va_S A s.heap s.heap [] := va_S.rf
  have hl : lv_has ls 2 [(0, .ref q0)] := hl
  unfold f5_wipe at hE
  refine lv_aload_n X.1.1 X.1.2.1 dX5_wipe_0 rfl (lv_at hl 0 rfl) ?_
  refine gf5_12 X hK hP 0 rfl rfl dX5_wipe_1 ?_
  refine gf5_63 X hK hP 1 rfl rfl dX5_wipe_4 ?_
  refine lv_istore_n (lv' := [(1, .int ln), (0, .ref q0)]) X.1.1 X.1.2.1 dX5_wipe_7 rfl hl (by decide) rfl (fun ls hl => ?_)
  refine lv_aload_n X.1.1 X.1.2.1 dX5_wipe_8 rfl (lv_at hl 1 rfl) ?_
  refine gf5_12 X hK hP 0 rfl rfl dX5_wipe_9 ?_
  refine lv_iconst (v := (iI 0)) X.1.1 X.1.2.1 dX5_wipe_12 rfl ?_
  refine pf5_63 (ws2 := (wB cI cZ q0 q1 q2 q3 q4 q5 q6 q7 q8 q9 q10 q11 q12 q13 q14 q15 q16 q17 q18 q19 lt (iI 0) ki sp tu wo th st ch ya ow ca hu le tst tch tya tow tca thu tle an sn kp so sf sc ss ai sd)) X hK hP hD hS 1 rfl (Nat.le_of_ble_eq_true rfl) rfl dX5_wipe_13 (fun H locs hP hD hS => ?_)
  refine lv_iload_n X.1.1 X.1.2.1 dX5_wipe_16 rfl (lv_at hl 0 rfl) ?_
  cases hE
  exact retW X hP hS dX5_wipe_17
theorem o5_fault : oV yX5_fault RX5 cX5_fault 1 (some .int) 0 := ⟨tw220, tw218, tw219, tw39, ⟨by decide +kernel, by decide +kernel⟩, by decide +kernel⟩
abbrev rm5_fault : Room := { frames := 3, cells := 0, slots := 0, locals := 69 }
set_option maxHeartbeats 4000000 in
set_option maxRecDepth 100000 in
theorem c5_fault {l : Launch} {G : va_G} {cI cZ : ClassId} {q0 q1 q2 q3 q4 q5 q6 q7 q8 q9 q10 q11 q12 q13 q14 q15 q16 q17 q18 q19 : Nat} {lt : Nat → Int32} {ln : Int32} {ki : Nat → Int32} {sp : Nat → Int32} {tu : Nat → Int32} {wo : Int32} {th : Int32} {st : Nat → Int32} {ch : Int32} {ya : Int32} {ow : Int32} {ca : Int32} {hu : Int32} {le : Int32} {tst : Nat → Int32} {tch : Int32} {tya : Int32} {tow : Int32} {tca : Int32} {thu : Int32} {tle : Int32} {an : Nat → Int32} {sn : Nat → Int32} {kp : Nat → Int32} {so : Nat → Int32} {sf : Nat → Int32} {sc : Nat → Int32} {ss : Int32} {ai : Int32} {sd : Int64} {u : Int32} (hE : f5_fault lt ln = some u) : Met l yX5_fault (Cond.code yX5_fault cX5_fault 1 (some .int) :: TB) rm5_fault (PcR G cI cZ (wB cI cZ q0 q1 q2 q3 q4 q5 q6 q7 q8 q9 q10 q11 q12 q13 q14 q15 q16 q17 q18 q19 lt ln ki sp tu wo th st ch ya ow ca hu le tst tch tya tow tca thu tle an sn kp so sf sc ss ai sd) ([.ref q0] : List Value)) (QcRead u) 0 0 (fun _ => False) := by
  refine metR (own := RX5) (by decide +kernel) rfl (Nat.le_of_ble_eq_true rfl) ?_
  intro p e s m below meth c ls X hP hK hl
  have hl : lv_has ls 1 [(0, .ref q0)] := hl
  unfold f5_fault at hE
  refine lv_aload_n X.1.1 X.1.2.1 dX5_fault_0 rfl (lv_at hl 0 rfl) ?_
  refine gf5_12 X hK hP 0 rfl rfl dX5_fault_1 ?_
  obtain ⟨u1001, e_u1001, hE⟩ := bd_some hE
  refine callRV (wsC := (wT cI cZ q1 q2 lt ln)) (As := []) (rest := []) (ci := 4) X (c4_firstFault (l := l) e_u1001) o4_firstFault tw221 ⟨rfl, rfl, Nat.le_of_ble_eq_true rfl, Nat.le_of_ble_eq_true rfl⟩ (hP.sub [1, 2] rfl) hK 0 rfl rfl rfl rfl hl rfl (by decide) ⟨Nat.le_refl _, Nat.le_refl _⟩ dX5_fault_4 ?_
  cases hE
  exact retR X dX5_fault_7
theorem o5_tellPart : oV yX5_tellPart RX5 cX5_tellPart 4 none 3 := ⟨tw257, tw256, tw0, tw39, ⟨by decide +kernel, by decide +kernel⟩, by decide +kernel⟩
abbrev rm5_tellPart : Room := { frames := 1, cells := 0, slots := 0, locals := 22 }
set_option maxHeartbeats 4000000 in
set_option maxRecDepth 100000 in
theorem c5_tellPart {l : Launch} {G : va_G} {cI cZ : ClassId} {q0 q1 q2 q3 q4 q5 q6 q7 q8 q9 q10 q11 q12 q13 q14 q15 q16 q17 q18 q19 : Nat} {lt : Nat → Int32} {ln : Int32} {ki : Nat → Int32} {sp : Nat → Int32} {tu : Nat → Int32} {wo : Int32} {th : Int32} {st : Nat → Int32} {ch : Int32} {ya : Int32} {ow : Int32} {ca : Int32} {hu : Int32} {le : Int32} {tst : Nat → Int32} {tch : Int32} {tya : Int32} {tow : Int32} {tca : Int32} {thu : Int32} {tle : Int32} {an : Nat → Int32} {sn : Nat → Int32} {kp : Nat → Int32} {so : Nat → Int32} {sf : Nat → Int32} {sc : Nat → Int32} {ss : Int32} {ai : Int32} {sd : Int64} {v1 : Int32} {v2 : Int32} {v3 : Int32} {sz : Nat} {u : (Nat → Int32) × (Nat → Int32) × (Nat → Int32) × Int32 × Int32 × (Nat → Int32)} (hE : f5_tellPart v1 v2 v3 ki sp tu wo th st = some u) : Met l yX5_tellPart (Cond.code yX5_tellPart cX5_tellPart 4 none :: TB) rm5_tellPart (PcW G cI cZ (wB cI cZ q0 q1 q2 q3 q4 q5 q6 q7 q8 q9 q10 q11 q12 q13 q14 q15 q16 q17 q18 q19 lt ln ki sp tu wo th st ch ya ow ca hu le tst tch tya tow tca thu tle an sn kp so sf sc ss ai sd) sz ([.ref q0, .int v1, .int v2, .int v3] : List Value)) (QW G none (wB cI cZ q0 q1 q2 q3 q4 q5 q6 q7 q8 q9 q10 q11 q12 q13 q14 q15 q16 q17 q18 q19 lt ln u.1 u.2.1 u.2.2.1 u.2.2.2.1 u.2.2.2.2.1 u.2.2.2.2.2 ch ya ow ca hu le tst tch tya tow tca thu tle an sn kp so sf sc ss ai sd) (va_A (wB cI cZ q0 q1 q2 q3 q4 q5 q6 q7 q8 q9 q10 q11 q12 q13 q14 q15 q16 q17 q18 q19 lt ln ki sp tu wo th st ch ya ow ca hu le tst tch tya tow tca thu tle an sn kp so sf sc ss ai sd) sz)) 0 0 (va_A (wB cI cZ q0 q1 q2 q3 q4 q5 q6 q7 q8 q9 q10 q11 q12 q13 q14 q15 q16 q17 q18 q19 lt ln ki sp tu wo th st ch ya ow ca hu le tst tch tya tow tca thu tle an sn kp so sf sc ss ai sd) sz) := by
  refine metW (own := RX5) (by decide +kernel) rfl (Nat.le_of_ble_eq_true rfl) ?_
  intro p e s m below meth c ls A X hA hP hK hD hl
  have hS : va_S A s.heap s.heap [] := va_S.rf
  have hl : lv_has ls 4 [(0, .ref q0), (1, .int v1), (2, .int v2), (3, .int v3)] := hl
  unfold f5_tellPart at hE
  refine lv_iload_n X.1.1 X.1.2.1 dX5_tellPart_0 rfl (lv_at hl 1 rfl) ?_
  refine lv_bipush (v := (iI 87)) X.1.1 X.1.2.1 dX5_tellPart_1 (by decide) ?_
  refine lv_icmp_ne (tgt := 32) X.1.1 X.1.2.1 dX5_tellPart_3 (by decide) (fun c_3 => ?_) (fun c_3 => ?_)
  · have hE := ite_f hE c_3
    refine lv_aload_n X.1.1 X.1.2.1 dX5_tellPart_32 rfl (lv_at hl 0 rfl) ?_
    refine gf5_19 X hK hP 0 rfl rfl dX5_tellPart_33 ?_
    refine lv_iload_n X.1.1 X.1.2.1 dX5_tellPart_36 rfl (lv_at hl 2 rfl) ?_
    refine lv_iload_n X.1.1 X.1.2.1 dX5_tellPart_37 rfl (lv_at hl 3 rfl) ?_
    obtain ⟨u1001, e_u1001, hE⟩ := bd_some hE
    refine callWV (wsC := (wF cI cZ q3 q4 q5 q6 ki sp tu wo th)) (w1 := (wF cI cZ q3 q4 q5 q6 ki u1001.1 u1001.2.1 wo u1001.2.2)) (ws' := (wB cI cZ q0 q1 q2 q3 q4 q5 q6 q7 q8 q9 q10 q11 q12 q13 q14 q15 q16 q17 q18 q19 lt ln ki u1001.1 u1001.2.1 wo u1001.2.2 st ch ya ow ca hu le tst tch tya tow tca thu tle an sn kp so sf sc ss ai sd)) (As := [.int v2, .int v3]) (rest := []) (ov := none) (st1 := []) (ci := 1) X (c1_addThing (l := l) e_u1001) o1_addThing tw266 ⟨rfl, rfl, Nat.le_of_ble_eq_true rfl, Nat.le_of_ble_eq_true rfl⟩ hP hK hD hS hA [3, 4, 5, 6] (by decide) rfl rfl rfl (wB_fst.trans wB_fst.symm) 3 rfl rfl rfl rfl hl rfl (by decide) ⟨Nat.le_refl _, Nat.le_refl _⟩ rfl dX5_tellPart_38 (fun H locs hP hD hS => ?_)
    cases hE
    exact retWV X hP hS dX5_tellPart_41
  · have hE := ite_t hE c_3
    refine lv_aload_n X.1.1 X.1.2.1 dX5_tellPart_6 rfl (lv_at hl 0 rfl) ?_
    refine gf5_26 X hK hP 0 rfl rfl dX5_tellPart_7 ?_
    refine lv_aload_n X.1.1 X.1.2.1 dX5_tellPart_10 rfl (lv_at hl 0 rfl) ?_
    refine gf5_19 X hK hP 0 rfl rfl dX5_tellPart_11 ?_
    refine gf5_92 X hK hP 3 rfl rfl dX5_tellPart_14 ?_
    refine lv_iload_n X.1.1 X.1.2.1 dX5_tellPart_17 rfl (lv_at hl 2 rfl) ?_
    obtain ⟨u1002, e_u1002, hE⟩ := bd_some hE
    refine callWV (wsC := (wD cI cZ q7 q8 st ch ya ow ca hu le)) (w1 := (wD cI cZ q7 q8 u1002 ch ya ow ca hu le)) (ws' := (wB cI cZ q0 q1 q2 q3 q4 q5 q6 q7 q8 q9 q10 q11 q12 q13 q14 q15 q16 q17 q18 q19 lt ln ki sp tu wo th u1002 ch ya ow ca hu le tst tch tya tow tca thu tle an sn kp so sf sc ss ai sd)) (As := [.int wo, .int v2]) (rest := []) (ov := none) (st1 := []) (ci := 0) X (c0_setStrength (l := l) e_u1002) o0_setStrength tw258 ⟨rfl, rfl, Nat.le_of_ble_eq_true rfl, Nat.le_of_ble_eq_true rfl⟩ hP hK hD hS hA [7, 8] (by decide) rfl rfl rfl (wB_fst.trans wB_fst.symm) 7 rfl rfl rfl rfl hl rfl (by decide) ⟨Nat.le_refl _, Nat.le_refl _⟩ rfl dX5_tellPart_18 (fun H locs hP hD hS => ?_)
    refine lv_aload_n X.1.1 X.1.2.1 dX5_tellPart_21 rfl (lv_at hl 0 rfl) ?_
    refine gf5_19 X hK hP 0 rfl rfl dX5_tellPart_22 ?_
    refine lv_iload_n X.1.1 X.1.2.1 dX5_tellPart_25 rfl (lv_at hl 3 rfl) ?_
    obtain ⟨u1003, e_u1003, hE⟩ := bd_some hE
    refine callWV (wsC := (wF cI cZ q3 q4 q5 q6 ki sp tu wo th)) (w1 := (wF cI cZ q3 q4 q5 q6 u1003.1 sp tu u1003.2 th)) (ws' := (wB cI cZ q0 q1 q2 q3 q4 q5 q6 q7 q8 q9 q10 q11 q12 q13 q14 q15 q16 q17 q18 q19 lt ln u1003.1 sp tu u1003.2 th u1002 ch ya ow ca hu le tst tch tya tow tca thu tle an sn kp so sf sc ss ai sd)) (As := [.int v3]) (rest := []) (ov := none) (st1 := []) (ci := 1) X (c1_addWord (l := l) e_u1003) o1_addWord tw262 ⟨rfl, rfl, Nat.le_of_ble_eq_true rfl, Nat.le_of_ble_eq_true rfl⟩ hP hK hD hS hA [3, 4, 5, 6] (by decide) rfl rfl rfl (wB_fst.trans wB_fst.symm) 3 rfl rfl rfl rfl hl rfl (by decide) ⟨Nat.le_refl _, Nat.le_refl _⟩ rfl dX5_tellPart_26 (fun H locs hP hD hS => ?_)
    refine lv_goto (tgt := 41) X.1.1 X.1.2.1 dX5_tellPart_29 (by decide) ?_
    cases hE
    exact retWV X hP hS dX5_tellPart_41
theorem o5_walk : oV yX5_walk RX5 cX5_walk 2 (some .int) 0 := ⟨tw240, tw238, tw239, tw39, ⟨by decide +kernel, by decide +kernel⟩, by decide +kernel⟩
abbrev rm5_walk : Room := { frames := 3, cells := 0, slots := 0, locals := 69 }
set_option maxHeartbeats 4000000 in
set_option maxRecDepth 100000 in
theorem c5_walk {l : Launch} {G : va_G} {cI cZ : ClassId} {q0 q1 q2 q3 q4 q5 q6 q7 q8 q9 q10 q11 q12 q13 q14 q15 q16 q17 q18 q19 : Nat} {lt : Nat → Int32} {ln : Int32} {ki : Nat → Int32} {sp : Nat → Int32} {tu : Nat → Int32} {wo : Int32} {th : Int32} {st : Nat → Int32} {ch : Int32} {ya : Int32} {ow : Int32} {ca : Int32} {hu : Int32} {le : Int32} {tst : Nat → Int32} {tch : Int32} {tya : Int32} {tow : Int32} {tca : Int32} {thu : Int32} {tle : Int32} {an : Nat → Int32} {sn : Nat → Int32} {kp : Nat → Int32} {so : Nat → Int32} {sf : Nat → Int32} {sc : Nat → Int32} {ss : Int32} {ai : Int32} {sd : Int64} {sz : Nat} {u : Int32 × (Nat → Int32) × (Nat → Int32) × (Nat → Int32) × Int32 × Int32 × (Nat → Int32) × Int32 × Int32 × Int32 × Int32 × Int32 × Int32 × (Nat → Int32) × Int32} (hE : f5_walk lt ln ki sp tu wo th st ch ya ow ca hu le kp ai = some u) : Met l yX5_walk (Cond.code yX5_walk cX5_walk 2 (some .int) :: TB) rm5_walk (PcW G cI cZ (wB cI cZ q0 q1 q2 q3 q4 q5 q6 q7 q8 q9 q10 q11 q12 q13 q14 q15 q16 q17 q18 q19 lt ln ki sp tu wo th st ch ya ow ca hu le tst tch tya tow tca thu tle an sn kp so sf sc ss ai sd) sz ([.ref q0] : List Value)) (QW G (some (.int u.1)) (wB cI cZ q0 q1 q2 q3 q4 q5 q6 q7 q8 q9 q10 q11 q12 q13 q14 q15 q16 q17 q18 q19 lt ln u.2.1 u.2.2.1 u.2.2.2.1 u.2.2.2.2.1 u.2.2.2.2.2.1 u.2.2.2.2.2.2.1 u.2.2.2.2.2.2.2.1 u.2.2.2.2.2.2.2.2.1 u.2.2.2.2.2.2.2.2.2.1 u.2.2.2.2.2.2.2.2.2.2.1 u.2.2.2.2.2.2.2.2.2.2.2.1 u.2.2.2.2.2.2.2.2.2.2.2.2.1 tst tch tya tow tca thu tle an sn u.2.2.2.2.2.2.2.2.2.2.2.2.2.1 so sf sc ss u.2.2.2.2.2.2.2.2.2.2.2.2.2.2 sd) (va_A (wB cI cZ q0 q1 q2 q3 q4 q5 q6 q7 q8 q9 q10 q11 q12 q13 q14 q15 q16 q17 q18 q19 lt ln ki sp tu wo th st ch ya ow ca hu le tst tch tya tow tca thu tle an sn kp so sf sc ss ai sd) sz)) 0 0 (va_A (wB cI cZ q0 q1 q2 q3 q4 q5 q6 q7 q8 q9 q10 q11 q12 q13 q14 q15 q16 q17 q18 q19 lt ln ki sp tu wo th st ch ya ow ca hu le tst tch tya tow tca thu tle an sn kp so sf sc ss ai sd) sz) := by
  refine metW (own := RX5) (by decide +kernel) rfl (Nat.le_of_ble_eq_true rfl) ?_
  intro p e s m below meth c ls A X hA hP hK hD hl
  have hS : va_S A s.heap s.heap [] := va_S.rf
  have hl : lv_has ls 2 [(0, .ref q0)] := hl
  unfold f5_walk at hE
  refine lv_aload_n X.1.1 X.1.2.1 dX5_walk_0 rfl (lv_at hl 0 rfl) ?_
  refine gf5_12 X hK hP 0 rfl rfl dX5_walk_1 ?_
  obtain ⟨u1001, e_u1001, hE⟩ := bd_some hE
  refine callRV (wsC := (wT cI cZ q1 q2 lt ln)) (As := []) (rest := []) (ci := 4) X (c4_firstFault (l := l) e_u1001) o4_firstFault tw221 ⟨rfl, rfl, Nat.le_of_ble_eq_true rfl, Nat.le_of_ble_eq_true rfl⟩ (hP.sub [1, 2] rfl) hK 0 rfl rfl rfl rfl hl rfl (by decide) ⟨Nat.le_refl _, Nat.le_refl _⟩ dX5_walk_4 ?_
  refine lv_bipush (v := (iI (-9))) X.1.1 X.1.2.1 dX5_walk_7 (by decide) ?_
  refine lv_icmp_eq (tgt := 15) X.1.1 X.1.2.1 dX5_walk_9 (by decide) (fun c_9 => ?_) (fun c_9 => ?_)
  · have hE := ite_t hE c_9
    refine lv_aload_n X.1.1 X.1.2.1 dX5_walk_15 rfl (lv_at hl 0 rfl) ?_
    refine gf5_26 X hK hP 0 rfl rfl dX5_walk_16 ?_
    refine lv_aload_n X.1.1 X.1.2.1 dX5_walk_19 rfl (lv_at hl 0 rfl) ?_
    refine gf5_12 X hK hP 0 rfl rfl dX5_walk_20 ?_
    refine lv_iconst (v := (iI 1)) X.1.1 X.1.2.1 dX5_walk_23 rfl ?_
    obtain ⟨u1002, e_u1002, hE⟩ := bd_some hE
    refine callRV (wsC := (wT cI cZ q1 q2 lt ln)) (As := [.int (iI 1)]) (rest := [.ref q7]) (ci := 4) X (c4_figureAt (l := l) e_u1002) o4_figureAt tw241 ⟨rfl, rfl, Nat.le_of_ble_eq_true rfl, Nat.le_of_ble_eq_true rfl⟩ (hP.sub [1, 2] rfl) hK 0 rfl rfl rfl rfl hl rfl (Nat.le_of_ble_eq_true rfl) ⟨Nat.le_refl _, Nat.le_refl _⟩ dX5_walk_24 ?_
    refine lv_aload_n X.1.1 X.1.2.1 dX5_walk_27 rfl (lv_at hl 0 rfl) ?_
    refine gf5_12 X hK hP 0 rfl rfl dX5_walk_28 ?_
    refine lv_iconst (v := (iI 2)) X.1.1 X.1.2.1 dX5_walk_31 rfl ?_
    obtain ⟨u1003, e_u1003, hE⟩ := bd_some hE
    refine callRV (wsC := (wT cI cZ q1 q2 lt ln)) (As := [.int (iI 2)]) (rest := [.int u1002, .ref q7]) (ci := 4) X (c4_figureAt (l := l) e_u1003) o4_figureAt tw241 ⟨rfl, rfl, Nat.le_of_ble_eq_true rfl, Nat.le_of_ble_eq_true rfl⟩ (hP.sub [1, 2] rfl) hK 0 rfl rfl rfl rfl hl rfl (Nat.le_of_ble_eq_true rfl) ⟨Nat.le_refl _, Nat.le_refl _⟩ dX5_walk_32 ?_
    obtain ⟨u1004, e_u1004, hE⟩ := bd_some hE
    refine callWV (wsC := (wD cI cZ q7 q8 st ch ya ow ca hu le)) (w1 := (wD cI cZ q7 q8 st u1004.1 u1004.2.1 u1004.2.2.1 u1004.2.2.2.1 u1004.2.2.2.2.1 u1004.2.2.2.2.2)) (ws' := (wB cI cZ q0 q1 q2 q3 q4 q5 q6 q7 q8 q9 q10 q11 q12 q13 q14 q15 q16 q17 q18 q19 lt ln ki sp tu wo th st u1004.1 u1004.2.1 u1004.2.2.1 u1004.2.2.2.1 u1004.2.2.2.2.1 u1004.2.2.2.2.2 tst tch tya tow tca thu tle an sn kp so sf sc ss ai sd)) (As := [.int u1002, .int u1003]) (rest := []) (ov := none) (st1 := []) (ci := 0) X (c0_startAnew (l := l) e_u1004) o0_startAnew tw245 ⟨rfl, rfl, Nat.le_of_ble_eq_true rfl, Nat.le_of_ble_eq_true rfl⟩ hP hK hD hS hA [7, 8] (by decide) rfl rfl rfl (wB_fst.trans wB_fst.symm) 7 rfl rfl rfl rfl hl rfl (by decide) ⟨Nat.le_refl _, Nat.le_refl _⟩ rfl dX5_walk_35 (fun H locs hP hD hS => ?_)
    refine lv_aload_n X.1.1 X.1.2.1 dX5_walk_38 rfl (lv_at hl 0 rfl) ?_
    refine gf5_19 X hK hP 0 rfl rfl dX5_walk_39 ?_
    obtain ⟨u1005, e_u1005, hE⟩ := bd_some hE
    refine callWV (wsC := (wF cI cZ q3 q4 q5 q6 ki sp tu wo th)) (w1 := (wF cI cZ q3 q4 q5 q6 ki sp tu u1005.1 u1005.2)) (ws' := (wB cI cZ q0 q1 q2 q3 q4 q5 q6 q7 q8 q9 q10 q11 q12 q13 q14 q15 q16 q17 q18 q19 lt ln ki sp tu u1005.1 u1005.2 st u1004.1 u1004.2.1 u1004.2.2.1 u1004.2.2.2.1 u1004.2.2.2.2.1 u1004.2.2.2.2.2 tst tch tya tow tca thu tle an sn kp so sf sc ss ai sd)) (As := []) (rest := []) (ov := none) (st1 := []) (ci := 1) X (c1_clear (l := l) e_u1005) o1_clear tw249 ⟨rfl, rfl, Nat.le_of_ble_eq_true rfl, Nat.le_of_ble_eq_true rfl⟩ hP hK hD hS hA [3, 4, 5, 6] (by decide) rfl rfl rfl (wB_fst.trans wB_fst.symm) 3 rfl rfl rfl rfl hl rfl (by decide) ⟨Nat.le_refl _, Nat.le_refl _⟩ rfl dX5_walk_42 (fun H locs hP hD hS => ?_)
    refine lv_iconst (v := (iI 3)) X.1.1 X.1.2.1 dX5_walk_45 rfl ?_
    refine lv_istore_n (lv' := [(1, .int (iI 3)), (0, .ref q0)]) X.1.1 X.1.2.1 dX5_walk_46 rfl hl (by decide) rfl (fun ls hl => ?_)
    have lp47 : ∀ (k : Int32 → (Nat → Int32) → (Nat → Int32) → (Nat → Int32) → Int32 → Int32 → (Nat → Int32) → Option (Int32 × (Nat → Int32) × (Nat → Int32) × (Nat → Int32) × Int32 × Int32 × (Nat → Int32) × Int32 × Int32 × Int32 × Int32 × Int32 × Int32 × (Nat → Int32) × Int32)), (∀ (v1_1006 : Int32) (ki_1006 : Nat → Int32) (sp_1006 : Nat → Int32) (tu_1006 : Nat → Int32) (wo_1006 : Int32) (th_1006 : Int32) (st_1006 : Nat → Int32) (H : Heap) (locs : List Loc) (ls : Array Slot), va_P G vwCl (wB cI cZ q0 q1 q2 q3 q4 q5 q6 q7 q8 q9 q10 q11 q12 q13 q14 q15 q16 q17 q18 q19 lt ln ki_1006 sp_1006 tu_1006 wo_1006 th_1006 st_1006 u1004.1 u1004.2.1 u1004.2.2.1 u1004.2.2.2.1 u1004.2.2.2.2.1 u1004.2.2.2.2.2 tst tch tya tow tca thu tle an sn kp so sf sc ss ai sd) H → va_D A (wB cI cZ q0 q1 q2 q3 q4 q5 q6 q7 q8 q9 q10 q11 q12 q13 q14 q15 q16 q17 q18 q19 lt ln ki_1006 sp_1006 tu_1006 wo_1006 th_1006 st_1006 u1004.1 u1004.2.1 u1004.2.2.1 u1004.2.2.2.1 u1004.2.2.2.2.1 u1004.2.2.2.2.2 tst tch tya tow tca thu tle an sn kp so sf sc ss ai sd) → va_S A s.heap H locs → lv_has ls 2 [(0, .ref q0), (1, .int v1_1006)] → k v1_1006 ki_1006 sp_1006 tu_1006 wo_1006 th_1006 st_1006 = some u → W p l e rm5_walk s m ([.ref q0] : List Value).toArray below meth c H locs 0 0 (MQ below (QW G (some (.int u.1)) (wB cI cZ q0 q1 q2 q3 q4 q5 q6 q7 q8 q9 q10 q11 q12 q13 q14 q15 q16 q17 q18 q19 lt ln u.2.1 u.2.2.1 u.2.2.2.1 u.2.2.2.2.1 u.2.2.2.2.2.1 u.2.2.2.2.2.2.1 u.2.2.2.2.2.2.2.1 u.2.2.2.2.2.2.2.2.1 u.2.2.2.2.2.2.2.2.2.1 u.2.2.2.2.2.2.2.2.2.2.1 u.2.2.2.2.2.2.2.2.2.2.2.1 u.2.2.2.2.2.2.2.2.2.2.2.2.1 tst tch tya tow tca thu tle an sn u.2.2.2.2.2.2.2.2.2.2.2.2.2.1 so sf sc ss u.2.2.2.2.2.2.2.2.2.2.2.2.2.2 sd) A) ([.ref q0] : List Value).toArray s 0 0 A) (F0 m 96 ls [])) → ∀ (n : Nat) (v1_1006 : Int32) (ki_1006 : Nat → Int32) (sp_1006 : Nat → Int32) (tu_1006 : Nat → Int32) (wo_1006 : Int32) (th_1006 : Int32) (st_1006 : Nat → Int32) (H : Heap) (locs : List Loc) (ls : Array Slot), va_P G vwCl (wB cI cZ q0 q1 q2 q3 q4 q5 q6 q7 q8 q9 q10 q11 q12 q13 q14 q15 q16 q17 q18 q19 lt ln ki_1006 sp_1006 tu_1006 wo_1006 th_1006 st_1006 u1004.1 u1004.2.1 u1004.2.2.1 u1004.2.2.2.1 u1004.2.2.2.2.1 u1004.2.2.2.2.2 tst tch tya tow tca thu tle an sn kp so sf sc ss ai sd) H → va_D A (wB cI cZ q0 q1 q2 q3 q4 q5 q6 q7 q8 q9 q10 q11 q12 q13 q14 q15 q16 q17 q18 q19 lt ln ki_1006 sp_1006 tu_1006 wo_1006 th_1006 st_1006 u1004.1 u1004.2.1 u1004.2.2.1 u1004.2.2.2.1 u1004.2.2.2.2.1 u1004.2.2.2.2.2 tst tch tya tow tca thu tle an sn kp so sf sc ss ai sd) → va_S A s.heap H locs → lv_has ls 2 [(0, .ref q0), (1, .int v1_1006)] → l5_walk_47 k lt ln n v1_1006 ki_1006 sp_1006 tu_1006 wo_1006 th_1006 st_1006 = some u → W p l e rm5_walk s m ([.ref q0] : List Value).toArray below meth c H locs 0 0 (MQ below (QW G (some (.int u.1)) (wB cI cZ q0 q1 q2 q3 q4 q5 q6 q7 q8 q9 q10 q11 q12 q13 q14 q15 q16 q17 q18 q19 lt ln u.2.1 u.2.2.1 u.2.2.2.1 u.2.2.2.2.1 u.2.2.2.2.2.1 u.2.2.2.2.2.2.1 u.2.2.2.2.2.2.2.1 u.2.2.2.2.2.2.2.2.1 u.2.2.2.2.2.2.2.2.2.1 u.2.2.2.2.2.2.2.2.2.2.1 u.2.2.2.2.2.2.2.2.2.2.2.1 u.2.2.2.2.2.2.2.2.2.2.2.2.1 tst tch tya tow tca thu tle an sn u.2.2.2.2.2.2.2.2.2.2.2.2.2.1 so sf sc ss u.2.2.2.2.2.2.2.2.2.2.2.2.2.2 sd) A) ([.ref q0] : List Value).toArray s 0 0 A) (F0 m 47 ls []) := by
      intro k hex n
      induction n with
      | zero =>
        intro v1_1006 ki_1006 sp_1006 tu_1006 wo_1006 th_1006 st_1006 H locs ls hP hD hS hl hE
        exact absurd (show (none : Option (Int32 × (Nat → Int32) × (Nat → Int32) × (Nat → Int32) × Int32 × Int32 × (Nat → Int32) × Int32 × Int32 × Int32 × Int32 × Int32 × Int32 × (Nat → Int32) × Int32)) = some u from hE) (fun h => by cases h)
      | succ n ih =>
        intro v1_1006 ki_1006 sp_1006 tu_1006 wo_1006 th_1006 st_1006 H locs ls hP hD hS hl hE
        rw [l5_walk_47] at hE
        refine lv_iload_n X.1.1 X.1.2.1 dX5_walk_47 rfl (lv_at hl 1 rfl) ?_
        refine lv_aload_n X.1.1 X.1.2.1 dX5_walk_48 rfl (lv_at hl 0 rfl) ?_
        refine gf5_12 X hK hP 0 rfl rfl dX5_walk_49 ?_
        refine gf5_63 X hK hP 1 rfl rfl dX5_walk_52 ?_
        refine lv_icmp_ge (tgt := 96) X.1.1 X.1.2.1 dX5_walk_55 (by decide) (fun c_55 => ?_) (fun c_55 => ?_)
        · have hE := ite_t hE c_55
          exact hex v1_1006 ki_1006 sp_1006 tu_1006 wo_1006 th_1006 st_1006 H locs ls hP hD hS (lv_sub hl [0, 1] rfl) hE
        · have hE := ite_f hE c_55
          refine lv_aload_n X.1.1 X.1.2.1 dX5_walk_58 rfl (lv_at hl 0 rfl) ?_
          refine lv_aload_n X.1.1 X.1.2.1 dX5_walk_59 rfl (lv_at hl 0 rfl) ?_
          refine gf5_12 X hK hP 0 rfl rfl dX5_walk_60 ?_
          refine lv_iload_n X.1.1 X.1.2.1 dX5_walk_63 rfl (lv_at hl 1 rfl) ?_
          obtain ⟨u1007, e_u1007, hE⟩ := bd_some hE
          refine callRV (wsC := (wT cI cZ q1 q2 lt ln)) (As := [.int v1_1006]) (rest := [.ref q0]) (ci := 4) X (c4_letterAt (l := l) e_u1007) o4_letterAt tw253 ⟨rfl, rfl, Nat.le_of_ble_eq_true rfl, Nat.le_of_ble_eq_true rfl⟩ (hP.sub [1, 2] rfl) hK 0 rfl rfl rfl rfl hl rfl (Nat.le_of_ble_eq_true rfl) ⟨Nat.le_refl _, Nat.le_refl _⟩ dX5_walk_64 ?_
          refine lv_aload_n X.1.1 X.1.2.1 dX5_walk_67 rfl (lv_at hl 0 rfl) ?_
          refine gf5_12 X hK hP 0 rfl rfl dX5_walk_68 ?_
          refine lv_iload_n X.1.1 X.1.2.1 dX5_walk_71 rfl (lv_at hl 1 rfl) ?_
          refine lv_iconst (v := (iI 1)) X.1.1 X.1.2.1 dX5_walk_72 rfl ?_
          refine lv_iadd X.1.1 X.1.2.1 dX5_walk_73 ?_
          obtain ⟨u1008, e_u1008, hE⟩ := bd_some hE
          refine callRV (wsC := (wT cI cZ q1 q2 lt ln)) (As := [.int (v1_1006 + (iI 1))]) (rest := [.int u1007, .ref q0]) (ci := 4) X (c4_figureAt (l := l) e_u1008) o4_figureAt tw241 ⟨rfl, rfl, Nat.le_of_ble_eq_true rfl, Nat.le_of_ble_eq_true rfl⟩ (hP.sub [1, 2] rfl) hK 0 rfl rfl rfl rfl hl rfl (Nat.le_of_ble_eq_true rfl) ⟨Nat.le_refl _, Nat.le_refl _⟩ dX5_walk_74 ?_
          refine lv_aload_n X.1.1 X.1.2.1 dX5_walk_77 rfl (lv_at hl 0 rfl) ?_
          refine gf5_12 X hK hP 0 rfl rfl dX5_walk_78 ?_
          refine lv_iload_n X.1.1 X.1.2.1 dX5_walk_81 rfl (lv_at hl 1 rfl) ?_
          refine lv_iconst (v := (iI 2)) X.1.1 X.1.2.1 dX5_walk_82 rfl ?_
          refine lv_iadd X.1.1 X.1.2.1 dX5_walk_83 ?_
          obtain ⟨u1009, e_u1009, hE⟩ := bd_some hE
          refine callRV (wsC := (wT cI cZ q1 q2 lt ln)) (As := [.int (v1_1006 + (iI 2))]) (rest := [.int u1008, .int u1007, .ref q0]) (ci := 4) X (c4_figureAt (l := l) e_u1009) o4_figureAt tw241 ⟨rfl, rfl, Nat.le_of_ble_eq_true rfl, Nat.le_of_ble_eq_true rfl⟩ (hP.sub [1, 2] rfl) hK 0 rfl rfl rfl rfl hl rfl (Nat.le_of_ble_eq_true rfl) ⟨Nat.le_refl _, Nat.le_refl _⟩ dX5_walk_84 ?_
          obtain ⟨u1010, e_u1010, hE⟩ := bd_some hE
          refine callWF (ws := (wB cI cZ q0 q1 q2 q3 q4 q5 q6 q7 q8 q9 q10 q11 q12 q13 q14 q15 q16 q17 q18 q19 lt ln ki_1006 sp_1006 tu_1006 wo_1006 th_1006 st_1006 u1004.1 u1004.2.1 u1004.2.2.1 u1004.2.2.2.1 u1004.2.2.2.2.1 u1004.2.2.2.2.2 tst tch tya tow tca thu tle an sn kp so sf sc ss ai sd)) (ws' := (wB cI cZ q0 q1 q2 q3 q4 q5 q6 q7 q8 q9 q10 q11 q12 q13 q14 q15 q16 q17 q18 q19 lt ln u1010.1 u1010.2.1 u1010.2.2.1 u1010.2.2.2.1 u1010.2.2.2.2.1 u1010.2.2.2.2.2 u1004.1 u1004.2.1 u1004.2.2.1 u1004.2.2.2.1 u1004.2.2.2.2.1 u1004.2.2.2.2.2 tst tch tya tow tca thu tle an sn kp so sf sc ss ai sd)) (As := [.int u1007, .int u1008, .int u1009]) (rest := []) (ov := none) (st1 := []) (ci := 5) X (c5_tellPart (l := l) e_u1010) o5_tellPart tw254 ⟨rfl, rfl, Nat.le_of_ble_eq_true rfl, Nat.le_of_ble_eq_true rfl⟩ hP hK hD hS hA (wB_fst.trans wB_fst.symm) 0 rfl rfl rfl rfl hl rfl (by decide) ⟨Nat.le_refl _, Nat.le_refl _⟩ rfl dX5_walk_87 (fun H locs hP hD hS => ?_)
          refine lv_iinc (v := (v1_1006 + (iI 3))) (lv' := [(1, .int (v1_1006 + (iI 3))), (0, .ref q0)]) X.1.1 X.1.2.1 dX5_walk_90 hl (k := 1) rfl rfl (by decide) rfl (fun ls hl => ?_)
          refine lv_goto (tgt := 47) X.1.1 X.1.2.1 dX5_walk_93 (by decide) ?_
          exact ih (v1_1006 + (iI 3)) u1010.1 u1010.2.1 u1010.2.2.1 u1010.2.2.2.1 u1010.2.2.2.2.1 u1010.2.2.2.2.2 H locs ls hP hD hS (lv_sub hl [1, 0] rfl) hE
    refine lp47 _ (fun v1_1006 ki_1006 sp_1006 tu_1006 wo_1006 th_1006 st_1006 H locs ls hP hD hS hl hE => ?_) FU (iI 3) ki sp tu u1005.1 u1005.2 st _ _ ls hP hD hS (lv_sub hl [1, 0] rfl) hE
    refine lv_aload_n X.1.1 X.1.2.1 dX5_walk_96 rfl (lv_at hl 0 rfl) ?_
    refine lv_iconst (v := (iI 0)) X.1.1 X.1.2.1 dX5_walk_97 rfl ?_
    refine pf5_89 (ws2 := (wB cI cZ q0 q1 q2 q3 q4 q5 q6 q7 q8 q9 q10 q11 q12 q13 q14 q15 q16 q17 q18 q19 lt ln ki_1006 sp_1006 tu_1006 wo_1006 th_1006 st_1006 u1004.1 u1004.2.1 u1004.2.2.1 u1004.2.2.2.1 u1004.2.2.2.2.1 u1004.2.2.2.2.2 tst tch tya tow tca thu tle an sn kp so sf sc ss (iI 0) sd)) X hK hP hD hS 0 rfl (Nat.le_of_ble_eq_true rfl) rfl dX5_walk_98 (fun H locs hP hD hS => ?_)
    refine lv_iconst (v := (iI 0)) X.1.1 X.1.2.1 dX5_walk_101 rfl ?_
    refine lv_istore_n (lv' := [(1, .int (iI 0)), (0, .ref q0)]) X.1.1 X.1.2.1 dX5_walk_102 rfl hl (by decide) rfl (fun ls hl => ?_)
    have lp103 : ∀ (k : Int32 → (Nat → Int32) → Option (Int32 × (Nat → Int32) × (Nat → Int32) × (Nat → Int32) × Int32 × Int32 × (Nat → Int32) × Int32 × Int32 × Int32 × Int32 × Int32 × Int32 × (Nat → Int32) × Int32)), (∀ (v1_1011 : Int32) (kp_1011 : Nat → Int32) (H : Heap) (locs : List Loc) (ls : Array Slot), va_P G vwCl (wB cI cZ q0 q1 q2 q3 q4 q5 q6 q7 q8 q9 q10 q11 q12 q13 q14 q15 q16 q17 q18 q19 lt ln ki_1006 sp_1006 tu_1006 wo_1006 th_1006 st_1006 u1004.1 u1004.2.1 u1004.2.2.1 u1004.2.2.2.1 u1004.2.2.2.2.1 u1004.2.2.2.2.2 tst tch tya tow tca thu tle an sn kp_1011 so sf sc ss (iI 0) sd) H → va_D A (wB cI cZ q0 q1 q2 q3 q4 q5 q6 q7 q8 q9 q10 q11 q12 q13 q14 q15 q16 q17 q18 q19 lt ln ki_1006 sp_1006 tu_1006 wo_1006 th_1006 st_1006 u1004.1 u1004.2.1 u1004.2.2.1 u1004.2.2.2.1 u1004.2.2.2.2.1 u1004.2.2.2.2.2 tst tch tya tow tca thu tle an sn kp_1011 so sf sc ss (iI 0) sd) → va_S A s.heap H locs → lv_has ls 2 [(0, .ref q0), (1, .int v1_1011)] → k v1_1011 kp_1011 = some u → W p l e rm5_walk s m ([.ref q0] : List Value).toArray below meth c H locs 0 0 (MQ below (QW G (some (.int u.1)) (wB cI cZ q0 q1 q2 q3 q4 q5 q6 q7 q8 q9 q10 q11 q12 q13 q14 q15 q16 q17 q18 q19 lt ln u.2.1 u.2.2.1 u.2.2.2.1 u.2.2.2.2.1 u.2.2.2.2.2.1 u.2.2.2.2.2.2.1 u.2.2.2.2.2.2.2.1 u.2.2.2.2.2.2.2.2.1 u.2.2.2.2.2.2.2.2.2.1 u.2.2.2.2.2.2.2.2.2.2.1 u.2.2.2.2.2.2.2.2.2.2.2.1 u.2.2.2.2.2.2.2.2.2.2.2.2.1 tst tch tya tow tca thu tle an sn u.2.2.2.2.2.2.2.2.2.2.2.2.2.1 so sf sc ss u.2.2.2.2.2.2.2.2.2.2.2.2.2.2 sd) A) ([.ref q0] : List Value).toArray s 0 0 A) (F0 m 125 ls [])) → ∀ (n : Nat) (v1_1011 : Int32) (kp_1011 : Nat → Int32) (H : Heap) (locs : List Loc) (ls : Array Slot), va_P G vwCl (wB cI cZ q0 q1 q2 q3 q4 q5 q6 q7 q8 q9 q10 q11 q12 q13 q14 q15 q16 q17 q18 q19 lt ln ki_1006 sp_1006 tu_1006 wo_1006 th_1006 st_1006 u1004.1 u1004.2.1 u1004.2.2.1 u1004.2.2.2.1 u1004.2.2.2.2.1 u1004.2.2.2.2.2 tst tch tya tow tca thu tle an sn kp_1011 so sf sc ss (iI 0) sd) H → va_D A (wB cI cZ q0 q1 q2 q3 q4 q5 q6 q7 q8 q9 q10 q11 q12 q13 q14 q15 q16 q17 q18 q19 lt ln ki_1006 sp_1006 tu_1006 wo_1006 th_1006 st_1006 u1004.1 u1004.2.1 u1004.2.2.1 u1004.2.2.2.1 u1004.2.2.2.2.1 u1004.2.2.2.2.2 tst tch tya tow tca thu tle an sn kp_1011 so sf sc ss (iI 0) sd) → va_S A s.heap H locs → lv_has ls 2 [(0, .ref q0), (1, .int v1_1011)] → l5_walk_103 k n v1_1011 kp_1011 = some u → W p l e rm5_walk s m ([.ref q0] : List Value).toArray below meth c H locs 0 0 (MQ below (QW G (some (.int u.1)) (wB cI cZ q0 q1 q2 q3 q4 q5 q6 q7 q8 q9 q10 q11 q12 q13 q14 q15 q16 q17 q18 q19 lt ln u.2.1 u.2.2.1 u.2.2.2.1 u.2.2.2.2.1 u.2.2.2.2.2.1 u.2.2.2.2.2.2.1 u.2.2.2.2.2.2.2.1 u.2.2.2.2.2.2.2.2.1 u.2.2.2.2.2.2.2.2.2.1 u.2.2.2.2.2.2.2.2.2.2.1 u.2.2.2.2.2.2.2.2.2.2.2.1 u.2.2.2.2.2.2.2.2.2.2.2.2.1 tst tch tya tow tca thu tle an sn u.2.2.2.2.2.2.2.2.2.2.2.2.2.1 so sf sc ss u.2.2.2.2.2.2.2.2.2.2.2.2.2.2 sd) A) ([.ref q0] : List Value).toArray s 0 0 A) (F0 m 103 ls []) := by
      intro k hex n
      induction n with
      | zero =>
        intro v1_1011 kp_1011 H locs ls hP hD hS hl hE
        exact absurd (show (none : Option (Int32 × (Nat → Int32) × (Nat → Int32) × (Nat → Int32) × Int32 × Int32 × (Nat → Int32) × Int32 × Int32 × Int32 × Int32 × Int32 × Int32 × (Nat → Int32) × Int32)) = some u from hE) (fun h => by cases h)
      | succ n ih =>
        intro v1_1011 kp_1011 H locs ls hP hD hS hl hE
        rw [l5_walk_103] at hE
        refine lv_iload_n X.1.1 X.1.2.1 dX5_walk_103 rfl (lv_at hl 1 rfl) ?_
        refine lv_aload_n X.1.1 X.1.2.1 dX5_walk_104 rfl (lv_at hl 0 rfl) ?_
        refine gf5_45 X hK hP 0 rfl rfl dX5_walk_105 ?_
        refine va_alen (v := (Int32.ofNat 2)) X.1.1 X.1.2.1 hK hP 15 1 rfl rfl rfl dX5_walk_108 ?_
        refine lv_icmp_ge (tgt := 125) X.1.1 X.1.2.1 dX5_walk_109 (by decide) (fun c_109 => ?_) (fun c_109 => ?_)
        · have hE := ite_t hE c_109
          exact hex v1_1011 kp_1011 H locs ls hP hD hS (lv_sub hl [0, 1] rfl) hE
        · have hE := ite_f hE c_109
          refine lv_aload_n X.1.1 X.1.2.1 dX5_walk_112 rfl (lv_at hl 0 rfl) ?_
          refine gf5_45 X hK hP 0 rfl rfl dX5_walk_113 ?_
          refine lv_iload_n X.1.1 X.1.2.1 dX5_walk_116 rfl (lv_at hl 1 rfl) ?_
          refine lv_iconst (v := (iI 0)) X.1.1 X.1.2.1 dX5_walk_117 rfl ?_
          obtain ⟨i_118, hE⟩ := ib_some hE
          refine astZ (t0 := 0) (ws' := (wB cI cZ q0 q1 q2 q3 q4 q5 q6 q7 q8 q9 q10 q11 q12 q13 q14 q15 q16 q17 q18 q19 lt ln ki_1006 sp_1006 tu_1006 wo_1006 th_1006 st_1006 u1004.1 u1004.2.1 u1004.2.2.1 u1004.2.2.2.1 u1004.2.2.2.2.1 u1004.2.2.2.2.2 tst tch tya tow tca thu tle an sn (upd kp_1011 v1_1011.toNatClampNeg (vp_nar .boolean (iI 0))) so sf sc ss (iI 0) sd)) X hK hP hD hS 15 1 rfl rfl i_118 rfl dX5_walk_118 (fun H locs hP hD hS => ?_)
          refine lv_iinc (v := (v1_1011 + (iI 1))) (lv' := [(1, .int (v1_1011 + (iI 1))), (0, .ref q0)]) X.1.1 X.1.2.1 dX5_walk_119 hl (k := 1) rfl rfl (by decide) rfl (fun ls hl => ?_)
          refine lv_goto (tgt := 103) X.1.1 X.1.2.1 dX5_walk_122 (by decide) ?_
          exact ih (v1_1011 + (iI 1)) (upd kp_1011 v1_1011.toNatClampNeg (vp_nar .boolean (iI 0))) H locs ls hP hD hS (lv_sub hl [1, 0] rfl) hE
    refine lp103 _ (fun v1_1011 kp_1011 H locs ls hP hD hS hl hE => ?_) FU (iI 0) kp _ _ ls hP hD hS (lv_sub hl [1, 0] rfl) hE
    refine lv_bipush (v := (iI 10)) X.1.1 X.1.2.1 dX5_walk_125 (by decide) ?_
    refine lv_aload_n X.1.1 X.1.2.1 dX5_walk_127 rfl (lv_at hl 0 rfl) ?_
    refine gf5_19 X hK hP 0 rfl rfl dX5_walk_128 ?_
    refine gf5_92 X hK hP 3 rfl rfl dX5_walk_131 ?_
    refine lv_imul X.1.1 X.1.2.1 dX5_walk_134 ?_
    refine lv_aload_n X.1.1 X.1.2.1 dX5_walk_135 rfl (lv_at hl 0 rfl) ?_
    refine gf5_19 X hK hP 0 rfl rfl dX5_walk_136 ?_
    refine gf5_95 X hK hP 3 rfl rfl dX5_walk_139 ?_
    refine lv_iadd X.1.1 X.1.2.1 dX5_walk_142 ?_
    cases hE
    exact retW X hP hS dX5_walk_143
  · have hE := ite_f hE c_9
    refine lv_bipush (v := (iI (-3))) X.1.1 X.1.2.1 dX5_walk_12 (by decide) ?_
    cases hE
    exact retW X hP hS dX5_walk_14
theorem o5_farOf : oV yX5_farOf RX5 cX5_farOf 3 (some .int) 1 := ⟨tw329, tw328, tw1, tw39, ⟨by decide +kernel, by decide +kernel⟩, by decide +kernel⟩
abbrev rm5_farOf : Room := { frames := 4, cells := 0, slots := 0, locals := 92 }
set_option maxHeartbeats 4000000 in
set_option maxRecDepth 100000 in
theorem c5_farOf {l : Launch} {G : va_G} {cI cZ : ClassId} {q0 q1 q2 q3 q4 q5 q6 q7 q8 q9 q10 q11 q12 q13 q14 q15 q16 q17 q18 q19 : Nat} {lt : Nat → Int32} {ln : Int32} {ki : Nat → Int32} {sp : Nat → Int32} {tu : Nat → Int32} {wo : Int32} {th : Int32} {st : Nat → Int32} {ch : Int32} {ya : Int32} {ow : Int32} {ca : Int32} {hu : Int32} {le : Int32} {tst : Nat → Int32} {tch : Int32} {tya : Int32} {tow : Int32} {tca : Int32} {thu : Int32} {tle : Int32} {an : Nat → Int32} {sn : Nat → Int32} {kp : Nat → Int32} {so : Nat → Int32} {sf : Nat → Int32} {sc : Nat → Int32} {ss : Int32} {ai : Int32} {sd : Int64} {v1 : Int32} {u : Int32} (hE : f5_farOf v1 ki sp tu th st hu = some u) : Met l yX5_farOf (Cond.code yX5_farOf cX5_farOf 3 (some .int) :: TB) rm5_farOf (PcR G cI cZ (wB cI cZ q0 q1 q2 q3 q4 q5 q6 q7 q8 q9 q10 q11 q12 q13 q14 q15 q16 q17 q18 q19 lt ln ki sp tu wo th st ch ya ow ca hu le tst tch tya tow tca thu tle an sn kp so sf sc ss ai sd) ([.ref q0, .int v1] : List Value)) (QcRead u) 0 0 (fun _ => False) := by
  refine metR (own := RX5) (by decide +kernel) rfl (Nat.le_of_ble_eq_true rfl) ?_
  intro p e s m below meth c ls X hP hK hl
  have hl : lv_has ls 3 [(0, .ref q0), (1, .int v1)] := hl
  unfold f5_farOf at hE
  refine lv_bipush (v := (iI 9)) X.1.1 X.1.2.1 dX5_farOf_0 (by decide) ?_
  refine lv_istore_n (lv' := [(2, .int (iI 9)), (0, .ref q0), (1, .int v1)]) X.1.1 X.1.2.1 dX5_farOf_2 rfl hl (by decide) rfl (fun ls hl => ?_)
  have lp3 : ∀ (k : Int32 → Option Int32), (∀ (v2_1001 : Int32) (ls : Array Slot), lv_has ls 3 [(0, .ref q0), (1, .int v1), (2, .int v2_1001)] → k v2_1001 = some u → W p l e rm5_farOf s m ([.ref q0, .int v1] : List Value).toArray below meth c s.heap [] 0 0 (MQ below (QcRead u) ([.ref q0, .int v1] : List Value).toArray s 0 0 (fun _ => False)) (F0 m 31 ls [])) → ∀ (n : Nat) (v2_1001 : Int32) (ls : Array Slot), lv_has ls 3 [(0, .ref q0), (1, .int v1), (2, .int v2_1001)] → l5_farOf_3 k v1 ki sp tu th st hu n v2_1001 = some u → W p l e rm5_farOf s m ([.ref q0, .int v1] : List Value).toArray below meth c s.heap [] 0 0 (MQ below (QcRead u) ([.ref q0, .int v1] : List Value).toArray s 0 0 (fun _ => False)) (F0 m 3 ls []) := by
    intro k hex n
    induction n with
    | zero =>
      intro v2_1001 ls hl hE
      exact absurd (show (none : Option Int32) = some u from hE) (fun h => by cases h)
    | succ n ih =>
      intro v2_1001 ls hl hE
      rw [l5_farOf_3] at hE
      refine lv_iload_n X.1.1 X.1.2.1 dX5_farOf_3 rfl (lv_at hl 2 rfl) ?_
      refine lv_if_lt (tgt := 31) X.1.1 X.1.2.1 dX5_farOf_4 (by decide) (fun c_4 => ?_) (fun c_4 => ?_)
      · have hE := ite_t hE c_4
        exact hex v2_1001 ls (lv_sub hl [0, 1, 2] rfl) hE
      · have hE := ite_f hE c_4
        refine lv_aload_n X.1.1 X.1.2.1 dX5_farOf_7 rfl (lv_at hl 0 rfl) ?_
        refine gf5_19 X hK hP 0 rfl rfl dX5_farOf_8 ?_
        refine lv_aload_n X.1.1 X.1.2.1 dX5_farOf_11 rfl (lv_at hl 0 rfl) ?_
        refine gf5_26 X hK hP 0 rfl rfl dX5_farOf_12 ?_
        refine lv_iload_n X.1.1 X.1.2.1 dX5_farOf_15 rfl (lv_at hl 1 rfl) ?_
        refine lv_iload_n X.1.1 X.1.2.1 dX5_farOf_16 rfl (lv_at hl 2 rfl) ?_
        obtain ⟨u1002, e_u1002, hE⟩ := bd_some hE
        refine callRV (wsC := (wFD cI cZ q3 q4 q5 q6 q7 q8 ki sp tu wo th st ch ya ow ca hu le)) (As := [.ref q7, .int v1, .int v2_1001]) (rest := []) (ci := 1) X (c1_brings (l := l) e_u1002) o1_brings tw296 ⟨rfl, rfl, Nat.le_of_ble_eq_true rfl, Nat.le_of_ble_eq_true rfl⟩ (hP.sub [3, 4, 5, 6, 7, 8] rfl) hK 0 rfl rfl rfl rfl hl rfl (by decide) ⟨Nat.le_refl _, Nat.le_refl _⟩ dX5_farOf_17 ?_
        refine lv_if_eq (tgt := 25) X.1.1 X.1.2.1 dX5_farOf_20 (by decide) (fun c_20 => ?_) (fun c_20 => ?_)
        · have hE := ite_t hE c_20
          refine lv_iinc (v := (v2_1001 + (iI (-1)))) (lv' := [(2, .int (v2_1001 + (iI (-1)))), (0, .ref q0), (1, .int v1)]) X.1.1 X.1.2.1 dX5_farOf_25 hl (k := 2) rfl rfl (by decide) rfl (fun ls hl => ?_)
          refine lv_goto (tgt := 3) X.1.1 X.1.2.1 dX5_farOf_28 (by decide) ?_
          exact ih (v2_1001 + (iI (-1))) ls (lv_sub hl [1, 2, 0] rfl) hE
        · have hE := ite_f hE c_20
          refine lv_iload_n X.1.1 X.1.2.1 dX5_farOf_23 rfl (lv_at hl 2 rfl) ?_
          cases hE
          exact retR X dX5_farOf_24
  refine lp3 _ (fun v2_1001 ls hl hE => ?_) FU (iI 9) ls (lv_sub hl [1, 2, 0] rfl) hE
  refine lv_bipush (v := (iI (-9))) X.1.1 X.1.2.1 dX5_farOf_31 (by decide) ?_
  cases hE
  exact retR X dX5_farOf_33
theorem o5_spentOf : oV yX5_spentOf RX5 cX5_spentOf 3 (some .int) 1 := ⟨tw333, tw332, tw2, tw39, ⟨by decide +kernel, by decide +kernel⟩, by decide +kernel⟩
abbrev rm5_spentOf : Room := { frames := 1, cells := 0, slots := 0, locals := 21 }
set_option maxHeartbeats 4000000 in
set_option maxRecDepth 100000 in
theorem c5_spentOf {l : Launch} {G : va_G} {cI cZ : ClassId} {q0 q1 q2 q3 q4 q5 q6 q7 q8 q9 q10 q11 q12 q13 q14 q15 q16 q17 q18 q19 : Nat} {lt : Nat → Int32} {ln : Int32} {ki : Nat → Int32} {sp : Nat → Int32} {tu : Nat → Int32} {wo : Int32} {th : Int32} {st : Nat → Int32} {ch : Int32} {ya : Int32} {ow : Int32} {ca : Int32} {hu : Int32} {le : Int32} {tst : Nat → Int32} {tch : Int32} {tya : Int32} {tow : Int32} {tca : Int32} {thu : Int32} {tle : Int32} {an : Nat → Int32} {sn : Nat → Int32} {kp : Nat → Int32} {so : Nat → Int32} {sf : Nat → Int32} {sc : Nat → Int32} {ss : Int32} {ai : Int32} {sd : Int64} {v1 : Int32} {u : Int32} (hE : f5_spentOf v1 ki st = some u) : Met l yX5_spentOf (Cond.code yX5_spentOf cX5_spentOf 3 (some .int) :: TB) rm5_spentOf (PcR G cI cZ (wB cI cZ q0 q1 q2 q3 q4 q5 q6 q7 q8 q9 q10 q11 q12 q13 q14 q15 q16 q17 q18 q19 lt ln ki sp tu wo th st ch ya ow ca hu le tst tch tya tow tca thu tle an sn kp so sf sc ss ai sd) ([.ref q0, .int v1] : List Value)) (QcRead u) 0 0 (fun _ => False) := by
  refine metR (own := RX5) (by decide +kernel) rfl (Nat.le_of_ble_eq_true rfl) ?_
  intro p e s m below meth c ls X hP hK hl
  have hl : lv_has ls 3 [(0, .ref q0), (1, .int v1)] := hl
  unfold f5_spentOf at hE
  refine lv_aload_n X.1.1 X.1.2.1 dX5_spentOf_0 rfl (lv_at hl 0 rfl) ?_
  refine gf5_26 X hK hP 0 rfl rfl dX5_spentOf_1 ?_
  refine lv_iload_n X.1.1 X.1.2.1 dX5_spentOf_4 rfl (lv_at hl 1 rfl) ?_
  obtain ⟨u1001, e_u1001, hE⟩ := bd_some hE
  refine callRV (wsC := (wD cI cZ q7 q8 st ch ya ow ca hu le)) (As := [.int v1]) (rest := []) (ci := 0) X (c0_strengthOf (l := l) e_u1001) o0_strengthOf tw278 ⟨rfl, rfl, Nat.le_of_ble_eq_true rfl, Nat.le_of_ble_eq_true rfl⟩ (hP.sub [7, 8] rfl) hK 0 rfl rfl rfl rfl hl rfl (by decide) ⟨Nat.le_refl _, Nat.le_refl _⟩ dX5_spentOf_5 ?_
  refine lv_istore_n (lv' := [(2, .int u1001), (0, .ref q0), (1, .int v1)]) X.1.1 X.1.2.1 dX5_spentOf_8 rfl hl (by decide) rfl (fun ls hl => ?_)
  refine lv_aload_n X.1.1 X.1.2.1 dX5_spentOf_9 rfl (lv_at hl 1 rfl) ?_
  refine gf5_19 X hK hP 0 rfl rfl dX5_spentOf_10 ?_
  refine lv_iload_n X.1.1 X.1.2.1 dX5_spentOf_13 rfl (lv_at hl 2 rfl) ?_
  obtain ⟨u1002, e_u1002, hE⟩ := bd_some hE
  refine callRV (wsC := (wF cI cZ q3 q4 q5 q6 ki sp tu wo th)) (As := [.int v1]) (rest := []) (ci := 1) X (c1_kindOf (l := l) e_u1002) o1_kindOf tw282 ⟨rfl, rfl, Nat.le_of_ble_eq_true rfl, Nat.le_of_ble_eq_true rfl⟩ (hP.sub [3, 4, 5, 6] rfl) hK 0 rfl rfl rfl rfl hl rfl (by decide) ⟨Nat.le_refl _, Nat.le_refl _⟩ dX5_spentOf_14 ?_
  refine lv_iconst (v := (iI 2)) X.1.1 X.1.2.1 dX5_spentOf_17 rfl ?_
  refine lv_icmp_ne (tgt := 29) X.1.1 X.1.2.1 dX5_spentOf_18 (by decide) (fun c_18 => ?_) (fun c_18 => ?_)
  · have hE := ite_f hE c_18
    refine lv_iload_n X.1.1 X.1.2.1 dX5_spentOf_29 rfl (lv_at hl 0 rfl) ?_
    cases hE
    exact retR X dX5_spentOf_30
  · have hE := ite_t hE c_18
    refine lv_iload_n X.1.1 X.1.2.1 dX5_spentOf_21 rfl (lv_at hl 0 rfl) ?_
    refine lv_iconst (v := (iI 1)) X.1.1 X.1.2.1 dX5_spentOf_22 rfl ?_
    refine lv_iadd X.1.1 X.1.2.1 dX5_spentOf_23 ?_
    refine lv_iconst (v := (iI 2)) X.1.1 X.1.2.1 dX5_spentOf_24 rfl ?_
    refine lv_idiv X.1.1 X.1.2.1 dX5_spentOf_25 (by decide) ?_
    refine lv_goto (tgt := 30) X.1.1 X.1.2.1 dX5_spentOf_26 (by decide) ?_
    cases hE
    exact retR X dX5_spentOf_30
theorem o5_word : oV yX5_word RX5 cX5_word 3 (some .int) 2 := ⟨tw273, tw271, tw272, tw39, ⟨by decide +kernel, by decide +kernel⟩, by decide +kernel⟩
abbrev rm5_word : Room := { frames := 5, cells := 0, slots := 0, locals := 114 }
set_option maxHeartbeats 4000000 in
set_option maxRecDepth 100000 in
theorem c5_word {l : Launch} {G : va_G} {cI cZ : ClassId} {q0 q1 q2 q3 q4 q5 q6 q7 q8 q9 q10 q11 q12 q13 q14 q15 q16 q17 q18 q19 : Nat} {lt : Nat → Int32} {ln : Int32} {ki : Nat → Int32} {sp : Nat → Int32} {tu : Nat → Int32} {wo : Int32} {th : Int32} {st : Nat → Int32} {ch : Int32} {ya : Int32} {ow : Int32} {ca : Int32} {hu : Int32} {le : Int32} {tst : Nat → Int32} {tch : Int32} {tya : Int32} {tow : Int32} {tca : Int32} {thu : Int32} {tle : Int32} {an : Nat → Int32} {sn : Nat → Int32} {kp : Nat → Int32} {so : Nat → Int32} {sf : Nat → Int32} {sc : Nat → Int32} {ss : Int32} {ai : Int32} {sd : Int64} {v1 : Int32} {v2 : Int32} {u : Int32} (hE : f5_word v1 v2 ki sp tu wo th st ya hu = some u) : Met l yX5_word (Cond.code yX5_word cX5_word 3 (some .int) :: TB) rm5_word (PcR G cI cZ (wB cI cZ q0 q1 q2 q3 q4 q5 q6 q7 q8 q9 q10 q11 q12 q13 q14 q15 q16 q17 q18 q19 lt ln ki sp tu wo th st ch ya ow ca hu le tst tch tya tow tca thu tle an sn kp so sf sc ss ai sd) ([.ref q0, .int v1, .int v2] : List Value)) (QcRead u) 0 0 (fun _ => False) := by
  refine metR (own := RX5) (by decide +kernel) rfl (Nat.le_of_ble_eq_true rfl) ?_
  intro p e s m below meth c ls X hP hK hl
  have hl : lv_has ls 3 [(0, .ref q0), (1, .int v1), (2, .int v2)] := hl
  unfold f5_word at hE
  refine lv_aload_n X.1.1 X.1.2.1 dX5_word_0 rfl (lv_at hl 0 rfl) ?_
  refine gf5_19 X hK hP 0 rfl rfl dX5_word_1 ?_
  refine lv_iload_n X.1.1 X.1.2.1 dX5_word_4 rfl (lv_at hl 1 rfl) ?_
  obtain ⟨u1001, e_u1001, hE⟩ := bd_some hE
  refine callRV (wsC := (wF cI cZ q3 q4 q5 q6 ki sp tu wo th)) (As := [.int v1]) (rest := []) (ci := 1) X (c1_hasWord (l := l) e_u1001) o1_hasWord tw274 ⟨rfl, rfl, Nat.le_of_ble_eq_true rfl, Nat.le_of_ble_eq_true rfl⟩ (hP.sub [3, 4, 5, 6] rfl) hK 0 rfl rfl rfl rfl hl rfl (by decide) ⟨Nat.le_refl _, Nat.le_refl _⟩ dX5_word_5 ?_
  refine lv_if_ne (tgt := 13) X.1.1 X.1.2.1 dX5_word_8 (by decide) (fun c_8 => ?_) (fun c_8 => ?_)
  · have hE := ite_f hE c_8
    refine lv_iload_n X.1.1 X.1.2.1 dX5_word_13 rfl (lv_at hl 2 rfl) ?_
    by_cases s_14_0 : v2 = (iI 0)
    · have hE := ite_t hE s_14_0
      refine tbIn (k := 0) (off := 38) (tgt := 52) X dX5_word_14 s_14_0 (by decide) (by decide) (by decide) rfl (by decide) ?_
      refine lv_aload_n X.1.1 X.1.2.1 dX5_word_52 rfl (lv_at hl 0 rfl) ?_
      refine gf5_26 X hK hP 0 rfl rfl dX5_word_53 ?_
      refine lv_iload_n X.1.1 X.1.2.1 dX5_word_56 rfl (lv_at hl 1 rfl) ?_
      obtain ⟨u1002, e_u1002, hE⟩ := bd_some hE
      refine callRV (wsC := (wD cI cZ q7 q8 st ch ya ow ca hu le)) (As := [.int v1]) (rest := []) (ci := 0) X (c0_strengthOf (l := l) e_u1002) o0_strengthOf tw278 ⟨rfl, rfl, Nat.le_of_ble_eq_true rfl, Nat.le_of_ble_eq_true rfl⟩ (hP.sub [7, 8] rfl) hK 0 rfl rfl rfl rfl hl rfl (by decide) ⟨Nat.le_refl _, Nat.le_refl _⟩ dX5_word_57 ?_
      cases hE
      exact retR X dX5_word_60
    · have hE := ite_f hE s_14_0
      by_cases s_14_1 : v2 = (iI 1)
      · have hE := ite_t hE s_14_1
        refine tbIn (k := 1) (off := 47) (tgt := 61) X dX5_word_14 s_14_1 (by decide) (by decide) (by decide) rfl (by decide) ?_
        refine lv_aload_n X.1.1 X.1.2.1 dX5_word_61 rfl (lv_at hl 0 rfl) ?_
        refine gf5_19 X hK hP 0 rfl rfl dX5_word_62 ?_
        refine lv_iload_n X.1.1 X.1.2.1 dX5_word_65 rfl (lv_at hl 1 rfl) ?_
        obtain ⟨u1003, e_u1003, hE⟩ := bd_some hE
        refine callRV (wsC := (wF cI cZ q3 q4 q5 q6 ki sp tu wo th)) (As := [.int v1]) (rest := []) (ci := 1) X (c1_kindOf (l := l) e_u1003) o1_kindOf tw282 ⟨rfl, rfl, Nat.le_of_ble_eq_true rfl, Nat.le_of_ble_eq_true rfl⟩ (hP.sub [3, 4, 5, 6] rfl) hK 0 rfl rfl rfl rfl hl rfl (by decide) ⟨Nat.le_refl _, Nat.le_refl _⟩ dX5_word_66 ?_
        cases hE
        exact retR X dX5_word_69
      · have hE := ite_f hE s_14_1
        by_cases s_14_2 : v2 = (iI 2)
        · have hE := ite_t hE s_14_2
          refine tbIn (k := 2) (off := 56) (tgt := 70) X dX5_word_14 s_14_2 (by decide) (by decide) (by decide) rfl (by decide) ?_
          refine lv_aload_n X.1.1 X.1.2.1 dX5_word_70 rfl (lv_at hl 0 rfl) ?_
          refine gf5_19 X hK hP 0 rfl rfl dX5_word_71 ?_
          refine lv_aload_n X.1.1 X.1.2.1 dX5_word_74 rfl (lv_at hl 0 rfl) ?_
          refine gf5_26 X hK hP 0 rfl rfl dX5_word_75 ?_
          refine lv_iload_n X.1.1 X.1.2.1 dX5_word_78 rfl (lv_at hl 1 rfl) ?_
          refine lv_aload_n X.1.1 X.1.2.1 dX5_word_79 rfl (lv_at hl 0 rfl) ?_
          refine gf5_26 X hK hP 0 rfl rfl dX5_word_80 ?_
          refine gf5_117 X hK hP 7 rfl rfl dX5_word_83 ?_
          obtain ⟨u1004, e_u1004, hE⟩ := bd_some hE
          refine callRV (wsC := (wFD cI cZ q3 q4 q5 q6 q7 q8 ki sp tu wo th st ch ya ow ca hu le)) (As := [.ref q7, .int v1, .int ya]) (rest := []) (ci := 1) X (c1_powerOf (l := l) e_u1004) o1_powerOf tw286 ⟨rfl, rfl, Nat.le_of_ble_eq_true rfl, Nat.le_of_ble_eq_true rfl⟩ (hP.sub [3, 4, 5, 6, 7, 8] rfl) hK 0 rfl rfl rfl rfl hl rfl (by decide) ⟨Nat.le_refl _, Nat.le_refl _⟩ dX5_word_86 ?_
          cases hE
          exact retR X dX5_word_89
        · have hE := ite_f hE s_14_2
          by_cases s_14_3 : v2 = (iI 3)
          · have hE := ite_t hE s_14_3
            refine tbIn (k := 3) (off := 76) (tgt := 90) X dX5_word_14 s_14_3 (by decide) (by decide) (by decide) rfl (by decide) ?_
            refine lv_aload_n X.1.1 X.1.2.1 dX5_word_90 rfl (lv_at hl 0 rfl) ?_
            refine gf5_19 X hK hP 0 rfl rfl dX5_word_91 ?_
            refine lv_aload_n X.1.1 X.1.2.1 dX5_word_94 rfl (lv_at hl 0 rfl) ?_
            refine gf5_26 X hK hP 0 rfl rfl dX5_word_95 ?_
            refine lv_iload_n X.1.1 X.1.2.1 dX5_word_98 rfl (lv_at hl 1 rfl) ?_
            refine lv_aload_n X.1.1 X.1.2.1 dX5_word_99 rfl (lv_at hl 0 rfl) ?_
            refine gf5_26 X hK hP 0 rfl rfl dX5_word_100 ?_
            refine gf5_117 X hK hP 7 rfl rfl dX5_word_103 ?_
            obtain ⟨u1005, e_u1005, hE⟩ := bd_some hE
            refine callRV (wsC := (wFD cI cZ q3 q4 q5 q6 q7 q8 ki sp tu wo th st ch ya ow ca hu le)) (As := [.ref q7, .int v1, .int ya]) (rest := []) (ci := 1) X (c1_brings (l := l) e_u1005) o1_brings tw296 ⟨rfl, rfl, Nat.le_of_ble_eq_true rfl, Nat.le_of_ble_eq_true rfl⟩ (hP.sub [3, 4, 5, 6, 7, 8] rfl) hK 0 rfl rfl rfl rfl hl rfl (by decide) ⟨Nat.le_refl _, Nat.le_refl _⟩ dX5_word_106 ?_
            obtain ⟨u1006, e_u1006, hE⟩ := bd_some hE
            refine callRS (wsC := []) (As := [.int u1005]) (rest := []) (cI := cI) (cZ := cZ) X (c5_asNumber (l := l) (G := G) (cI := cI) (cZ := cZ) e_u1006) o5_asNumber tw323 ⟨rfl, rfl, Nat.le_of_ble_eq_true rfl, Nat.le_of_ble_eq_true rfl⟩ va_P_nil hK rfl hl rfl (by decide) ⟨Nat.le_refl _, Nat.le_refl _⟩ dX5_word_109 ?_
            cases hE
            exact retR X dX5_word_112
          · have hE := ite_f hE s_14_3
            by_cases s_14_4 : v2 = (iI 4)
            · have hE := ite_t hE s_14_4
              refine tbIn (k := 4) (off := 99) (tgt := 113) X dX5_word_14 s_14_4 (by decide) (by decide) (by decide) rfl (by decide) ?_
              refine lv_aload_n X.1.1 X.1.2.1 dX5_word_113 rfl (lv_at hl 0 rfl) ?_
              refine lv_iload_n X.1.1 X.1.2.1 dX5_word_114 rfl (lv_at hl 1 rfl) ?_
              obtain ⟨u1007, e_u1007, hE⟩ := bd_some hE
              refine callRV (wsC := (wB cI cZ q0 q1 q2 q3 q4 q5 q6 q7 q8 q9 q10 q11 q12 q13 q14 q15 q16 q17 q18 q19 lt ln ki sp tu wo th st ch ya ow ca hu le tst tch tya tow tca thu tle an sn kp so sf sc ss ai sd)) (As := [.int v1]) (rest := []) (ci := 5) X (c5_farOf (l := l) e_u1007) o5_farOf tw326 ⟨rfl, rfl, Nat.le_of_ble_eq_true rfl, Nat.le_of_ble_eq_true rfl⟩ hP hK 0 rfl rfl rfl rfl hl rfl (by decide) ⟨Nat.le_refl _, Nat.le_refl _⟩ dX5_word_115 ?_
              cases hE
              exact retR X dX5_word_118
            · have hE := ite_f hE s_14_4
              by_cases s_14_5 : v2 = (iI 5)
              · have hE := ite_t hE s_14_5
                refine tbIn (k := 5) (off := 105) (tgt := 119) X dX5_word_14 s_14_5 (by decide) (by decide) (by decide) rfl (by decide) ?_
                refine lv_aload_n X.1.1 X.1.2.1 dX5_word_119 rfl (lv_at hl 0 rfl) ?_
                refine lv_iload_n X.1.1 X.1.2.1 dX5_word_120 rfl (lv_at hl 1 rfl) ?_
                obtain ⟨u1008, e_u1008, hE⟩ := bd_some hE
                refine callRV (wsC := (wB cI cZ q0 q1 q2 q3 q4 q5 q6 q7 q8 q9 q10 q11 q12 q13 q14 q15 q16 q17 q18 q19 lt ln ki sp tu wo th st ch ya ow ca hu le tst tch tya tow tca thu tle an sn kp so sf sc ss ai sd)) (As := [.int v1]) (rest := []) (ci := 5) X (c5_spentOf (l := l) e_u1008) o5_spentOf tw330 ⟨rfl, rfl, Nat.le_of_ble_eq_true rfl, Nat.le_of_ble_eq_true rfl⟩ hP hK 0 rfl rfl rfl rfl hl rfl (by decide) ⟨Nat.le_refl _, Nat.le_refl _⟩ dX5_word_121 ?_
                cases hE
                exact retR X dX5_word_124
              · have hE := ite_f hE s_14_5
                have ns_14_0 := sw_ne s_14_0 (by decide) (by decide)
                have ns_14_1 := sw_ne s_14_1 (by decide) (by decide)
                have ns_14_2 := sw_ne s_14_2 (by decide) (by decide)
                have ns_14_3 := sw_ne s_14_3 (by decide) (by decide)
                have ns_14_4 := sw_ne s_14_4 (by decide) (by decide)
                have ns_14_5 := sw_ne s_14_5 (by decide) (by decide)
                refine lv_tableOut (tgt := 125) X.1.1 X.1.2.1 dX5_word_14 (by omega) (by decide) ?_
                refine lv_bipush (v := (iI (-2))) X.1.1 X.1.2.1 dX5_word_125 (by decide) ?_
                cases hE
                exact retR X dX5_word_127
  · have hE := ite_t hE c_8
    refine lv_iconst (v := (iI (-1))) X.1.1 X.1.2.1 dX5_word_11 rfl ?_
    cases hE
    exact retR X dX5_word_12
theorem o5_thing : oV yX5_thing RX5 cX5_thing 3 (some .int) 2 := ⟨tw337, tw335, tw336, tw39, ⟨by decide +kernel, by decide +kernel⟩, by decide +kernel⟩
abbrev rm5_thing : Room := { frames := 1, cells := 0, slots := 0, locals := 21 }
set_option maxHeartbeats 4000000 in
set_option maxRecDepth 100000 in
theorem c5_thing {l : Launch} {G : va_G} {cI cZ : ClassId} {q0 q1 q2 q3 q4 q5 q6 q7 q8 q9 q10 q11 q12 q13 q14 q15 q16 q17 q18 q19 : Nat} {lt : Nat → Int32} {ln : Int32} {ki : Nat → Int32} {sp : Nat → Int32} {tu : Nat → Int32} {wo : Int32} {th : Int32} {st : Nat → Int32} {ch : Int32} {ya : Int32} {ow : Int32} {ca : Int32} {hu : Int32} {le : Int32} {tst : Nat → Int32} {tch : Int32} {tya : Int32} {tow : Int32} {tca : Int32} {thu : Int32} {tle : Int32} {an : Nat → Int32} {sn : Nat → Int32} {kp : Nat → Int32} {so : Nat → Int32} {sf : Nat → Int32} {sc : Nat → Int32} {ss : Int32} {ai : Int32} {sd : Int64} {v1 : Int32} {v2 : Int32} {u : Int32} (hE : f5_thing v1 v2 sp tu th = some u) : Met l yX5_thing (Cond.code yX5_thing cX5_thing 3 (some .int) :: TB) rm5_thing (PcR G cI cZ (wB cI cZ q0 q1 q2 q3 q4 q5 q6 q7 q8 q9 q10 q11 q12 q13 q14 q15 q16 q17 q18 q19 lt ln ki sp tu wo th st ch ya ow ca hu le tst tch tya tow tca thu tle an sn kp so sf sc ss ai sd) ([.ref q0, .int v1, .int v2] : List Value)) (QcRead u) 0 0 (fun _ => False) := by
  refine metR (own := RX5) (by decide +kernel) rfl (Nat.le_of_ble_eq_true rfl) ?_
  intro p e s m below meth c ls X hP hK hl
  have hl : lv_has ls 3 [(0, .ref q0), (1, .int v1), (2, .int v2)] := hl
  unfold f5_thing at hE
  refine lv_aload_n X.1.1 X.1.2.1 dX5_thing_0 rfl (lv_at hl 0 rfl) ?_
  refine gf5_19 X hK hP 0 rfl rfl dX5_thing_1 ?_
  refine lv_iload_n X.1.1 X.1.2.1 dX5_thing_4 rfl (lv_at hl 1 rfl) ?_
  obtain ⟨u1001, e_u1001, hE⟩ := bd_some hE
  refine callRV (wsC := (wF cI cZ q3 q4 q5 q6 ki sp tu wo th)) (As := [.int v1]) (rest := []) (ci := 1) X (c1_hasThing (l := l) e_u1001) o1_hasThing tw338 ⟨rfl, rfl, Nat.le_of_ble_eq_true rfl, Nat.le_of_ble_eq_true rfl⟩ (hP.sub [3, 4, 5, 6] rfl) hK 0 rfl rfl rfl rfl hl rfl (by decide) ⟨Nat.le_refl _, Nat.le_refl _⟩ dX5_thing_5 ?_
  refine lv_if_ne (tgt := 13) X.1.1 X.1.2.1 dX5_thing_8 (by decide) (fun c_8 => ?_) (fun c_8 => ?_)
  · have hE := ite_f hE c_8
    refine lv_iload_n X.1.1 X.1.2.1 dX5_thing_13 rfl (lv_at hl 2 rfl) ?_
    by_cases s_14_0 : v2 = (iI 0)
    · have hE := ite_t hE s_14_0
      refine lv_lookup (off := 26) (tgt := 40) X.1.1 X.1.2.1 dX5_thing_14 (by decide) (by rw [s_14_0]; decide) (by decide) ?_
      refine lv_aload_n X.1.1 X.1.2.1 dX5_thing_40 rfl (lv_at hl 0 rfl) ?_
      refine gf5_19 X hK hP 0 rfl rfl dX5_thing_41 ?_
      refine lv_iload_n X.1.1 X.1.2.1 dX5_thing_44 rfl (lv_at hl 1 rfl) ?_
      obtain ⟨u1002, e_u1002, hE⟩ := bd_some hE
      refine callRV (wsC := (wF cI cZ q3 q4 q5 q6 ki sp tu wo th)) (As := [.int v1]) (rest := []) (ci := 1) X (c1_spotOf (l := l) e_u1002) o1_spotOf tw342 ⟨rfl, rfl, Nat.le_of_ble_eq_true rfl, Nat.le_of_ble_eq_true rfl⟩ (hP.sub [3, 4, 5, 6] rfl) hK 0 rfl rfl rfl rfl hl rfl (by decide) ⟨Nat.le_refl _, Nat.le_refl _⟩ dX5_thing_45 ?_
      cases hE
      exact retR X dX5_thing_48
    · have hE := ite_f hE s_14_0
      by_cases s_14_1 : v2 = (iI 1)
      · have hE := ite_t hE s_14_1
        refine lv_lookup (off := 35) (tgt := 49) X.1.1 X.1.2.1 dX5_thing_14 (by decide) (by rw [s_14_1]; decide) (by decide) ?_
        refine lv_aload_n X.1.1 X.1.2.1 dX5_thing_49 rfl (lv_at hl 0 rfl) ?_
        refine gf5_19 X hK hP 0 rfl rfl dX5_thing_50 ?_
        refine lv_iload_n X.1.1 X.1.2.1 dX5_thing_53 rfl (lv_at hl 1 rfl) ?_
        obtain ⟨u1003, e_u1003, hE⟩ := bd_some hE
        refine callRV (wsC := (wF cI cZ q3 q4 q5 q6 ki sp tu wo th)) (As := [.int v1]) (rest := []) (ci := 1) X (c1_tugOf (l := l) e_u1003) o1_tugOf tw343 ⟨rfl, rfl, Nat.le_of_ble_eq_true rfl, Nat.le_of_ble_eq_true rfl⟩ (hP.sub [3, 4, 5, 6] rfl) hK 0 rfl rfl rfl rfl hl rfl (by decide) ⟨Nat.le_refl _, Nat.le_refl _⟩ dX5_thing_54 ?_
        cases hE
        exact retR X dX5_thing_57
      · have hE := ite_f hE s_14_1
        refine lv_lookup (off := 44) (tgt := 58) X.1.1 X.1.2.1 dX5_thing_14 (by decide) ((lv_osw s_14_0 (by decide)).trans ((lv_osw s_14_1 (by decide)).trans (rfl))) (by decide) ?_
        refine lv_bipush (v := (iI (-2))) X.1.1 X.1.2.1 dX5_thing_58 (by decide) ?_
        cases hE
        exact retR X dX5_thing_60
  · have hE := ite_t hE c_8
    refine lv_iconst (v := (iI (-1))) X.1.1 X.1.2.1 dX5_thing_11 rfl ?_
    cases hE
    exact retR X dX5_thing_12
theorem o5_isNoYard : oS yX5_isNoYard cX5_isNoYard 1 (some .boolean) 1 := ⟨tw350, tw349, tw39, ⟨by decide +kernel, by decide +kernel⟩, by decide +kernel⟩
abbrev rm5_isNoYard : Room := { frames := 0, cells := 0, slots := 0, locals := 0 }
set_option maxHeartbeats 4000000 in
set_option maxRecDepth 100000 in
theorem c5_isNoYard {l : Launch} {G : va_G} {cI cZ : ClassId} {v0 : Int32} {u : Int32} (hE : f5_isNoYard v0 = some u) : Met l yX5_isNoYard (Cond.code yX5_isNoYard cX5_isNoYard 1 (some .boolean) :: TB) rm5_isNoYard (PcR G cI cZ [] ([.int v0] : List Value)) (QcRead u) 0 0 (fun _ => False) := by
  refine metR (own := RX5) (by decide +kernel) rfl (Nat.le_of_ble_eq_true rfl) ?_
  intro p e s m below meth c ls X hP hK hl
  have hl : lv_has ls 1 [(0, .int v0)] := hl
  unfold f5_isNoYard at hE
  refine lv_iload_n X.1.1 X.1.2.1 dX5_isNoYard_0 rfl (lv_at hl 0 rfl) ?_
  refine lv_if_lt (tgt := 10) X.1.1 X.1.2.1 dX5_isNoYard_1 (by decide) (fun c_1 => ?_) (fun c_1 => ?_)
  · have hE := ite_t hE c_1
    refine lv_iconst (v := (iI 1)) X.1.1 X.1.2.1 dX5_isNoYard_10 rfl ?_
    refine lv_goto (tgt := 15) X.1.1 X.1.2.1 dX5_isNoYard_11 (by decide) ?_
    cases hE
    exact retRZ X okB_1 dX5_isNoYard_15
  · have hE := ite_f hE c_1
    refine lv_iload_n X.1.1 X.1.2.1 dX5_isNoYard_4 rfl (lv_at hl 0 rfl) ?_
    refine lv_bipush (v := (iI 9)) X.1.1 X.1.2.1 dX5_isNoYard_5 (by decide) ?_
    refine lv_icmp_le (tgt := 14) X.1.1 X.1.2.1 dX5_isNoYard_7 (by decide) (fun c_7 => ?_) (fun c_7 => ?_)
    · have hE := ite_t hE c_7
      refine lv_iconst (v := (iI 0)) X.1.1 X.1.2.1 dX5_isNoYard_14 rfl ?_
      cases hE
      exact retRZ X okB_0 dX5_isNoYard_15
    · have hE := ite_f hE c_7
      refine lv_iconst (v := (iI 1)) X.1.1 X.1.2.1 dX5_isNoYard_10 rfl ?_
      refine lv_goto (tgt := 15) X.1.1 X.1.2.1 dX5_isNoYard_11 (by decide) ?_
      cases hE
      exact retRZ X okB_1 dX5_isNoYard_15
theorem o5_pull : oV yX5_pull RX5 cX5_pull 2 (some .int) 1 := ⟨tw347, tw345, tw346, tw39, ⟨by decide +kernel, by decide +kernel⟩, by decide +kernel⟩
abbrev rm5_pull : Room := { frames := 2, cells := 0, slots := 0, locals := 45 }
set_option maxHeartbeats 4000000 in
set_option maxRecDepth 100000 in
theorem c5_pull {l : Launch} {G : va_G} {cI cZ : ClassId} {q0 q1 q2 q3 q4 q5 q6 q7 q8 q9 q10 q11 q12 q13 q14 q15 q16 q17 q18 q19 : Nat} {lt : Nat → Int32} {ln : Int32} {ki : Nat → Int32} {sp : Nat → Int32} {tu : Nat → Int32} {wo : Int32} {th : Int32} {st : Nat → Int32} {ch : Int32} {ya : Int32} {ow : Int32} {ca : Int32} {hu : Int32} {le : Int32} {tst : Nat → Int32} {tch : Int32} {tya : Int32} {tow : Int32} {tca : Int32} {thu : Int32} {tle : Int32} {an : Nat → Int32} {sn : Nat → Int32} {kp : Nat → Int32} {so : Nat → Int32} {sf : Nat → Int32} {sc : Nat → Int32} {ss : Int32} {ai : Int32} {sd : Int64} {v1 : Int32} {u : Int32} (hE : f5_pull v1 sp tu th = some u) : Met l yX5_pull (Cond.code yX5_pull cX5_pull 2 (some .int) :: TB) rm5_pull (PcR G cI cZ (wB cI cZ q0 q1 q2 q3 q4 q5 q6 q7 q8 q9 q10 q11 q12 q13 q14 q15 q16 q17 q18 q19 lt ln ki sp tu wo th st ch ya ow ca hu le tst tch tya tow tca thu tle an sn kp so sf sc ss ai sd) ([.ref q0, .int v1] : List Value)) (QcRead u) 0 0 (fun _ => False) := by
  refine metR (own := RX5) (by decide +kernel) rfl (Nat.le_of_ble_eq_true rfl) ?_
  intro p e s m below meth c ls X hP hK hl
  have hl : lv_has ls 2 [(0, .ref q0), (1, .int v1)] := hl
  unfold f5_pull at hE
  refine lv_iload_n X.1.1 X.1.2.1 dX5_pull_0 rfl (lv_at hl 1 rfl) ?_
  obtain ⟨u1001, e_u1001, hE⟩ := bd_some hE
  refine callRS (wsC := []) (As := [.int v1]) (rest := []) (cI := cI) (cZ := cZ) X (c5_isNoYard (l := l) (G := G) (cI := cI) (cZ := cZ) e_u1001) o5_isNoYard tw348 ⟨rfl, rfl, Nat.le_of_ble_eq_true rfl, Nat.le_of_ble_eq_true rfl⟩ va_P_nil hK rfl hl rfl (by decide) ⟨Nat.le_refl _, Nat.le_refl _⟩ dX5_pull_1 ?_
  refine lv_if_eq (tgt := 10) X.1.1 X.1.2.1 dX5_pull_4 (by decide) (fun c_4 => ?_) (fun c_4 => ?_)
  · have hE := ite_t hE c_4
    refine lv_aload_n X.1.1 X.1.2.1 dX5_pull_10 rfl (lv_at hl 0 rfl) ?_
    refine gf5_19 X hK hP 0 rfl rfl dX5_pull_11 ?_
    refine lv_iload_n X.1.1 X.1.2.1 dX5_pull_14 rfl (lv_at hl 1 rfl) ?_
    refine lv_bipush (v := (iI 15)) X.1.1 X.1.2.1 dX5_pull_15 (by decide) ?_
    obtain ⟨u1002, e_u1002, hE⟩ := bd_some hE
    refine callRV (wsC := (wF cI cZ q3 q4 q5 q6 ki sp tu wo th)) (As := [.int v1, .int (iI 15)]) (rest := []) (ci := 1) X (c1_pullAt (l := l) e_u1002) o1_pullAt tw351 ⟨rfl, rfl, Nat.le_of_ble_eq_true rfl, Nat.le_of_ble_eq_true rfl⟩ (hP.sub [3, 4, 5, 6] rfl) hK 0 rfl rfl rfl rfl hl rfl (by decide) ⟨Nat.le_refl _, Nat.le_refl _⟩ dX5_pull_17 ?_
    cases hE
    exact retR X dX5_pull_20
  · have hE := ite_f hE c_4
    refine lv_bipush (v := (iI (-2))) X.1.1 X.1.2.1 dX5_pull_7 (by decide) ?_
    cases hE
    exact retR X dX5_pull_9
theorem o5_remember : oV yX5_remember RX5 cX5_remember 1 none 0 := ⟨tw359, tw358, tw3, tw39, ⟨by decide +kernel, by decide +kernel⟩, by decide +kernel⟩
abbrev rm5_remember : Room := { frames := 2, cells := 0, slots := 0, locals := 46 }
set_option maxHeartbeats 4000000 in
set_option maxRecDepth 100000 in
theorem c5_remember {l : Launch} {G : va_G} {cI cZ : ClassId} {q0 q1 q2 q3 q4 q5 q6 q7 q8 q9 q10 q11 q12 q13 q14 q15 q16 q17 q18 q19 : Nat} {lt : Nat → Int32} {ln : Int32} {ki : Nat → Int32} {sp : Nat → Int32} {tu : Nat → Int32} {wo : Int32} {th : Int32} {st : Nat → Int32} {ch : Int32} {ya : Int32} {ow : Int32} {ca : Int32} {hu : Int32} {le : Int32} {tst : Nat → Int32} {tch : Int32} {tya : Int32} {tow : Int32} {tca : Int32} {thu : Int32} {tle : Int32} {an : Nat → Int32} {sn : Nat → Int32} {kp : Nat → Int32} {so : Nat → Int32} {sf : Nat → Int32} {sc : Nat → Int32} {ss : Int32} {ai : Int32} {sd : Int64} {sz : Nat} {u : (Nat → Int32) × Int32} (hE : f5_remember st ch ya ow ca hu le an ai = some u) : Met l yX5_remember (Cond.code yX5_remember cX5_remember 1 none :: TB) rm5_remember (PcW G cI cZ (wB cI cZ q0 q1 q2 q3 q4 q5 q6 q7 q8 q9 q10 q11 q12 q13 q14 q15 q16 q17 q18 q19 lt ln ki sp tu wo th st ch ya ow ca hu le tst tch tya tow tca thu tle an sn kp so sf sc ss ai sd) sz ([.ref q0] : List Value)) (QW G none (wB cI cZ q0 q1 q2 q3 q4 q5 q6 q7 q8 q9 q10 q11 q12 q13 q14 q15 q16 q17 q18 q19 lt ln ki sp tu wo th st ch ya ow ca hu le tst tch tya tow tca thu tle u.1 sn kp so sf sc ss u.2 sd) (va_A (wB cI cZ q0 q1 q2 q3 q4 q5 q6 q7 q8 q9 q10 q11 q12 q13 q14 q15 q16 q17 q18 q19 lt ln ki sp tu wo th st ch ya ow ca hu le tst tch tya tow tca thu tle an sn kp so sf sc ss ai sd) sz)) 0 0 (va_A (wB cI cZ q0 q1 q2 q3 q4 q5 q6 q7 q8 q9 q10 q11 q12 q13 q14 q15 q16 q17 q18 q19 lt ln ki sp tu wo th st ch ya ow ca hu le tst tch tya tow tca thu tle an sn kp so sf sc ss ai sd) sz) := by
  refine metW (own := RX5) (by decide +kernel) rfl (Nat.le_of_ble_eq_true rfl) ?_
  intro p e s m below meth c ls A X hA hP hK hD hl
  have hS : va_S A s.heap s.heap [] := va_S.rf
  have hl : lv_has ls 1 [(0, .ref q0)] := hl
  unfold f5_remember at hE
  refine lv_aload_n X.1.1 X.1.2.1 dX5_remember_0 rfl (lv_at hl 0 rfl) ?_
  refine gf5_89 X hK hP 0 rfl rfl dX5_remember_1 ?_
  refine lv_bipush (v := (iI 14)) X.1.1 X.1.2.1 dX5_remember_4 (by decide) ?_
  refine lv_icmp_lt (tgt := 22) X.1.1 X.1.2.1 dX5_remember_6 (by decide) (fun c_6 => ?_) (fun c_6 => ?_)
  · have hE := ite_t hE c_6
    refine lv_aload_n X.1.1 X.1.2.1 dX5_remember_22 rfl (lv_at hl 0 rfl) ?_
    refine gf5_38 X hK hP 0 rfl rfl dX5_remember_23 ?_
    refine lv_aload_n X.1.1 X.1.2.1 dX5_remember_26 rfl (lv_at hl 0 rfl) ?_
    refine gf5_89 X hK hP 0 rfl rfl dX5_remember_27 ?_
    refine lv_aload_n X.1.1 X.1.2.1 dX5_remember_30 rfl (lv_at hl 0 rfl) ?_
    refine gf5_26 X hK hP 0 rfl rfl dX5_remember_31 ?_
    obtain ⟨u1001, e_u1001, hE⟩ := bd_some hE
    refine callWV (wsC := (wSD cI cZ 140 q11 q12 q7 q8 an st ch ya ow ca hu le)) (w1 := (wSD cI cZ 140 q11 q12 q7 q8 u1001 st ch ya ow ca hu le)) (ws' := (wB cI cZ q0 q1 q2 q3 q4 q5 q6 q7 q8 q9 q10 q11 q12 q13 q14 q15 q16 q17 q18 q19 lt ln ki sp tu wo th st ch ya ow ca hu le tst tch tya tow tca thu tle u1001 sn kp so sf sc ss ai sd)) (As := [.int ai, .ref q7]) (rest := []) (ov := none) (st1 := []) (ci := 2) X (c2_put (l := l) e_u1001) o2_put tw368 ⟨rfl, rfl, Nat.le_of_ble_eq_true rfl, Nat.le_of_ble_eq_true rfl⟩ hP hK hD hS hA [11, 12, 7, 8] (by decide) rfl rfl rfl (wB_fst.trans wB_fst.symm) 11 rfl rfl rfl rfl hl rfl (by decide) ⟨Nat.le_refl _, Nat.le_refl _⟩ rfl dX5_remember_34 (fun H locs hP hD hS => ?_)
    refine lv_aload_n X.1.1 X.1.2.1 dX5_remember_37 rfl (lv_at hl 0 rfl) ?_
    refine lv_dup X.1.1 X.1.2.1 dX5_remember_38 rfl ?_
    refine gf5_89 X hK hP 0 rfl rfl dX5_remember_39 ?_
    refine lv_iconst (v := (iI 1)) X.1.1 X.1.2.1 dX5_remember_42 rfl ?_
    refine lv_iadd X.1.1 X.1.2.1 dX5_remember_43 ?_
    refine pf5_89 (ws2 := (wB cI cZ q0 q1 q2 q3 q4 q5 q6 q7 q8 q9 q10 q11 q12 q13 q14 q15 q16 q17 q18 q19 lt ln ki sp tu wo th st ch ya ow ca hu le tst tch tya tow tca thu tle u1001 sn kp so sf sc ss (ai + (iI 1)) sd)) X hK hP hD hS 0 rfl (Nat.le_of_ble_eq_true rfl) rfl dX5_remember_44 (fun H locs hP hD hS => ?_)
    cases hE
    exact retWV X hP hS dX5_remember_47
  · have hE := ite_f hE c_6
    refine lv_aload_n X.1.1 X.1.2.1 dX5_remember_9 rfl (lv_at hl 0 rfl) ?_
    refine gf5_38 X hK hP 0 rfl rfl dX5_remember_10 ?_
    obtain ⟨u1002, e_u1002, hE⟩ := bd_some hE
    refine callWV (wsC := (wS cI cZ 140 q11 q12 an)) (w1 := (wS cI cZ 140 q11 q12 u1002)) (ws' := (wB cI cZ q0 q1 q2 q3 q4 q5 q6 q7 q8 q9 q10 q11 q12 q13 q14 q15 q16 q17 q18 q19 lt ln ki sp tu wo th st ch ya ow ca hu le tst tch tya tow tca thu tle u1002 sn kp so sf sc ss ai sd)) (As := []) (rest := []) (ov := none) (st1 := []) (ci := 2) X (c2_dropFirst (l := l) e_u1002) o2_dropFirst tw360 ⟨rfl, rfl, Nat.le_of_ble_eq_true rfl, Nat.le_of_ble_eq_true rfl⟩ hP hK hD hS hA [11, 12] (by decide) rfl rfl rfl (wB_fst.trans wB_fst.symm) 11 rfl rfl rfl rfl hl rfl (by decide) ⟨Nat.le_refl _, Nat.le_refl _⟩ rfl dX5_remember_13 (fun H locs hP hD hS => ?_)
    refine lv_aload_n X.1.1 X.1.2.1 dX5_remember_16 rfl (lv_at hl 0 rfl) ?_
    refine lv_bipush (v := (iI 13)) X.1.1 X.1.2.1 dX5_remember_17 (by decide) ?_
    refine pf5_89 (ws2 := (wB cI cZ q0 q1 q2 q3 q4 q5 q6 q7 q8 q9 q10 q11 q12 q13 q14 q15 q16 q17 q18 q19 lt ln ki sp tu wo th st ch ya ow ca hu le tst tch tya tow tca thu tle u1002 sn kp so sf sc ss (iI 13) sd)) X hK hP hD hS 0 rfl (Nat.le_of_ble_eq_true rfl) rfl dX5_remember_19 (fun H locs hP hD hS => ?_)
    refine lv_aload_n X.1.1 X.1.2.1 dX5_remember_22 rfl (lv_at hl 0 rfl) ?_
    refine gf5_38 X hK hP 0 rfl rfl dX5_remember_23 ?_
    refine lv_aload_n X.1.1 X.1.2.1 dX5_remember_26 rfl (lv_at hl 0 rfl) ?_
    refine gf5_89 X hK hP 0 rfl rfl dX5_remember_27 ?_
    refine lv_aload_n X.1.1 X.1.2.1 dX5_remember_30 rfl (lv_at hl 0 rfl) ?_
    refine gf5_26 X hK hP 0 rfl rfl dX5_remember_31 ?_
    obtain ⟨u1003, e_u1003, hE⟩ := bd_some hE
    refine callWV (wsC := (wSD cI cZ 140 q11 q12 q7 q8 u1002 st ch ya ow ca hu le)) (w1 := (wSD cI cZ 140 q11 q12 q7 q8 u1003 st ch ya ow ca hu le)) (ws' := (wB cI cZ q0 q1 q2 q3 q4 q5 q6 q7 q8 q9 q10 q11 q12 q13 q14 q15 q16 q17 q18 q19 lt ln ki sp tu wo th st ch ya ow ca hu le tst tch tya tow tca thu tle u1003 sn kp so sf sc ss (iI 13) sd)) (As := [.int (iI 13), .ref q7]) (rest := []) (ov := none) (st1 := []) (ci := 2) X (c2_put (l := l) e_u1003) o2_put tw368 ⟨rfl, rfl, Nat.le_of_ble_eq_true rfl, Nat.le_of_ble_eq_true rfl⟩ hP hK hD hS hA [11, 12, 7, 8] (by decide) rfl rfl rfl (wB_fst.trans wB_fst.symm) 11 rfl rfl rfl rfl hl rfl (by decide) ⟨Nat.le_refl _, Nat.le_refl _⟩ rfl dX5_remember_34 (fun H locs hP hD hS => ?_)
    refine lv_aload_n X.1.1 X.1.2.1 dX5_remember_37 rfl (lv_at hl 0 rfl) ?_
    refine lv_dup X.1.1 X.1.2.1 dX5_remember_38 rfl ?_
    refine gf5_89 X hK hP 0 rfl rfl dX5_remember_39 ?_
    refine lv_iconst (v := (iI 1)) X.1.1 X.1.2.1 dX5_remember_42 rfl ?_
    refine lv_iadd X.1.1 X.1.2.1 dX5_remember_43 ?_
    refine pf5_89 (ws2 := (wB cI cZ q0 q1 q2 q3 q4 q5 q6 q7 q8 q9 q10 q11 q12 q13 q14 q15 q16 q17 q18 q19 lt ln ki sp tu wo th st ch ya ow ca hu le tst tch tya tow tca thu tle u1003 sn kp so sf sc ss ((iI 13) + (iI 1)) sd)) X hK hP hD hS 0 rfl (Nat.le_of_ble_eq_true rfl) rfl dX5_remember_44 (fun H locs hP hD hS => ?_)
    cases hE
    exact retWV X hP hS dX5_remember_47
theorem o5_call : oV yX5_call RX5 cX5_call 2 (some .int) 1 := ⟨tw355, tw353, tw354, tw39, ⟨by decide +kernel, by decide +kernel⟩, by decide +kernel⟩
abbrev rm5_call : Room := { frames := 5, cells := 0, slots := 0, locals := 115 }
set_option maxHeartbeats 4000000 in
set_option maxRecDepth 100000 in
theorem c5_call {l : Launch} {G : va_G} {cI cZ : ClassId} {q0 q1 q2 q3 q4 q5 q6 q7 q8 q9 q10 q11 q12 q13 q14 q15 q16 q17 q18 q19 : Nat} {lt : Nat → Int32} {ln : Int32} {ki : Nat → Int32} {sp : Nat → Int32} {tu : Nat → Int32} {wo : Int32} {th : Int32} {st : Nat → Int32} {ch : Int32} {ya : Int32} {ow : Int32} {ca : Int32} {hu : Int32} {le : Int32} {tst : Nat → Int32} {tch : Int32} {tya : Int32} {tow : Int32} {tca : Int32} {thu : Int32} {tle : Int32} {an : Nat → Int32} {sn : Nat → Int32} {kp : Nat → Int32} {so : Nat → Int32} {sf : Nat → Int32} {sc : Nat → Int32} {ss : Int32} {ai : Int32} {sd : Int64} {v1 : Int32} {sz : Nat} {u : Int32 × (Nat → Int32) × Int32 × Int32 × Int32 × (Nat → Int32) × Int32} (hE : f5_call v1 ki sp tu wo th st ch ya ow ca hu le an ai = some u) : Met l yX5_call (Cond.code yX5_call cX5_call 2 (some .int) :: TB) rm5_call (PcW G cI cZ (wB cI cZ q0 q1 q2 q3 q4 q5 q6 q7 q8 q9 q10 q11 q12 q13 q14 q15 q16 q17 q18 q19 lt ln ki sp tu wo th st ch ya ow ca hu le tst tch tya tow tca thu tle an sn kp so sf sc ss ai sd) sz ([.ref q0, .int v1] : List Value)) (QW G (some (.int u.1)) (wB cI cZ q0 q1 q2 q3 q4 q5 q6 q7 q8 q9 q10 q11 q12 q13 q14 q15 q16 q17 q18 q19 lt ln ki sp tu wo th u.2.1 ch u.2.2.1 u.2.2.2.1 u.2.2.2.2.1 hu le tst tch tya tow tca thu tle u.2.2.2.2.2.1 sn kp so sf sc ss u.2.2.2.2.2.2 sd) (va_A (wB cI cZ q0 q1 q2 q3 q4 q5 q6 q7 q8 q9 q10 q11 q12 q13 q14 q15 q16 q17 q18 q19 lt ln ki sp tu wo th st ch ya ow ca hu le tst tch tya tow tca thu tle an sn kp so sf sc ss ai sd) sz)) 0 0 (va_A (wB cI cZ q0 q1 q2 q3 q4 q5 q6 q7 q8 q9 q10 q11 q12 q13 q14 q15 q16 q17 q18 q19 lt ln ki sp tu wo th st ch ya ow ca hu le tst tch tya tow tca thu tle an sn kp so sf sc ss ai sd) sz) := by
  refine metW (own := RX5) (by decide +kernel) rfl (Nat.le_of_ble_eq_true rfl) ?_
  intro p e s m below meth c ls A X hA hP hK hD hl
  have hS : va_S A s.heap s.heap [] := va_S.rf
  have hl : lv_has ls 2 [(0, .ref q0), (1, .int v1)] := hl
  unfold f5_call at hE
  refine lv_aload_n X.1.1 X.1.2.1 dX5_call_0 rfl (lv_at hl 0 rfl) ?_
  refine gf5_19 X hK hP 0 rfl rfl dX5_call_1 ?_
  refine lv_iload_n X.1.1 X.1.2.1 dX5_call_4 rfl (lv_at hl 1 rfl) ?_
  obtain ⟨u1001, e_u1001, hE⟩ := bd_some hE
  refine callRV (wsC := (wF cI cZ q3 q4 q5 q6 ki sp tu wo th)) (As := [.int v1]) (rest := []) (ci := 1) X (c1_hasWord (l := l) e_u1001) o1_hasWord tw274 ⟨rfl, rfl, Nat.le_of_ble_eq_true rfl, Nat.le_of_ble_eq_true rfl⟩ (hP.sub [3, 4, 5, 6] rfl) hK 0 rfl rfl rfl rfl hl rfl (by decide) ⟨Nat.le_refl _, Nat.le_refl _⟩ dX5_call_5 ?_
  refine lv_if_ne (tgt := 13) X.1.1 X.1.2.1 dX5_call_8 (by decide) (fun c_8 => ?_) (fun c_8 => ?_)
  · have hE := ite_f hE c_8
    refine lv_aload_n X.1.1 X.1.2.1 dX5_call_13 rfl (lv_at hl 0 rfl) ?_
    refine gf5_26 X hK hP 0 rfl rfl dX5_call_14 ?_
    refine gf5_154 X hK hP 7 rfl rfl dX5_call_17 ?_
    refine lv_if_eq (tgt := 26) X.1.1 X.1.2.1 dX5_call_20 (by decide) (fun c_20 => ?_) (fun c_20 => ?_)
    · have hE := ite_t hE c_20
      refine lv_aload_n X.1.1 X.1.2.1 dX5_call_26 rfl (lv_at hl 0 rfl) ?_
      obtain ⟨u1002, e_u1002, hE⟩ := bd_some hE
      refine callWF (ws := (wB cI cZ q0 q1 q2 q3 q4 q5 q6 q7 q8 q9 q10 q11 q12 q13 q14 q15 q16 q17 q18 q19 lt ln ki sp tu wo th st ch ya ow ca hu le tst tch tya tow tca thu tle an sn kp so sf sc ss ai sd)) (ws' := (wB cI cZ q0 q1 q2 q3 q4 q5 q6 q7 q8 q9 q10 q11 q12 q13 q14 q15 q16 q17 q18 q19 lt ln ki sp tu wo th st ch ya ow ca hu le tst tch tya tow tca thu tle u1002.1 sn kp so sf sc ss u1002.2 sd)) (As := []) (rest := []) (ov := none) (st1 := []) (ci := 5) X (c5_remember (l := l) e_u1002) o5_remember tw356 ⟨rfl, rfl, Nat.le_of_ble_eq_true rfl, Nat.le_of_ble_eq_true rfl⟩ hP hK hD hS hA (wB_fst.trans wB_fst.symm) 0 rfl rfl rfl rfl hl rfl (by decide) ⟨Nat.le_refl _, Nat.le_refl _⟩ rfl dX5_call_27 (fun H locs hP hD hS => ?_)
      refine lv_aload_n X.1.1 X.1.2.1 dX5_call_30 rfl (lv_at hl 0 rfl) ?_
      refine gf5_19 X hK hP 0 rfl rfl dX5_call_31 ?_
      refine lv_aload_n X.1.1 X.1.2.1 dX5_call_34 rfl (lv_at hl 0 rfl) ?_
      refine gf5_26 X hK hP 0 rfl rfl dX5_call_35 ?_
      refine lv_iload_n X.1.1 X.1.2.1 dX5_call_38 rfl (lv_at hl 1 rfl) ?_
      obtain ⟨u1003, e_u1003, hE⟩ := bd_some hE
      refine callWV (wsC := (wFD cI cZ q3 q4 q5 q6 q7 q8 ki sp tu wo th st ch ya ow ca hu le)) (w1 := (wFD cI cZ q3 q4 q5 q6 q7 q8 ki sp tu wo th u1003.2.1 ch u1003.2.2.1 u1003.2.2.2.1 u1003.2.2.2.2 hu le)) (ws' := (wB cI cZ q0 q1 q2 q3 q4 q5 q6 q7 q8 q9 q10 q11 q12 q13 q14 q15 q16 q17 q18 q19 lt ln ki sp tu wo th u1003.2.1 ch u1003.2.2.1 u1003.2.2.2.1 u1003.2.2.2.2 hu le tst tch tya tow tca thu tle u1002.1 sn kp so sf sc ss u1002.2 sd)) (As := [.ref q7, .int v1]) (rest := []) (ov := (some (.int u1003.1))) (st1 := [.int u1003.1]) (ci := 1) X (c1_callHim (l := l) e_u1003) o1_callHim tw374 ⟨rfl, rfl, Nat.le_of_ble_eq_true rfl, Nat.le_of_ble_eq_true rfl⟩ hP hK hD hS hA [3, 4, 5, 6, 7, 8] (by decide) rfl rfl rfl (wB_fst.trans wB_fst.symm) 3 rfl rfl rfl rfl hl rfl (by decide) ⟨Nat.le_refl _, Nat.le_refl _⟩ rfl dX5_call_39 (fun H locs hP hD hS => ?_)
      obtain ⟨u1004, e_u1004, hE⟩ := bd_some hE
      refine callRS (wsC := []) (As := [.int u1003.1]) (rest := []) (cI := cI) (cZ := cZ) X (c5_asNumber (l := l) (G := G) (cI := cI) (cZ := cZ) e_u1004) o5_asNumber tw323 ⟨rfl, rfl, Nat.le_of_ble_eq_true rfl, Nat.le_of_ble_eq_true rfl⟩ va_P_nil hK rfl hl rfl (by decide) ⟨Nat.le_refl _, Nat.le_refl _⟩ dX5_call_42 ?_
      cases hE
      exact retW X hP hS dX5_call_45
    · have hE := ite_f hE c_20
      refine lv_bipush (v := (iI (-3))) X.1.1 X.1.2.1 dX5_call_23 (by decide) ?_
      cases hE
      exact retW X hP hS dX5_call_25
  · have hE := ite_t hE c_8
    refine lv_iconst (v := (iI (-1))) X.1.1 X.1.2.1 dX5_call_11 rfl ?_
    cases hE
    exact retW X hP hS dX5_call_12
theorem o5_pay : oV yX5_pay RX5 cX5_pay 2 (some .int) 0 := ⟨tw396, tw394, tw395, tw39, ⟨by decide +kernel, by decide +kernel⟩, by decide +kernel⟩
abbrev rm5_pay : Room := { frames := 3, cells := 0, slots := 0, locals := 66 }
set_option maxHeartbeats 4000000 in
set_option maxRecDepth 100000 in
theorem c5_pay {l : Launch} {G : va_G} {cI cZ : ClassId} {q0 q1 q2 q3 q4 q5 q6 q7 q8 q9 q10 q11 q12 q13 q14 q15 q16 q17 q18 q19 : Nat} {lt : Nat → Int32} {ln : Int32} {ki : Nat → Int32} {sp : Nat → Int32} {tu : Nat → Int32} {wo : Int32} {th : Int32} {st : Nat → Int32} {ch : Int32} {ya : Int32} {ow : Int32} {ca : Int32} {hu : Int32} {le : Int32} {tst : Nat → Int32} {tch : Int32} {tya : Int32} {tow : Int32} {tca : Int32} {thu : Int32} {tle : Int32} {an : Nat → Int32} {sn : Nat → Int32} {kp : Nat → Int32} {so : Nat → Int32} {sf : Nat → Int32} {sc : Nat → Int32} {ss : Int32} {ai : Int32} {sd : Int64} {sz : Nat} {u : Int32 × (Nat → Int32) × Int32 × Int32 × (Nat → Int32) × Int32} (hE : f5_pay st ch ya ow ca hu le an ai = some u) : Met l yX5_pay (Cond.code yX5_pay cX5_pay 2 (some .int) :: TB) rm5_pay (PcW G cI cZ (wB cI cZ q0 q1 q2 q3 q4 q5 q6 q7 q8 q9 q10 q11 q12 q13 q14 q15 q16 q17 q18 q19 lt ln ki sp tu wo th st ch ya ow ca hu le tst tch tya tow tca thu tle an sn kp so sf sc ss ai sd) sz ([.ref q0] : List Value)) (QW G (some (.int u.1)) (wB cI cZ q0 q1 q2 q3 q4 q5 q6 q7 q8 q9 q10 q11 q12 q13 q14 q15 q16 q17 q18 q19 lt ln ki sp tu wo th u.2.1 u.2.2.1 ya u.2.2.2.1 ca hu le tst tch tya tow tca thu tle u.2.2.2.2.1 sn kp so sf sc ss u.2.2.2.2.2 sd) (va_A (wB cI cZ q0 q1 q2 q3 q4 q5 q6 q7 q8 q9 q10 q11 q12 q13 q14 q15 q16 q17 q18 q19 lt ln ki sp tu wo th st ch ya ow ca hu le tst tch tya tow tca thu tle an sn kp so sf sc ss ai sd) sz)) 0 0 (va_A (wB cI cZ q0 q1 q2 q3 q4 q5 q6 q7 q8 q9 q10 q11 q12 q13 q14 q15 q16 q17 q18 q19 lt ln ki sp tu wo th st ch ya ow ca hu le tst tch tya tow tca thu tle an sn kp so sf sc ss ai sd) sz) := by
  refine metW (own := RX5) (by decide +kernel) rfl (Nat.le_of_ble_eq_true rfl) ?_
  intro p e s m below meth c ls A X hA hP hK hD hl
  have hS : va_S A s.heap s.heap [] := va_S.rf
  have hl : lv_has ls 2 [(0, .ref q0)] := hl
  unfold f5_pay at hE
  refine lv_aload_n X.1.1 X.1.2.1 dX5_pay_0 rfl (lv_at hl 0 rfl) ?_
  refine gf5_26 X hK hP 0 rfl rfl dX5_pay_1 ?_
  obtain ⟨u1001, e_u1001, hE⟩ := bd_some hE
  refine callRV (wsC := (wD cI cZ q7 q8 st ch ya ow ca hu le)) (As := []) (rest := []) (ci := 0) X (c0_canBePaid (l := l) e_u1001) o0_canBePaid tw397 ⟨rfl, rfl, Nat.le_of_ble_eq_true rfl, Nat.le_of_ble_eq_true rfl⟩ (hP.sub [7, 8] rfl) hK 0 rfl rfl rfl rfl hl rfl (by decide) ⟨Nat.le_refl _, Nat.le_refl _⟩ dX5_pay_4 ?_
  refine lv_if_ne (tgt := 13) X.1.1 X.1.2.1 dX5_pay_7 (by decide) (fun c_7 => ?_) (fun c_7 => ?_)
  · have hE := ite_f hE c_7
    refine lv_aload_n X.1.1 X.1.2.1 dX5_pay_13 rfl (lv_at hl 0 rfl) ?_
    obtain ⟨u1002, e_u1002, hE⟩ := bd_some hE
    refine callWF (ws := (wB cI cZ q0 q1 q2 q3 q4 q5 q6 q7 q8 q9 q10 q11 q12 q13 q14 q15 q16 q17 q18 q19 lt ln ki sp tu wo th st ch ya ow ca hu le tst tch tya tow tca thu tle an sn kp so sf sc ss ai sd)) (ws' := (wB cI cZ q0 q1 q2 q3 q4 q5 q6 q7 q8 q9 q10 q11 q12 q13 q14 q15 q16 q17 q18 q19 lt ln ki sp tu wo th st ch ya ow ca hu le tst tch tya tow tca thu tle u1002.1 sn kp so sf sc ss u1002.2 sd)) (As := []) (rest := []) (ov := none) (st1 := []) (ci := 5) X (c5_remember (l := l) e_u1002) o5_remember tw356 ⟨rfl, rfl, Nat.le_of_ble_eq_true rfl, Nat.le_of_ble_eq_true rfl⟩ hP hK hD hS hA (wB_fst.trans wB_fst.symm) 0 rfl rfl rfl rfl hl rfl (by decide) ⟨Nat.le_refl _, Nat.le_refl _⟩ rfl dX5_pay_14 (fun H locs hP hD hS => ?_)
    refine lv_aload_n X.1.1 X.1.2.1 dX5_pay_17 rfl (lv_at hl 0 rfl) ?_
    refine gf5_26 X hK hP 0 rfl rfl dX5_pay_18 ?_
    refine gf5_168 X hK hP 7 rfl rfl dX5_pay_21 ?_
    refine lv_istore_n (lv' := [(1, .int ow), (0, .ref q0)]) X.1.1 X.1.2.1 dX5_pay_24 rfl hl (by decide) rfl (fun ls hl => ?_)
    refine lv_aload_n X.1.1 X.1.2.1 dX5_pay_25 rfl (lv_at hl 1 rfl) ?_
    refine gf5_26 X hK hP 0 rfl rfl dX5_pay_26 ?_
    obtain ⟨u1003, e_u1003, hE⟩ := bd_some hE
    refine callWV (wsC := (wD cI cZ q7 q8 st ch ya ow ca hu le)) (w1 := (wD cI cZ q7 q8 u1003.1 u1003.2.1 ya u1003.2.2 ca hu le)) (ws' := (wB cI cZ q0 q1 q2 q3 q4 q5 q6 q7 q8 q9 q10 q11 q12 q13 q14 q15 q16 q17 q18 q19 lt ln ki sp tu wo th u1003.1 u1003.2.1 ya u1003.2.2 ca hu le tst tch tya tow tca thu tle u1002.1 sn kp so sf sc ss u1002.2 sd)) (As := []) (rest := []) (ov := none) (st1 := []) (ci := 0) X (c0_bePaid (l := l) e_u1003) o0_bePaid tw401 ⟨rfl, rfl, Nat.le_of_ble_eq_true rfl, Nat.le_of_ble_eq_true rfl⟩ hP hK hD hS hA [7, 8] (by decide) rfl rfl rfl (wB_fst.trans wB_fst.symm) 7 rfl rfl rfl rfl hl rfl (by decide) ⟨Nat.le_refl _, Nat.le_refl _⟩ rfl dX5_pay_29 (fun H locs hP hD hS => ?_)
    refine lv_aload_n X.1.1 X.1.2.1 dX5_pay_32 rfl (lv_at hl 1 rfl) ?_
    refine gf5_26 X hK hP 0 rfl rfl dX5_pay_33 ?_
    refine lv_iload_n X.1.1 X.1.2.1 dX5_pay_36 rfl (lv_at hl 0 rfl) ?_
    obtain ⟨u1004, e_u1004, hE⟩ := bd_some hE
    refine callRV (wsC := (wD cI cZ q7 q8 u1003.1 u1003.2.1 ya u1003.2.2 ca hu le)) (As := [.int ow]) (rest := []) (ci := 0) X (c0_strengthOf (l := l) e_u1004) o0_strengthOf tw278 ⟨rfl, rfl, Nat.le_of_ble_eq_true rfl, Nat.le_of_ble_eq_true rfl⟩ (hP.sub [7, 8] rfl) hK 0 rfl rfl rfl rfl hl rfl (by decide) ⟨Nat.le_refl _, Nat.le_refl _⟩ dX5_pay_37 ?_
    cases hE
    exact retW X hP hS dX5_pay_40
  · have hE := ite_t hE c_7
    refine lv_bipush (v := (iI (-3))) X.1.1 X.1.2.1 dX5_pay_10 (by decide) ?_
    cases hE
    exact retW X hP hS dX5_pay_12
theorem o5_run : oV yX5_run RX5 cX5_run 2 (some .int) 1 := ⟨tw409, tw407, tw408, tw39, ⟨by decide +kernel, by decide +kernel⟩, by decide +kernel⟩
abbrev rm5_run : Room := { frames := 3, cells := 0, slots := 0, locals := 66 }
set_option maxHeartbeats 4000000 in
set_option maxRecDepth 100000 in
theorem c5_run {l : Launch} {G : va_G} {cI cZ : ClassId} {q0 q1 q2 q3 q4 q5 q6 q7 q8 q9 q10 q11 q12 q13 q14 q15 q16 q17 q18 q19 : Nat} {lt : Nat → Int32} {ln : Int32} {ki : Nat → Int32} {sp : Nat → Int32} {tu : Nat → Int32} {wo : Int32} {th : Int32} {st : Nat → Int32} {ch : Int32} {ya : Int32} {ow : Int32} {ca : Int32} {hu : Int32} {le : Int32} {tst : Nat → Int32} {tch : Int32} {tya : Int32} {tow : Int32} {tca : Int32} {thu : Int32} {tle : Int32} {an : Nat → Int32} {sn : Nat → Int32} {kp : Nat → Int32} {so : Nat → Int32} {sf : Nat → Int32} {sc : Nat → Int32} {ss : Int32} {ai : Int32} {sd : Int64} {v1 : Int32} {sz : Nat} {u : Int32 × Int32 × Int32 × (Nat → Int32) × Int32} (hE : f5_run v1 st ch ya ow ca hu le an ai = some u) : Met l yX5_run (Cond.code yX5_run cX5_run 2 (some .int) :: TB) rm5_run (PcW G cI cZ (wB cI cZ q0 q1 q2 q3 q4 q5 q6 q7 q8 q9 q10 q11 q12 q13 q14 q15 q16 q17 q18 q19 lt ln ki sp tu wo th st ch ya ow ca hu le tst tch tya tow tca thu tle an sn kp so sf sc ss ai sd) sz ([.ref q0, .int v1] : List Value)) (QW G (some (.int u.1)) (wB cI cZ q0 q1 q2 q3 q4 q5 q6 q7 q8 q9 q10 q11 q12 q13 q14 q15 q16 q17 q18 q19 lt ln ki sp tu wo th st ch u.2.1 u.2.2.1 ca hu le tst tch tya tow tca thu tle u.2.2.2.1 sn kp so sf sc ss u.2.2.2.2 sd) (va_A (wB cI cZ q0 q1 q2 q3 q4 q5 q6 q7 q8 q9 q10 q11 q12 q13 q14 q15 q16 q17 q18 q19 lt ln ki sp tu wo th st ch ya ow ca hu le tst tch tya tow tca thu tle an sn kp so sf sc ss ai sd) sz)) 0 0 (va_A (wB cI cZ q0 q1 q2 q3 q4 q5 q6 q7 q8 q9 q10 q11 q12 q13 q14 q15 q16 q17 q18 q19 lt ln ki sp tu wo th st ch ya ow ca hu le tst tch tya tow tca thu tle an sn kp so sf sc ss ai sd) sz) := by
  refine metW (own := RX5) (by decide +kernel) rfl (Nat.le_of_ble_eq_true rfl) ?_
  intro p e s m below meth c ls A X hA hP hK hD hl
  have hS : va_S A s.heap s.heap [] := va_S.rf
  have hl : lv_has ls 2 [(0, .ref q0), (1, .int v1)] := hl
  unfold f5_run at hE
  refine lv_iload_n X.1.1 X.1.2.1 dX5_run_0 rfl (lv_at hl 1 rfl) ?_
  refine lv_iconst (v := (iI 1)) X.1.1 X.1.2.1 dX5_run_1 rfl ?_
  refine lv_icmp_lt (tgt := 11) X.1.1 X.1.2.1 dX5_run_2 (by decide) (fun c_2 => ?_) (fun c_2 => ?_)
  · have hE := ite_t hE c_2
    refine lv_bipush (v := (iI (-2))) X.1.1 X.1.2.1 dX5_run_11 (by decide) ?_
    cases hE
    exact retW X hP hS dX5_run_13
  · have hE := ite_f hE c_2
    refine lv_iload_n X.1.1 X.1.2.1 dX5_run_5 rfl (lv_at hl 1 rfl) ?_
    refine lv_bipush (v := (iI 9)) X.1.1 X.1.2.1 dX5_run_6 (by decide) ?_
    refine lv_icmp_le (tgt := 14) X.1.1 X.1.2.1 dX5_run_8 (by decide) (fun c_8 => ?_) (fun c_8 => ?_)
    · have hE := ite_t hE c_8
      refine lv_aload_n X.1.1 X.1.2.1 dX5_run_14 rfl (lv_at hl 0 rfl) ?_
      refine gf5_26 X hK hP 0 rfl rfl dX5_run_15 ?_
      refine gf5_154 X hK hP 7 rfl rfl dX5_run_18 ?_
      refine lv_if_eq (tgt := 27) X.1.1 X.1.2.1 dX5_run_21 (by decide) (fun c_21 => ?_) (fun c_21 => ?_)
      · have hE := ite_t hE c_21
        refine lv_aload_n X.1.1 X.1.2.1 dX5_run_27 rfl (lv_at hl 0 rfl) ?_
        obtain ⟨u1001, e_u1001, hE⟩ := bd_some hE
        refine callWF (ws := (wB cI cZ q0 q1 q2 q3 q4 q5 q6 q7 q8 q9 q10 q11 q12 q13 q14 q15 q16 q17 q18 q19 lt ln ki sp tu wo th st ch ya ow ca hu le tst tch tya tow tca thu tle an sn kp so sf sc ss ai sd)) (ws' := (wB cI cZ q0 q1 q2 q3 q4 q5 q6 q7 q8 q9 q10 q11 q12 q13 q14 q15 q16 q17 q18 q19 lt ln ki sp tu wo th st ch ya ow ca hu le tst tch tya tow tca thu tle u1001.1 sn kp so sf sc ss u1001.2 sd)) (As := []) (rest := []) (ov := none) (st1 := []) (ci := 5) X (c5_remember (l := l) e_u1001) o5_remember tw356 ⟨rfl, rfl, Nat.le_of_ble_eq_true rfl, Nat.le_of_ble_eq_true rfl⟩ hP hK hD hS hA (wB_fst.trans wB_fst.symm) 0 rfl rfl rfl rfl hl rfl (by decide) ⟨Nat.le_refl _, Nat.le_refl _⟩ rfl dX5_run_28 (fun H locs hP hD hS => ?_)
        refine lv_aload_n X.1.1 X.1.2.1 dX5_run_31 rfl (lv_at hl 0 rfl) ?_
        refine gf5_26 X hK hP 0 rfl rfl dX5_run_32 ?_
        refine lv_iload_n X.1.1 X.1.2.1 dX5_run_35 rfl (lv_at hl 1 rfl) ?_
        obtain ⟨u1002, e_u1002, hE⟩ := bd_some hE
        refine callWV (wsC := (wD cI cZ q7 q8 st ch ya ow ca hu le)) (w1 := (wD cI cZ q7 q8 st ch u1002.1 u1002.2 ca hu le)) (ws' := (wB cI cZ q0 q1 q2 q3 q4 q5 q6 q7 q8 q9 q10 q11 q12 q13 q14 q15 q16 q17 q18 q19 lt ln ki sp tu wo th st ch u1002.1 u1002.2 ca hu le tst tch tya tow tca thu tle u1001.1 sn kp so sf sc ss u1001.2 sd)) (As := [.int v1]) (rest := []) (ov := none) (st1 := []) (ci := 0) X (c0_runOff (l := l) e_u1002) o0_runOff tw410 ⟨rfl, rfl, Nat.le_of_ble_eq_true rfl, Nat.le_of_ble_eq_true rfl⟩ hP hK hD hS hA [7, 8] (by decide) rfl rfl rfl (wB_fst.trans wB_fst.symm) 7 rfl rfl rfl rfl hl rfl (by decide) ⟨Nat.le_refl _, Nat.le_refl _⟩ rfl dX5_run_36 (fun H locs hP hD hS => ?_)
        refine lv_aload_n X.1.1 X.1.2.1 dX5_run_39 rfl (lv_at hl 0 rfl) ?_
        refine gf5_26 X hK hP 0 rfl rfl dX5_run_40 ?_
        refine gf5_117 X hK hP 7 rfl rfl dX5_run_43 ?_
        cases hE
        exact retW X hP hS dX5_run_46
      · have hE := ite_f hE c_21
        refine lv_bipush (v := (iI (-3))) X.1.1 X.1.2.1 dX5_run_24 (by decide) ?_
        cases hE
        exact retW X hP hS dX5_run_26
    · have hE := ite_f hE c_8
      refine lv_bipush (v := (iI (-2))) X.1.1 X.1.2.1 dX5_run_11 (by decide) ?_
      cases hE
      exact retW X hP hS dX5_run_13
theorem o5_lead : oV yX5_lead RX5 cX5_lead 1 (some .int) 0 := ⟨tw414, tw412, tw413, tw39, ⟨by decide +kernel, by decide +kernel⟩, by decide +kernel⟩
abbrev rm5_lead : Room := { frames := 3, cells := 0, slots := 0, locals := 66 }
set_option maxHeartbeats 4000000 in
set_option maxRecDepth 100000 in
theorem c5_lead {l : Launch} {G : va_G} {cI cZ : ClassId} {q0 q1 q2 q3 q4 q5 q6 q7 q8 q9 q10 q11 q12 q13 q14 q15 q16 q17 q18 q19 : Nat} {lt : Nat → Int32} {ln : Int32} {ki : Nat → Int32} {sp : Nat → Int32} {tu : Nat → Int32} {wo : Int32} {th : Int32} {st : Nat → Int32} {ch : Int32} {ya : Int32} {ow : Int32} {ca : Int32} {hu : Int32} {le : Int32} {tst : Nat → Int32} {tch : Int32} {tya : Int32} {tow : Int32} {tca : Int32} {thu : Int32} {tle : Int32} {an : Nat → Int32} {sn : Nat → Int32} {kp : Nat → Int32} {so : Nat → Int32} {sf : Nat → Int32} {sc : Nat → Int32} {ss : Int32} {ai : Int32} {sd : Int64} {sz : Nat} {u : Int32 × (Nat → Int32) × Int32 × Int32 × (Nat → Int32) × Int32} (hE : f5_lead ki st ch ya ow ca hu le an ai = some u) : Met l yX5_lead (Cond.code yX5_lead cX5_lead 1 (some .int) :: TB) rm5_lead (PcW G cI cZ (wB cI cZ q0 q1 q2 q3 q4 q5 q6 q7 q8 q9 q10 q11 q12 q13 q14 q15 q16 q17 q18 q19 lt ln ki sp tu wo th st ch ya ow ca hu le tst tch tya tow tca thu tle an sn kp so sf sc ss ai sd) sz ([.ref q0] : List Value)) (QW G (some (.int u.1)) (wB cI cZ q0 q1 q2 q3 q4 q5 q6 q7 q8 q9 q10 q11 q12 q13 q14 q15 q16 q17 q18 q19 lt ln ki sp tu wo th u.2.1 ch ya u.2.2.1 ca hu u.2.2.2.1 tst tch tya tow tca thu tle u.2.2.2.2.1 sn kp so sf sc ss u.2.2.2.2.2 sd) (va_A (wB cI cZ q0 q1 q2 q3 q4 q5 q6 q7 q8 q9 q10 q11 q12 q13 q14 q15 q16 q17 q18 q19 lt ln ki sp tu wo th st ch ya ow ca hu le tst tch tya tow tca thu tle an sn kp so sf sc ss ai sd) sz)) 0 0 (va_A (wB cI cZ q0 q1 q2 q3 q4 q5 q6 q7 q8 q9 q10 q11 q12 q13 q14 q15 q16 q17 q18 q19 lt ln ki sp tu wo th st ch ya ow ca hu le tst tch tya tow tca thu tle an sn kp so sf sc ss ai sd) sz) := by
  refine metW (own := RX5) (by decide +kernel) rfl (Nat.le_of_ble_eq_true rfl) ?_
  intro p e s m below meth c ls A X hA hP hK hD hl
  have hS : va_S A s.heap s.heap [] := va_S.rf
  have hl : lv_has ls 1 [(0, .ref q0)] := hl
  unfold f5_lead at hE
  refine lv_aload_n X.1.1 X.1.2.1 dX5_lead_0 rfl (lv_at hl 0 rfl) ?_
  refine gf5_26 X hK hP 0 rfl rfl dX5_lead_1 ?_
  obtain ⟨u1001, e_u1001, hE⟩ := bd_some hE
  refine callRV (wsC := (wD cI cZ q7 q8 st ch ya ow ca hu le)) (As := []) (rest := []) (ci := 0) X (c0_canBeLed (l := l) e_u1001) o0_canBeLed tw415 ⟨rfl, rfl, Nat.le_of_ble_eq_true rfl, Nat.le_of_ble_eq_true rfl⟩ (hP.sub [7, 8] rfl) hK 0 rfl rfl rfl rfl hl rfl (by decide) ⟨Nat.le_refl _, Nat.le_refl _⟩ dX5_lead_4 ?_
  refine lv_if_ne (tgt := 13) X.1.1 X.1.2.1 dX5_lead_7 (by decide) (fun c_7 => ?_) (fun c_7 => ?_)
  · have hE := ite_f hE c_7
    refine lv_aload_n X.1.1 X.1.2.1 dX5_lead_13 rfl (lv_at hl 0 rfl) ?_
    obtain ⟨u1002, e_u1002, hE⟩ := bd_some hE
    refine callWF (ws := (wB cI cZ q0 q1 q2 q3 q4 q5 q6 q7 q8 q9 q10 q11 q12 q13 q14 q15 q16 q17 q18 q19 lt ln ki sp tu wo th st ch ya ow ca hu le tst tch tya tow tca thu tle an sn kp so sf sc ss ai sd)) (ws' := (wB cI cZ q0 q1 q2 q3 q4 q5 q6 q7 q8 q9 q10 q11 q12 q13 q14 q15 q16 q17 q18 q19 lt ln ki sp tu wo th st ch ya ow ca hu le tst tch tya tow tca thu tle u1002.1 sn kp so sf sc ss u1002.2 sd)) (As := []) (rest := []) (ov := none) (st1 := []) (ci := 5) X (c5_remember (l := l) e_u1002) o5_remember tw356 ⟨rfl, rfl, Nat.le_of_ble_eq_true rfl, Nat.le_of_ble_eq_true rfl⟩ hP hK hD hS hA (wB_fst.trans wB_fst.symm) 0 rfl rfl rfl rfl hl rfl (by decide) ⟨Nat.le_refl _, Nat.le_refl _⟩ rfl dX5_lead_14 (fun H locs hP hD hS => ?_)
    refine lv_aload_n X.1.1 X.1.2.1 dX5_lead_17 rfl (lv_at hl 0 rfl) ?_
    refine gf5_19 X hK hP 0 rfl rfl dX5_lead_18 ?_
    refine lv_aload_n X.1.1 X.1.2.1 dX5_lead_21 rfl (lv_at hl 0 rfl) ?_
    refine gf5_26 X hK hP 0 rfl rfl dX5_lead_22 ?_
    obtain ⟨u1003, e_u1003, hE⟩ := bd_some hE
    refine callWV (wsC := (wFD cI cZ q3 q4 q5 q6 q7 q8 ki sp tu wo th st ch ya ow ca hu le)) (w1 := (wFD cI cZ q3 q4 q5 q6 q7 q8 ki sp tu wo th u1003.1 ch ya u1003.2.1 ca hu u1003.2.2)) (ws' := (wB cI cZ q0 q1 q2 q3 q4 q5 q6 q7 q8 q9 q10 q11 q12 q13 q14 q15 q16 q17 q18 q19 lt ln ki sp tu wo th u1003.1 ch ya u1003.2.1 ca hu u1003.2.2 tst tch tya tow tca thu tle u1002.1 sn kp so sf sc ss u1002.2 sd)) (As := [.ref q7]) (rest := []) (ov := none) (st1 := []) (ci := 1) X (c1_leash (l := l) e_u1003) o1_leash tw419 ⟨rfl, rfl, Nat.le_of_ble_eq_true rfl, Nat.le_of_ble_eq_true rfl⟩ hP hK hD hS hA [3, 4, 5, 6, 7, 8] (by decide) rfl rfl rfl (wB_fst.trans wB_fst.symm) 3 rfl rfl rfl rfl hl rfl (by decide) ⟨Nat.le_refl _, Nat.le_refl _⟩ rfl dX5_lead_25 (fun H locs hP hD hS => ?_)
    refine lv_aload_n X.1.1 X.1.2.1 dX5_lead_28 rfl (lv_at hl 0 rfl) ?_
    refine gf5_26 X hK hP 0 rfl rfl dX5_lead_29 ?_
    refine gf5_154 X hK hP 7 rfl rfl dX5_lead_32 ?_
    obtain ⟨u1004, e_u1004, hE⟩ := bd_some hE
    refine callRS (wsC := []) (As := [.int u1003.2.2]) (rest := []) (cI := cI) (cZ := cZ) X (c5_asNumber (l := l) (G := G) (cI := cI) (cZ := cZ) e_u1004) o5_asNumber tw323 ⟨rfl, rfl, Nat.le_of_ble_eq_true rfl, Nat.le_of_ble_eq_true rfl⟩ va_P_nil hK rfl hl rfl (by decide) ⟨Nat.le_refl _, Nat.le_refl _⟩ dX5_lead_35 ?_
    cases hE
    exact retW X hP hS dX5_lead_38
  · have hE := ite_t hE c_7
    refine lv_bipush (v := (iI (-3))) X.1.1 X.1.2.1 dX5_lead_10 (by decide) ?_
    cases hE
    exact retW X hP hS dX5_lead_12
theorem o5_hunger : oV yX5_hunger RX5 cX5_hunger 1 (some .int) 0 := ⟨tw426, tw424, tw425, tw39, ⟨by decide +kernel, by decide +kernel⟩, by decide +kernel⟩
abbrev rm5_hunger : Room := { frames := 3, cells := 0, slots := 0, locals := 66 }
set_option maxHeartbeats 4000000 in
set_option maxRecDepth 100000 in
theorem c5_hunger {l : Launch} {G : va_G} {cI cZ : ClassId} {q0 q1 q2 q3 q4 q5 q6 q7 q8 q9 q10 q11 q12 q13 q14 q15 q16 q17 q18 q19 : Nat} {lt : Nat → Int32} {ln : Int32} {ki : Nat → Int32} {sp : Nat → Int32} {tu : Nat → Int32} {wo : Int32} {th : Int32} {st : Nat → Int32} {ch : Int32} {ya : Int32} {ow : Int32} {ca : Int32} {hu : Int32} {le : Int32} {tst : Nat → Int32} {tch : Int32} {tya : Int32} {tow : Int32} {tca : Int32} {thu : Int32} {tle : Int32} {an : Nat → Int32} {sn : Nat → Int32} {kp : Nat → Int32} {so : Nat → Int32} {sf : Nat → Int32} {sc : Nat → Int32} {ss : Int32} {ai : Int32} {sd : Int64} {sz : Nat} {u : Int32 × Int32 × (Nat → Int32) × Int32} (hE : f5_hunger st ch ya ow ca hu le an ai = some u) : Met l yX5_hunger (Cond.code yX5_hunger cX5_hunger 1 (some .int) :: TB) rm5_hunger (PcW G cI cZ (wB cI cZ q0 q1 q2 q3 q4 q5 q6 q7 q8 q9 q10 q11 q12 q13 q14 q15 q16 q17 q18 q19 lt ln ki sp tu wo th st ch ya ow ca hu le tst tch tya tow tca thu tle an sn kp so sf sc ss ai sd) sz ([.ref q0] : List Value)) (QW G (some (.int u.1)) (wB cI cZ q0 q1 q2 q3 q4 q5 q6 q7 q8 q9 q10 q11 q12 q13 q14 q15 q16 q17 q18 q19 lt ln ki sp tu wo th st ch ya ow ca u.2.1 le tst tch tya tow tca thu tle u.2.2.1 sn kp so sf sc ss u.2.2.2 sd) (va_A (wB cI cZ q0 q1 q2 q3 q4 q5 q6 q7 q8 q9 q10 q11 q12 q13 q14 q15 q16 q17 q18 q19 lt ln ki sp tu wo th st ch ya ow ca hu le tst tch tya tow tca thu tle an sn kp so sf sc ss ai sd) sz)) 0 0 (va_A (wB cI cZ q0 q1 q2 q3 q4 q5 q6 q7 q8 q9 q10 q11 q12 q13 q14 q15 q16 q17 q18 q19 lt ln ki sp tu wo th st ch ya ow ca hu le tst tch tya tow tca thu tle an sn kp so sf sc ss ai sd) sz) := by
  refine metW (own := RX5) (by decide +kernel) rfl (Nat.le_of_ble_eq_true rfl) ?_
  intro p e s m below meth c ls A X hA hP hK hD hl
  have hS : va_S A s.heap s.heap [] := va_S.rf
  have hl : lv_has ls 1 [(0, .ref q0)] := hl
  unfold f5_hunger at hE
  refine lv_aload_n X.1.1 X.1.2.1 dX5_hunger_0 rfl (lv_at hl 0 rfl) ?_
  obtain ⟨u1001, e_u1001, hE⟩ := bd_some hE
  refine callWF (ws := (wB cI cZ q0 q1 q2 q3 q4 q5 q6 q7 q8 q9 q10 q11 q12 q13 q14 q15 q16 q17 q18 q19 lt ln ki sp tu wo th st ch ya ow ca hu le tst tch tya tow tca thu tle an sn kp so sf sc ss ai sd)) (ws' := (wB cI cZ q0 q1 q2 q3 q4 q5 q6 q7 q8 q9 q10 q11 q12 q13 q14 q15 q16 q17 q18 q19 lt ln ki sp tu wo th st ch ya ow ca hu le tst tch tya tow tca thu tle u1001.1 sn kp so sf sc ss u1001.2 sd)) (As := []) (rest := []) (ov := none) (st1 := []) (ci := 5) X (c5_remember (l := l) e_u1001) o5_remember tw356 ⟨rfl, rfl, Nat.le_of_ble_eq_true rfl, Nat.le_of_ble_eq_true rfl⟩ hP hK hD hS hA (wB_fst.trans wB_fst.symm) 0 rfl rfl rfl rfl hl rfl (by decide) ⟨Nat.le_refl _, Nat.le_refl _⟩ rfl dX5_hunger_1 (fun H locs hP hD hS => ?_)
  refine lv_aload_n X.1.1 X.1.2.1 dX5_hunger_4 rfl (lv_at hl 0 rfl) ?_
  refine gf5_26 X hK hP 0 rfl rfl dX5_hunger_5 ?_
  refine lv_aload_n X.1.1 X.1.2.1 dX5_hunger_8 rfl (lv_at hl 0 rfl) ?_
  refine gf5_26 X hK hP 0 rfl rfl dX5_hunger_9 ?_
  refine gf5_184 X hK hP 7 rfl rfl dX5_hunger_12 ?_
  refine lv_if_ne (tgt := 22) X.1.1 X.1.2.1 dX5_hunger_15 (by decide) (fun c_15 => ?_) (fun c_15 => ?_)
  · have hE := ite_f hE c_15
    refine lv_iconst (v := (iI 0)) X.1.1 X.1.2.1 dX5_hunger_22 rfl ?_
    refine pf5_184 (ws2 := (wB cI cZ q0 q1 q2 q3 q4 q5 q6 q7 q8 q9 q10 q11 q12 q13 q14 q15 q16 q17 q18 q19 lt ln ki sp tu wo th st ch ya ow ca (iI 0) le tst tch tya tow tca thu tle u1001.1 sn kp so sf sc ss u1001.2 sd)) X hK hP hD hS 7 rfl okB_0 (Nat.le_of_ble_eq_true rfl) rfl dX5_hunger_23 (fun H locs hP hD hS => ?_)
    refine lv_aload_n X.1.1 X.1.2.1 dX5_hunger_26 rfl (lv_at hl 0 rfl) ?_
    refine gf5_26 X hK hP 0 rfl rfl dX5_hunger_27 ?_
    refine gf5_184 X hK hP 7 rfl rfl dX5_hunger_30 ?_
    obtain ⟨u1002, e_u1002, hE⟩ := bd_some hE
    refine callRS (wsC := []) (As := [.int (iI 0)]) (rest := []) (cI := cI) (cZ := cZ) X (c5_asNumber (l := l) (G := G) (cI := cI) (cZ := cZ) e_u1002) o5_asNumber tw323 ⟨rfl, rfl, Nat.le_of_ble_eq_true rfl, Nat.le_of_ble_eq_true rfl⟩ va_P_nil hK rfl hl rfl (by decide) ⟨Nat.le_refl _, Nat.le_refl _⟩ dX5_hunger_33 ?_
    cases hE
    exact retW X hP hS dX5_hunger_36
  · have hE := ite_t hE c_15
    refine lv_iconst (v := (iI 1)) X.1.1 X.1.2.1 dX5_hunger_18 rfl ?_
    refine lv_goto (tgt := 23) X.1.1 X.1.2.1 dX5_hunger_19 (by decide) ?_
    refine pf5_184 (ws2 := (wB cI cZ q0 q1 q2 q3 q4 q5 q6 q7 q8 q9 q10 q11 q12 q13 q14 q15 q16 q17 q18 q19 lt ln ki sp tu wo th st ch ya ow ca (iI 1) le tst tch tya tow tca thu tle u1001.1 sn kp so sf sc ss u1001.2 sd)) X hK hP hD hS 7 rfl okB_1 (Nat.le_of_ble_eq_true rfl) rfl dX5_hunger_23 (fun H locs hP hD hS => ?_)
    refine lv_aload_n X.1.1 X.1.2.1 dX5_hunger_26 rfl (lv_at hl 0 rfl) ?_
    refine gf5_26 X hK hP 0 rfl rfl dX5_hunger_27 ?_
    refine gf5_184 X hK hP 7 rfl rfl dX5_hunger_30 ?_
    obtain ⟨u1003, e_u1003, hE⟩ := bd_some hE
    refine callRS (wsC := []) (As := [.int (iI 1)]) (rest := []) (cI := cI) (cZ := cZ) X (c5_asNumber (l := l) (G := G) (cI := cI) (cZ := cZ) e_u1003) o5_asNumber tw323 ⟨rfl, rfl, Nat.le_of_ble_eq_true rfl, Nat.le_of_ble_eq_true rfl⟩ va_P_nil hK rfl hl rfl (by decide) ⟨Nat.le_refl _, Nat.le_refl _⟩ dX5_hunger_33 ?_
    cases hE
    exact retW X hP hS dX5_hunger_36
theorem o5_undo : oV yX5_undo RX5 cX5_undo 1 (some .int) 0 := ⟨tw430, tw428, tw429, tw39, ⟨by decide +kernel, by decide +kernel⟩, by decide +kernel⟩
abbrev rm5_undo : Room := { frames := 2, cells := 0, slots := 0, locals := 46 }
set_option maxHeartbeats 4000000 in
set_option maxRecDepth 100000 in
theorem c5_undo {l : Launch} {G : va_G} {cI cZ : ClassId} {q0 q1 q2 q3 q4 q5 q6 q7 q8 q9 q10 q11 q12 q13 q14 q15 q16 q17 q18 q19 : Nat} {lt : Nat → Int32} {ln : Int32} {ki : Nat → Int32} {sp : Nat → Int32} {tu : Nat → Int32} {wo : Int32} {th : Int32} {st : Nat → Int32} {ch : Int32} {ya : Int32} {ow : Int32} {ca : Int32} {hu : Int32} {le : Int32} {tst : Nat → Int32} {tch : Int32} {tya : Int32} {tow : Int32} {tca : Int32} {thu : Int32} {tle : Int32} {an : Nat → Int32} {sn : Nat → Int32} {kp : Nat → Int32} {so : Nat → Int32} {sf : Nat → Int32} {sc : Nat → Int32} {ss : Int32} {ai : Int32} {sd : Int64} {sz : Nat} {u : Int32 × (Nat → Int32) × Int32 × Int32 × Int32 × Int32 × Int32 × Int32 × Int32} (hE : f5_undo st ch ya ow ca hu le an ai = some u) : Met l yX5_undo (Cond.code yX5_undo cX5_undo 1 (some .int) :: TB) rm5_undo (PcW G cI cZ (wB cI cZ q0 q1 q2 q3 q4 q5 q6 q7 q8 q9 q10 q11 q12 q13 q14 q15 q16 q17 q18 q19 lt ln ki sp tu wo th st ch ya ow ca hu le tst tch tya tow tca thu tle an sn kp so sf sc ss ai sd) sz ([.ref q0] : List Value)) (QW G (some (.int u.1)) (wB cI cZ q0 q1 q2 q3 q4 q5 q6 q7 q8 q9 q10 q11 q12 q13 q14 q15 q16 q17 q18 q19 lt ln ki sp tu wo th u.2.1 u.2.2.1 u.2.2.2.1 u.2.2.2.2.1 u.2.2.2.2.2.1 u.2.2.2.2.2.2.1 u.2.2.2.2.2.2.2.1 tst tch tya tow tca thu tle an sn kp so sf sc ss u.2.2.2.2.2.2.2.2 sd) (va_A (wB cI cZ q0 q1 q2 q3 q4 q5 q6 q7 q8 q9 q10 q11 q12 q13 q14 q15 q16 q17 q18 q19 lt ln ki sp tu wo th st ch ya ow ca hu le tst tch tya tow tca thu tle an sn kp so sf sc ss ai sd) sz)) 0 0 (va_A (wB cI cZ q0 q1 q2 q3 q4 q5 q6 q7 q8 q9 q10 q11 q12 q13 q14 q15 q16 q17 q18 q19 lt ln ki sp tu wo th st ch ya ow ca hu le tst tch tya tow tca thu tle an sn kp so sf sc ss ai sd) sz) := by
  refine metW (own := RX5) (by decide +kernel) rfl (Nat.le_of_ble_eq_true rfl) ?_
  intro p e s m below meth c ls A X hA hP hK hD hl
  have hS : va_S A s.heap s.heap [] := va_S.rf
  have hl : lv_has ls 1 [(0, .ref q0)] := hl
  unfold f5_undo at hE
  refine lv_aload_n X.1.1 X.1.2.1 dX5_undo_0 rfl (lv_at hl 0 rfl) ?_
  refine gf5_89 X hK hP 0 rfl rfl dX5_undo_1 ?_
  refine lv_iconst (v := (iI 1)) X.1.1 X.1.2.1 dX5_undo_4 rfl ?_
  refine lv_icmp_ge (tgt := 11) X.1.1 X.1.2.1 dX5_undo_5 (by decide) (fun c_5 => ?_) (fun c_5 => ?_)
  · have hE := ite_t hE c_5
    refine lv_aload_n X.1.1 X.1.2.1 dX5_undo_11 rfl (lv_at hl 0 rfl) ?_
    refine lv_dup X.1.1 X.1.2.1 dX5_undo_12 rfl ?_
    refine gf5_89 X hK hP 0 rfl rfl dX5_undo_13 ?_
    refine lv_iconst (v := (iI 1)) X.1.1 X.1.2.1 dX5_undo_16 rfl ?_
    refine lv_isub X.1.1 X.1.2.1 dX5_undo_17 ?_
    refine pf5_89 (ws2 := (wB cI cZ q0 q1 q2 q3 q4 q5 q6 q7 q8 q9 q10 q11 q12 q13 q14 q15 q16 q17 q18 q19 lt ln ki sp tu wo th st ch ya ow ca hu le tst tch tya tow tca thu tle an sn kp so sf sc ss (ai - (iI 1)) sd)) X hK hP hD hS 0 rfl (Nat.le_of_ble_eq_true rfl) rfl dX5_undo_18 (fun H locs hP hD hS => ?_)
    refine lv_aload_n X.1.1 X.1.2.1 dX5_undo_21 rfl (lv_at hl 0 rfl) ?_
    refine gf5_38 X hK hP 0 rfl rfl dX5_undo_22 ?_
    refine lv_aload_n X.1.1 X.1.2.1 dX5_undo_25 rfl (lv_at hl 0 rfl) ?_
    refine gf5_89 X hK hP 0 rfl rfl dX5_undo_26 ?_
    refine lv_aload_n X.1.1 X.1.2.1 dX5_undo_29 rfl (lv_at hl 0 rfl) ?_
    refine gf5_26 X hK hP 0 rfl rfl dX5_undo_30 ?_
    obtain ⟨u1001, e_u1001, hE⟩ := bd_some hE
    refine callWV (wsC := (wSD cI cZ 140 q11 q12 q7 q8 an st ch ya ow ca hu le)) (w1 := (wSD cI cZ 140 q11 q12 q7 q8 an u1001.1 u1001.2.1 u1001.2.2.1 u1001.2.2.2.1 u1001.2.2.2.2.1 u1001.2.2.2.2.2.1 u1001.2.2.2.2.2.2)) (ws' := (wB cI cZ q0 q1 q2 q3 q4 q5 q6 q7 q8 q9 q10 q11 q12 q13 q14 q15 q16 q17 q18 q19 lt ln ki sp tu wo th u1001.1 u1001.2.1 u1001.2.2.1 u1001.2.2.2.1 u1001.2.2.2.2.1 u1001.2.2.2.2.2.1 u1001.2.2.2.2.2.2 tst tch tya tow tca thu tle an sn kp so sf sc ss (ai - (iI 1)) sd)) (As := [.int (ai - (iI 1)), .ref q7]) (rest := []) (ov := none) (st1 := []) (ci := 2) X (c2_take (l := l) e_u1001) o2_take tw431 ⟨rfl, rfl, Nat.le_of_ble_eq_true rfl, Nat.le_of_ble_eq_true rfl⟩ hP hK hD hS hA [11, 12, 7, 8] (by decide) rfl rfl rfl (wB_fst.trans wB_fst.symm) 11 rfl rfl rfl rfl hl rfl (by decide) ⟨Nat.le_refl _, Nat.le_refl _⟩ rfl dX5_undo_33 (fun H locs hP hD hS => ?_)
    refine lv_aload_n X.1.1 X.1.2.1 dX5_undo_36 rfl (lv_at hl 0 rfl) ?_
    refine gf5_89 X hK hP 0 rfl rfl dX5_undo_37 ?_
    cases hE
    exact retW X hP hS dX5_undo_40
  · have hE := ite_f hE c_5
    refine lv_bipush (v := (iI (-3))) X.1.1 X.1.2.1 dX5_undo_8 (by decide) ?_
    cases hE
    exact retW X hP hS dX5_undo_10
theorem o5_comes : oV yX5_comes RX5 cX5_comes 3 (some .int) 2 := ⟨tw443, tw441, tw442, tw39, ⟨by decide +kernel, by decide +kernel⟩, by decide +kernel⟩
abbrev rm5_comes : Room := { frames := 4, cells := 0, slots := 0, locals := 92 }
set_option maxHeartbeats 4000000 in
set_option maxRecDepth 100000 in
theorem c5_comes {l : Launch} {G : va_G} {cI cZ : ClassId} {q0 q1 q2 q3 q4 q5 q6 q7 q8 q9 q10 q11 q12 q13 q14 q15 q16 q17 q18 q19 : Nat} {lt : Nat → Int32} {ln : Int32} {ki : Nat → Int32} {sp : Nat → Int32} {tu : Nat → Int32} {wo : Int32} {th : Int32} {st : Nat → Int32} {ch : Int32} {ya : Int32} {ow : Int32} {ca : Int32} {hu : Int32} {le : Int32} {tst : Nat → Int32} {tch : Int32} {tya : Int32} {tow : Int32} {tca : Int32} {thu : Int32} {tle : Int32} {an : Nat → Int32} {sn : Nat → Int32} {kp : Nat → Int32} {so : Nat → Int32} {sf : Nat → Int32} {sc : Nat → Int32} {ss : Int32} {ai : Int32} {sd : Int64} {v1 : Int32} {v2 : Int32} {u : Int32} (hE : f5_comes v1 v2 ki sp tu wo th st hu = some u) : Met l yX5_comes (Cond.code yX5_comes cX5_comes 3 (some .int) :: TB) rm5_comes (PcR G cI cZ (wB cI cZ q0 q1 q2 q3 q4 q5 q6 q7 q8 q9 q10 q11 q12 q13 q14 q15 q16 q17 q18 q19 lt ln ki sp tu wo th st ch ya ow ca hu le tst tch tya tow tca thu tle an sn kp so sf sc ss ai sd) ([.ref q0, .int v1, .int v2] : List Value)) (QcRead u) 0 0 (fun _ => False) := by
  refine metR (own := RX5) (by decide +kernel) rfl (Nat.le_of_ble_eq_true rfl) ?_
  intro p e s m below meth c ls X hP hK hl
  have hl : lv_has ls 3 [(0, .ref q0), (1, .int v1), (2, .int v2)] := hl
  unfold f5_comes at hE
  refine lv_aload_n X.1.1 X.1.2.1 dX5_comes_0 rfl (lv_at hl 0 rfl) ?_
  refine gf5_19 X hK hP 0 rfl rfl dX5_comes_1 ?_
  refine lv_iload_n X.1.1 X.1.2.1 dX5_comes_4 rfl (lv_at hl 1 rfl) ?_
  obtain ⟨u1001, e_u1001, hE⟩ := bd_some hE
  refine callRV (wsC := (wF cI cZ q3 q4 q5 q6 ki sp tu wo th)) (As := [.int v1]) (rest := []) (ci := 1) X (c1_hasWord (l := l) e_u1001) o1_hasWord tw274 ⟨rfl, rfl, Nat.le_of_ble_eq_true rfl, Nat.le_of_ble_eq_true rfl⟩ (hP.sub [3, 4, 5, 6] rfl) hK 0 rfl rfl rfl rfl hl rfl (by decide) ⟨Nat.le_refl _, Nat.le_refl _⟩ dX5_comes_5 ?_
  refine lv_if_ne (tgt := 13) X.1.1 X.1.2.1 dX5_comes_8 (by decide) (fun c_8 => ?_) (fun c_8 => ?_)
  · have hE := ite_f hE c_8
    refine lv_iload_n X.1.1 X.1.2.1 dX5_comes_13 rfl (lv_at hl 2 rfl) ?_
    obtain ⟨u1002, e_u1002, hE⟩ := bd_some hE
    refine callRS (wsC := []) (As := [.int v2]) (rest := []) (cI := cI) (cZ := cZ) X (c5_isNoYard (l := l) (G := G) (cI := cI) (cZ := cZ) e_u1002) o5_isNoYard tw348 ⟨rfl, rfl, Nat.le_of_ble_eq_true rfl, Nat.le_of_ble_eq_true rfl⟩ va_P_nil hK rfl hl rfl (by decide) ⟨Nat.le_refl _, Nat.le_refl _⟩ dX5_comes_14 ?_
    refine lv_if_eq (tgt := 23) X.1.1 X.1.2.1 dX5_comes_17 (by decide) (fun c_17 => ?_) (fun c_17 => ?_)
    · have hE := ite_t hE c_17
      refine lv_aload_n X.1.1 X.1.2.1 dX5_comes_23 rfl (lv_at hl 0 rfl) ?_
      refine gf5_19 X hK hP 0 rfl rfl dX5_comes_24 ?_
      refine lv_aload_n X.1.1 X.1.2.1 dX5_comes_27 rfl (lv_at hl 0 rfl) ?_
      refine gf5_26 X hK hP 0 rfl rfl dX5_comes_28 ?_
      refine lv_iload_n X.1.1 X.1.2.1 dX5_comes_31 rfl (lv_at hl 1 rfl) ?_
      refine lv_iload_n X.1.1 X.1.2.1 dX5_comes_32 rfl (lv_at hl 2 rfl) ?_
      obtain ⟨u1003, e_u1003, hE⟩ := bd_some hE
      refine callRV (wsC := (wFD cI cZ q3 q4 q5 q6 q7 q8 ki sp tu wo th st ch ya ow ca hu le)) (As := [.ref q7, .int v1, .int v2]) (rest := []) (ci := 1) X (c1_brings (l := l) e_u1003) o1_brings tw296 ⟨rfl, rfl, Nat.le_of_ble_eq_true rfl, Nat.le_of_ble_eq_true rfl⟩ (hP.sub [3, 4, 5, 6, 7, 8] rfl) hK 0 rfl rfl rfl rfl hl rfl (by decide) ⟨Nat.le_refl _, Nat.le_refl _⟩ dX5_comes_33 ?_
      obtain ⟨u1004, e_u1004, hE⟩ := bd_some hE
      refine callRS (wsC := []) (As := [.int u1003]) (rest := []) (cI := cI) (cZ := cZ) X (c5_asNumber (l := l) (G := G) (cI := cI) (cZ := cZ) e_u1004) o5_asNumber tw323 ⟨rfl, rfl, Nat.le_of_ble_eq_true rfl, Nat.le_of_ble_eq_true rfl⟩ va_P_nil hK rfl hl rfl (by decide) ⟨Nat.le_refl _, Nat.le_refl _⟩ dX5_comes_36 ?_
      cases hE
      exact retR X dX5_comes_39
    · have hE := ite_f hE c_17
      refine lv_bipush (v := (iI (-2))) X.1.1 X.1.2.1 dX5_comes_20 (by decide) ?_
      cases hE
      exact retR X dX5_comes_22
  · have hE := ite_t hE c_8
    refine lv_iconst (v := (iI (-1))) X.1.1 X.1.2.1 dX5_comes_11 rfl ?_
    cases hE
    exact retR X dX5_comes_12
theorem o5_best : oV yX5_best RX5 cX5_best 6 (some .int) 1 := ⟨tw447, tw445, tw446, tw39, ⟨by decide +kernel, by decide +kernel⟩, by decide +kernel⟩
abbrev rm5_best : Room := { frames := 4, cells := 0, slots := 0, locals := 92 }
set_option maxHeartbeats 4000000 in
set_option maxRecDepth 100000 in
theorem c5_best {l : Launch} {G : va_G} {cI cZ : ClassId} {q0 q1 q2 q3 q4 q5 q6 q7 q8 q9 q10 q11 q12 q13 q14 q15 q16 q17 q18 q19 : Nat} {lt : Nat → Int32} {ln : Int32} {ki : Nat → Int32} {sp : Nat → Int32} {tu : Nat → Int32} {wo : Int32} {th : Int32} {st : Nat → Int32} {ch : Int32} {ya : Int32} {ow : Int32} {ca : Int32} {hu : Int32} {le : Int32} {tst : Nat → Int32} {tch : Int32} {tya : Int32} {tow : Int32} {tca : Int32} {thu : Int32} {tle : Int32} {an : Nat → Int32} {sn : Nat → Int32} {kp : Nat → Int32} {so : Nat → Int32} {sf : Nat → Int32} {sc : Nat → Int32} {ss : Int32} {ai : Int32} {sd : Int64} {v1 : Int32} {u : Int32} (hE : f5_best v1 ki sp tu wo th st hu = some u) : Met l yX5_best (Cond.code yX5_best cX5_best 6 (some .int) :: TB) rm5_best (PcR G cI cZ (wB cI cZ q0 q1 q2 q3 q4 q5 q6 q7 q8 q9 q10 q11 q12 q13 q14 q15 q16 q17 q18 q19 lt ln ki sp tu wo th st ch ya ow ca hu le tst tch tya tow tca thu tle an sn kp so sf sc ss ai sd) ([.ref q0, .int v1] : List Value)) (QcRead u) 0 0 (fun _ => False) := by
  refine metR (own := RX5) (by decide +kernel) rfl (Nat.le_of_ble_eq_true rfl) ?_
  intro p e s m below meth c ls X hP hK hl
  have hl : lv_has ls 6 [(0, .ref q0), (1, .int v1)] := hl
  unfold f5_best at hE
  refine lv_iload_n X.1.1 X.1.2.1 dX5_best_0 rfl (lv_at hl 1 rfl) ?_
  obtain ⟨u1001, e_u1001, hE⟩ := bd_some hE
  refine callRS (wsC := []) (As := [.int v1]) (rest := []) (cI := cI) (cZ := cZ) X (c5_isNoYard (l := l) (G := G) (cI := cI) (cZ := cZ) e_u1001) o5_isNoYard tw348 ⟨rfl, rfl, Nat.le_of_ble_eq_true rfl, Nat.le_of_ble_eq_true rfl⟩ va_P_nil hK rfl hl rfl (by decide) ⟨Nat.le_refl _, Nat.le_refl _⟩ dX5_best_1 ?_
  refine lv_if_eq (tgt := 10) X.1.1 X.1.2.1 dX5_best_4 (by decide) (fun c_4 => ?_) (fun c_4 => ?_)
  · have hE := ite_t hE c_4
    refine lv_bipush (v := (iI (-9))) X.1.1 X.1.2.1 dX5_best_10 (by decide) ?_
    refine lv_istore_n (lv' := [(2, .int (iI (-9))), (0, .ref q0), (1, .int v1)]) X.1.1 X.1.2.1 dX5_best_12 rfl hl (by decide) rfl (fun ls hl => ?_)
    refine lv_iconst (v := (iI 0)) X.1.1 X.1.2.1 dX5_best_13 rfl ?_
    refine lv_istore_n (lv' := [(3, .int (iI 0)), (2, .int (iI (-9))), (0, .ref q0), (1, .int v1)]) X.1.1 X.1.2.1 dX5_best_14 rfl hl (by decide) rfl (fun ls hl => ?_)
    refine lv_iconst (v := (iI 0)) X.1.1 X.1.2.1 dX5_best_15 rfl ?_
    refine lv_istore (lv' := [(4, .int (iI 0)), (3, .int (iI 0)), (2, .int (iI (-9))), (0, .ref q0), (1, .int v1)]) X.1.1 X.1.2.1 dX5_best_16 hl (by decide) rfl (fun ls hl => ?_)
    have lp18 : ∀ (k : Int32 → Int32 → Int32 → Option Int32), (∀ (v2_1002 : Int32) (v3_1002 : Int32) (v4_1002 : Int32) (ls : Array Slot), lv_has ls 6 [(0, .ref q0), (1, .int v1), (2, .int v2_1002), (3, .int v3_1002), (4, .int v4_1002)] → k v2_1002 v3_1002 v4_1002 = some u → W p l e rm5_best s m ([.ref q0, .int v1] : List Value).toArray below meth c s.heap [] 0 0 (MQ below (QcRead u) ([.ref q0, .int v1] : List Value).toArray s 0 0 (fun _ => False)) (F0 m 81 ls [])) → ∀ (n : Nat) (v2_1002 : Int32) (v3_1002 : Int32) (v4_1002 : Int32) (ls : Array Slot), lv_has ls 6 [(0, .ref q0), (1, .int v1), (2, .int v2_1002), (3, .int v3_1002), (4, .int v4_1002)] → l5_best_18 k v1 ki sp tu wo th st hu n v2_1002 v3_1002 v4_1002 = some u → W p l e rm5_best s m ([.ref q0, .int v1] : List Value).toArray below meth c s.heap [] 0 0 (MQ below (QcRead u) ([.ref q0, .int v1] : List Value).toArray s 0 0 (fun _ => False)) (F0 m 18 ls []) := by
      intro k hex n
      induction n with
      | zero =>
        intro v2_1002 v3_1002 v4_1002 ls hl hE
        exact absurd (show (none : Option Int32) = some u from hE) (fun h => by cases h)
      | succ n ih =>
        intro v2_1002 v3_1002 v4_1002 ls hl hE
        rw [l5_best_18] at hE
        refine lv_iload X.1.1 X.1.2.1 dX5_best_18 (lv_at hl 4 rfl) ?_
        refine lv_aload_n X.1.1 X.1.2.1 dX5_best_20 rfl (lv_at hl 0 rfl) ?_
        refine gf5_19 X hK hP 0 rfl rfl dX5_best_21 ?_
        refine gf5_92 X hK hP 3 rfl rfl dX5_best_24 ?_
        refine lv_icmp_ge (tgt := 81) X.1.1 X.1.2.1 dX5_best_27 (by decide) (fun c_27 => ?_) (fun c_27 => ?_)
        · have hE := ite_t hE c_27
          exact hex v2_1002 v3_1002 v4_1002 ls (lv_sub hl [0, 1, 2, 3, 4] rfl) hE
        · have hE := ite_f hE c_27
          refine lv_aload_n X.1.1 X.1.2.1 dX5_best_30 rfl (lv_at hl 0 rfl) ?_
          refine gf5_19 X hK hP 0 rfl rfl dX5_best_31 ?_
          refine lv_aload_n X.1.1 X.1.2.1 dX5_best_34 rfl (lv_at hl 0 rfl) ?_
          refine gf5_26 X hK hP 0 rfl rfl dX5_best_35 ?_
          refine lv_iload X.1.1 X.1.2.1 dX5_best_38 (lv_at hl 4 rfl) ?_
          refine lv_iload_n X.1.1 X.1.2.1 dX5_best_40 rfl (lv_at hl 1 rfl) ?_
          obtain ⟨u1003, e_u1003, hE⟩ := bd_some hE
          refine callRV (wsC := (wFD cI cZ q3 q4 q5 q6 q7 q8 ki sp tu wo th st ch ya ow ca hu le)) (As := [.ref q7, .int v4_1002, .int v1]) (rest := []) (ci := 1) X (c1_powerOf (l := l) e_u1003) o1_powerOf tw286 ⟨rfl, rfl, Nat.le_of_ble_eq_true rfl, Nat.le_of_ble_eq_true rfl⟩ (hP.sub [3, 4, 5, 6, 7, 8] rfl) hK 0 rfl rfl rfl rfl hl rfl (by decide) ⟨Nat.le_refl _, Nat.le_refl _⟩ dX5_best_41 ?_
          refine lv_istore (lv' := [(5, .int u1003), (0, .ref q0), (1, .int v1), (2, .int v2_1002), (3, .int v3_1002), (4, .int v4_1002)]) X.1.1 X.1.2.1 dX5_best_44 hl (by decide) rfl (fun ls hl => ?_)
          refine lv_aload_n X.1.1 X.1.2.1 dX5_best_46 rfl (lv_at hl 1 rfl) ?_
          refine gf5_19 X hK hP 0 rfl rfl dX5_best_47 ?_
          refine lv_aload_n X.1.1 X.1.2.1 dX5_best_50 rfl (lv_at hl 1 rfl) ?_
          refine gf5_26 X hK hP 0 rfl rfl dX5_best_51 ?_
          refine lv_iload X.1.1 X.1.2.1 dX5_best_54 (lv_at hl 5 rfl) ?_
          refine lv_iload_n X.1.1 X.1.2.1 dX5_best_56 rfl (lv_at hl 2 rfl) ?_
          obtain ⟨u1004, e_u1004, hE⟩ := bd_some hE
          refine callRV (wsC := (wFD cI cZ q3 q4 q5 q6 q7 q8 ki sp tu wo th st ch ya ow ca hu le)) (As := [.ref q7, .int v4_1002, .int v1]) (rest := []) (ci := 1) X (c1_brings (l := l) e_u1004) o1_brings tw296 ⟨rfl, rfl, Nat.le_of_ble_eq_true rfl, Nat.le_of_ble_eq_true rfl⟩ (hP.sub [3, 4, 5, 6, 7, 8] rfl) hK 0 rfl rfl rfl rfl hl rfl (by decide) ⟨Nat.le_refl _, Nat.le_refl _⟩ dX5_best_57 ?_
          refine lv_if_eq (tgt := 75) X.1.1 X.1.2.1 dX5_best_60 (by decide) (fun c_60 => ?_) (fun c_60 => ?_)
          · have hE := ite_t hE c_60
            refine lv_iinc (v := (v4_1002 + (iI 1))) (lv' := [(4, .int (v4_1002 + (iI 1))), (5, .int u1003), (0, .ref q0), (1, .int v1), (2, .int v2_1002), (3, .int v3_1002)]) X.1.1 X.1.2.1 dX5_best_75 hl (k := 5) rfl rfl (by decide) rfl (fun ls hl => ?_)
            refine lv_goto (tgt := 18) X.1.1 X.1.2.1 dX5_best_78 (by decide) ?_
            exact ih v2_1002 v3_1002 (v4_1002 + (iI 1)) ls (lv_sub hl [2, 3, 4, 5, 0] rfl) hE
          · have hE := ite_f hE c_60
            refine lv_iload X.1.1 X.1.2.1 dX5_best_63 (lv_at hl 0 rfl) ?_
            refine lv_iload_n X.1.1 X.1.2.1 dX5_best_65 rfl (lv_at hl 4 rfl) ?_
            refine lv_icmp_le (tgt := 75) X.1.1 X.1.2.1 dX5_best_66 (by decide) (fun c_66 => ?_) (fun c_66 => ?_)
            · have hE := ite_t hE c_66
              refine lv_iinc (v := (v4_1002 + (iI 1))) (lv' := [(4, .int (v4_1002 + (iI 1))), (5, .int u1003), (0, .ref q0), (1, .int v1), (2, .int v2_1002), (3, .int v3_1002)]) X.1.1 X.1.2.1 dX5_best_75 hl (k := 5) rfl rfl (by decide) rfl (fun ls hl => ?_)
              refine lv_goto (tgt := 18) X.1.1 X.1.2.1 dX5_best_78 (by decide) ?_
              exact ih v2_1002 v3_1002 (v4_1002 + (iI 1)) ls (lv_sub hl [2, 3, 4, 5, 0] rfl) hE
            · have hE := ite_f hE c_66
              refine lv_iload X.1.1 X.1.2.1 dX5_best_69 (lv_at hl 5 rfl) ?_
              refine lv_istore_n (lv' := [(2, .int v4_1002), (5, .int u1003), (0, .ref q0), (1, .int v1), (3, .int v3_1002), (4, .int v4_1002)]) X.1.1 X.1.2.1 dX5_best_71 rfl hl (by decide) rfl (fun ls hl => ?_)
              refine lv_iload X.1.1 X.1.2.1 dX5_best_72 (lv_at hl 1 rfl) ?_
              refine lv_istore_n (lv' := [(3, .int u1003), (2, .int v4_1002), (5, .int u1003), (0, .ref q0), (1, .int v1), (4, .int v4_1002)]) X.1.1 X.1.2.1 dX5_best_74 rfl hl (by decide) rfl (fun ls hl => ?_)
              refine lv_iinc (v := (v4_1002 + (iI 1))) (lv' := [(4, .int (v4_1002 + (iI 1))), (3, .int u1003), (2, .int v4_1002), (5, .int u1003), (0, .ref q0), (1, .int v1)]) X.1.1 X.1.2.1 dX5_best_75 hl (k := 5) rfl rfl (by decide) rfl (fun ls hl => ?_)
              refine lv_goto (tgt := 18) X.1.1 X.1.2.1 dX5_best_78 (by decide) ?_
              exact ih v4_1002 u1003 (v4_1002 + (iI 1)) ls (lv_sub hl [4, 5, 2, 1, 0] rfl) hE
    refine lp18 _ (fun v2_1002 v3_1002 v4_1002 ls hl hE => ?_) FU (iI (-9)) (iI 0) (iI 0) ls (lv_sub hl [3, 4, 2, 1, 0] rfl) hE
    refine lv_iload_n X.1.1 X.1.2.1 dX5_best_81 rfl (lv_at hl 2 rfl) ?_
    cases hE
    exact retR X dX5_best_82
  · have hE := ite_f hE c_4
    refine lv_bipush (v := (iI (-2))) X.1.1 X.1.2.1 dX5_best_7 (by decide) ?_
    cases hE
    exact retR X dX5_best_9
theorem o5_nthRow : oV yX5_nthRow RX5 cX5_nthRow 8 (some .int) 2 := ⟨tw455, tw454, tw6, tw39, ⟨by decide +kernel, by decide +kernel⟩, by decide +kernel⟩
abbrev rm5_nthRow : Room := { frames := 0, cells := 0, slots := 0, locals := 0 }
set_option maxHeartbeats 4000000 in
set_option maxRecDepth 100000 in
theorem c5_nthRow {l : Launch} {G : va_G} {cI cZ : ClassId} {q0 q1 q2 q3 q4 q5 q6 q7 q8 q9 q10 q11 q12 q13 q14 q15 q16 q17 q18 q19 : Nat} {lt : Nat → Int32} {ln : Int32} {ki : Nat → Int32} {sp : Nat → Int32} {tu : Nat → Int32} {wo : Int32} {th : Int32} {st : Nat → Int32} {ch : Int32} {ya : Int32} {ow : Int32} {ca : Int32} {hu : Int32} {le : Int32} {tst : Nat → Int32} {tch : Int32} {tya : Int32} {tow : Int32} {tca : Int32} {thu : Int32} {tle : Int32} {an : Nat → Int32} {sn : Nat → Int32} {kp : Nat → Int32} {so : Nat → Int32} {sf : Nat → Int32} {sc : Nat → Int32} {ss : Int32} {ai : Int32} {sd : Int64} {v1 : Int32} {v2 : Int32} {u : Int32} (hE : f5_nthRow v1 v2 wo = some u) : Met l yX5_nthRow (Cond.code yX5_nthRow cX5_nthRow 8 (some .int) :: TB) rm5_nthRow (PcR G cI cZ (wB cI cZ q0 q1 q2 q3 q4 q5 q6 q7 q8 q9 q10 q11 q12 q13 q14 q15 q16 q17 q18 q19 lt ln ki sp tu wo th st ch ya ow ca hu le tst tch tya tow tca thu tle an sn kp so sf sc ss ai sd) ([.ref q0, .int v1, .int v2] : List Value)) (QcRead u) 0 0 (fun _ => False) := by
  refine metR (own := RX5) (by decide +kernel) rfl (Nat.le_of_ble_eq_true rfl) ?_
  intro p e s m below meth c ls X hP hK hl
  have hl : lv_has ls 8 [(0, .ref q0), (1, .int v1), (2, .int v2)] := hl
  unfold f5_nthRow at hE
  refine lv_aload_n X.1.1 X.1.2.1 dX5_nthRow_0 rfl (lv_at hl 0 rfl) ?_
  refine gf5_19 X hK hP 0 rfl rfl dX5_nthRow_1 ?_
  refine gf5_92 X hK hP 3 rfl rfl dX5_nthRow_4 ?_
  refine lv_istore_n (lv' := [(3, .int wo), (0, .ref q0), (1, .int v1), (2, .int v2)]) X.1.1 X.1.2.1 dX5_nthRow_7 rfl hl (by decide) rfl (fun ls hl => ?_)
  refine lv_iload_n X.1.1 X.1.2.1 dX5_nthRow_8 rfl (lv_at hl 0 rfl) ?_
  refine lv_iconst (v := (iI 1)) X.1.1 X.1.2.1 dX5_nthRow_9 rfl ?_
  refine lv_icmp_ge (tgt := 15) X.1.1 X.1.2.1 dX5_nthRow_10 (by decide) (fun c_10 => ?_) (fun c_10 => ?_)
  · have hE := ite_t hE c_10
    refine lv_iconst (v := (iI 0)) X.1.1 X.1.2.1 dX5_nthRow_15 rfl ?_
    refine lv_istore (lv' := [(4, .int (iI 0)), (3, .int wo), (0, .ref q0), (1, .int v1), (2, .int v2)]) X.1.1 X.1.2.1 dX5_nthRow_16 hl (by decide) rfl (fun ls hl => ?_)
    refine lv_iconst (v := (iI 1)) X.1.1 X.1.2.1 dX5_nthRow_18 rfl ?_
    refine lv_istore (lv' := [(5, .int (iI 1)), (4, .int (iI 0)), (3, .int wo), (0, .ref q0), (1, .int v1), (2, .int v2)]) X.1.1 X.1.2.1 dX5_nthRow_19 hl (by decide) rfl (fun ls hl => ?_)
    refine lv_iload_n X.1.1 X.1.2.1 dX5_nthRow_21 rfl (lv_at hl 4 rfl) ?_
    refine lv_istore (lv' := [(6, .int v1), (5, .int (iI 1)), (4, .int (iI 0)), (3, .int wo), (0, .ref q0), (1, .int v1), (2, .int v2)]) X.1.1 X.1.2.1 dX5_nthRow_22 hl (by decide) rfl (fun ls hl => ?_)
    refine lv_iconst (v := (iI 0)) X.1.1 X.1.2.1 dX5_nthRow_24 rfl ?_
    refine lv_istore (lv' := [(7, .int (iI 0)), (6, .int v1), (5, .int (iI 1)), (4, .int (iI 0)), (3, .int wo), (0, .ref q0), (1, .int v1), (2, .int v2)]) X.1.1 X.1.2.1 dX5_nthRow_25 hl (by decide) rfl (fun ls hl => ?_)
    have lp27 : ∀ (k : Int32 → Int32 → Int32 → Int32 → Option Int32), (∀ (v4_1001 : Int32) (v5_1001 : Int32) (v6_1001 : Int32) (v7_1001 : Int32) (ls : Array Slot), lv_has ls 8 [(0, .ref q0), (1, .int v1), (2, .int v2), (3, .int wo), (4, .int v4_1001), (5, .int v5_1001), (6, .int v6_1001), (7, .int v7_1001)] → k v4_1001 v5_1001 v6_1001 v7_1001 = some u → W p l e rm5_nthRow s m ([.ref q0, .int v1, .int v2] : List Value).toArray below meth c s.heap [] 0 0 (MQ below (QcRead u) ([.ref q0, .int v1, .int v2] : List Value).toArray s 0 0 (fun _ => False)) (F0 m 66 ls [])) → ∀ (n : Nat) (v4_1001 : Int32) (v5_1001 : Int32) (v6_1001 : Int32) (v7_1001 : Int32) (ls : Array Slot), lv_has ls 8 [(0, .ref q0), (1, .int v1), (2, .int v2), (3, .int wo), (4, .int v4_1001), (5, .int v5_1001), (6, .int v6_1001), (7, .int v7_1001)] → l5_nthRow_27 k v2 wo n v4_1001 v5_1001 v6_1001 v7_1001 = some u → W p l e rm5_nthRow s m ([.ref q0, .int v1, .int v2] : List Value).toArray below meth c s.heap [] 0 0 (MQ below (QcRead u) ([.ref q0, .int v1, .int v2] : List Value).toArray s 0 0 (fun _ => False)) (F0 m 27 ls []) := by
      intro k hex n
      induction n with
      | zero =>
        intro v4_1001 v5_1001 v6_1001 v7_1001 ls hl hE
        exact absurd (show (none : Option Int32) = some u from hE) (fun h => by cases h)
      | succ n ih =>
        intro v4_1001 v5_1001 v6_1001 v7_1001 ls hl hE
        rw [l5_nthRow_27] at hE
        refine lv_iload X.1.1 X.1.2.1 dX5_nthRow_27 (lv_at hl 7 rfl) ?_
        refine lv_iload_n X.1.1 X.1.2.1 dX5_nthRow_29 rfl (lv_at hl 2 rfl) ?_
        refine lv_icmp_ge (tgt := 66) X.1.1 X.1.2.1 dX5_nthRow_30 (by decide) (fun c_30 => ?_) (fun c_30 => ?_)
        · have hE := ite_t hE c_30
          exact hex v4_1001 v5_1001 v6_1001 v7_1001 ls (lv_sub hl [0, 1, 2, 3, 4, 5, 6, 7] rfl) hE
        · have hE := ite_f hE c_30
          refine lv_iload X.1.1 X.1.2.1 dX5_nthRow_33 (lv_at hl 4 rfl) ?_
          refine lv_iload X.1.1 X.1.2.1 dX5_nthRow_35 (lv_at hl 6 rfl) ?_
          refine lv_iload_n X.1.1 X.1.2.1 dX5_nthRow_37 rfl (lv_at hl 3 rfl) ?_
          obtain ⟨g_38, hE⟩ := nz_some hE
          refine r_irem X.1.1 X.1.2.1 dX5_nthRow_38 g_38 ?_
          refine lv_iconst (v := (iI 1)) X.1.1 X.1.2.1 dX5_nthRow_39 rfl ?_
          refine lv_iadd X.1.1 X.1.2.1 dX5_nthRow_40 ?_
          refine lv_iload X.1.1 X.1.2.1 dX5_nthRow_41 (lv_at hl 5 rfl) ?_
          refine lv_imul X.1.1 X.1.2.1 dX5_nthRow_43 ?_
          refine lv_iadd X.1.1 X.1.2.1 dX5_nthRow_44 ?_
          refine lv_istore (lv' := [(4, .int (v4_1001 + (((rmI v6_1001 wo) + (iI 1)) * v5_1001))), (0, .ref q0), (1, .int v1), (2, .int v2), (3, .int wo), (5, .int v5_1001), (6, .int v6_1001), (7, .int v7_1001)]) X.1.1 X.1.2.1 dX5_nthRow_45 hl (by decide) rfl (fun ls hl => ?_)
          refine lv_iload X.1.1 X.1.2.1 dX5_nthRow_47 (lv_at hl 6 rfl) ?_
          refine lv_iload_n X.1.1 X.1.2.1 dX5_nthRow_49 rfl (lv_at hl 4 rfl) ?_
          obtain ⟨g_50, hE⟩ := nz_some hE
          refine lv_idiv X.1.1 X.1.2.1 dX5_nthRow_50 g_50 ?_
          refine lv_istore (lv' := [(6, .int (v6_1001 / wo)), (4, .int (v4_1001 + (((rmI v6_1001 wo) + (iI 1)) * v5_1001))), (0, .ref q0), (1, .int v1), (2, .int v2), (3, .int wo), (5, .int v5_1001), (7, .int v7_1001)]) X.1.1 X.1.2.1 dX5_nthRow_51 hl (by decide) rfl (fun ls hl => ?_)
          refine lv_iload X.1.1 X.1.2.1 dX5_nthRow_53 (lv_at hl 6 rfl) ?_
          refine lv_bipush (v := (iI 10)) X.1.1 X.1.2.1 dX5_nthRow_55 (by decide) ?_
          refine lv_imul X.1.1 X.1.2.1 dX5_nthRow_57 ?_
          refine lv_istore (lv' := [(5, .int (v5_1001 * (iI 10))), (6, .int (v6_1001 / wo)), (4, .int (v4_1001 + (((rmI v6_1001 wo) + (iI 1)) * v5_1001))), (0, .ref q0), (1, .int v1), (2, .int v2), (3, .int wo), (7, .int v7_1001)]) X.1.1 X.1.2.1 dX5_nthRow_58 hl (by decide) rfl (fun ls hl => ?_)
          refine lv_iinc (v := (v7_1001 + (iI 1))) (lv' := [(7, .int (v7_1001 + (iI 1))), (5, .int (v5_1001 * (iI 10))), (6, .int (v6_1001 / wo)), (4, .int (v4_1001 + (((rmI v6_1001 wo) + (iI 1)) * v5_1001))), (0, .ref q0), (1, .int v1), (2, .int v2), (3, .int wo)]) X.1.1 X.1.2.1 dX5_nthRow_60 hl (k := 7) rfl rfl (by decide) rfl (fun ls hl => ?_)
          refine lv_goto (tgt := 27) X.1.1 X.1.2.1 dX5_nthRow_63 (by decide) ?_
          exact ih (v4_1001 + (((rmI v6_1001 wo) + (iI 1)) * v5_1001)) (v5_1001 * (iI 10)) (v6_1001 / wo) (v7_1001 + (iI 1)) ls (lv_sub hl [4, 5, 6, 7, 3, 1, 2, 0] rfl) hE
    refine lp27 _ (fun v4_1001 v5_1001 v6_1001 v7_1001 ls hl hE => ?_) FU (iI 0) (iI 1) v1 (iI 0) ls (lv_sub hl [5, 6, 7, 4, 3, 2, 1, 0] rfl) hE
    refine lv_iload X.1.1 X.1.2.1 dX5_nthRow_66 (lv_at hl 4 rfl) ?_
    cases hE
    exact retR X dX5_nthRow_68
  · have hE := ite_f hE c_10
    refine lv_iconst (v := (iI 0)) X.1.1 X.1.2.1 dX5_nthRow_13 rfl ?_
    cases hE
    exact retR X dX5_nthRow_14
theorem o5_figureOf : oS yX5_figureOf cX5_figureOf 5 (some .int) 3 := ⟨tw466, tw465, tw39, ⟨by decide +kernel, by decide +kernel⟩, by decide +kernel⟩
abbrev rm5_figureOf : Room := { frames := 0, cells := 0, slots := 0, locals := 0 }
set_option maxHeartbeats 4000000 in
set_option maxRecDepth 100000 in
theorem c5_figureOf {l : Launch} {G : va_G} {cI cZ : ClassId} {v0 : Int32} {v1 : Int32} {v2 : Int32} {u : Int32} (hE : f5_figureOf v0 v1 v2 = some u) : Met l yX5_figureOf (Cond.code yX5_figureOf cX5_figureOf 5 (some .int) :: TB) rm5_figureOf (PcR G cI cZ [] ([.int v0, .int v1, .int v2] : List Value)) (QcRead u) 0 0 (fun _ => False) := by
  refine metR (own := RX5) (by decide +kernel) rfl (Nat.le_of_ble_eq_true rfl) ?_
  intro p e s m below meth c ls X hP hK hl
  have hl : lv_has ls 5 [(0, .int v0), (1, .int v1), (2, .int v2)] := hl
  unfold f5_figureOf at hE
  refine lv_iload_n X.1.1 X.1.2.1 dX5_figureOf_0 rfl (lv_at hl 0 rfl) ?_
  refine lv_istore_n (lv' := [(3, .int v0), (0, .int v0), (1, .int v1), (2, .int v2)]) X.1.1 X.1.2.1 dX5_figureOf_1 rfl hl (by decide) rfl (fun ls hl => ?_)
  refine lv_iload_n X.1.1 X.1.2.1 dX5_figureOf_2 rfl (lv_at hl 3 rfl) ?_
  refine lv_iconst (v := (iI 1)) X.1.1 X.1.2.1 dX5_figureOf_3 rfl ?_
  refine lv_iadd X.1.1 X.1.2.1 dX5_figureOf_4 ?_
  refine lv_istore (lv' := [(4, .int (v2 + (iI 1))), (3, .int v0), (0, .int v0), (1, .int v1), (2, .int v2)]) X.1.1 X.1.2.1 dX5_figureOf_5 hl (by decide) rfl (fun ls hl => ?_)
  have lp7 : ∀ (k : Int32 → Int32 → Option Int32), (∀ (v3_1001 : Int32) (v4_1001 : Int32) (ls : Array Slot), lv_has ls 5 [(0, .int v0), (1, .int v1), (2, .int v2), (3, .int v3_1001), (4, .int v4_1001)] → k v3_1001 v4_1001 = some u → W p l e rm5_figureOf s m ([.int v0, .int v1, .int v2] : List Value).toArray below meth c s.heap [] 0 0 (MQ below (QcRead u) ([.int v0, .int v1, .int v2] : List Value).toArray s 0 0 (fun _ => False)) (F0 m 24 ls [])) → ∀ (n : Nat) (v3_1001 : Int32) (v4_1001 : Int32) (ls : Array Slot), lv_has ls 5 [(0, .int v0), (1, .int v1), (2, .int v2), (3, .int v3_1001), (4, .int v4_1001)] → l5_figureOf_7 k v1 n v3_1001 v4_1001 = some u → W p l e rm5_figureOf s m ([.int v0, .int v1, .int v2] : List Value).toArray below meth c s.heap [] 0 0 (MQ below (QcRead u) ([.int v0, .int v1, .int v2] : List Value).toArray s 0 0 (fun _ => False)) (F0 m 7 ls []) := by
    intro k hex n
    induction n with
    | zero =>
      intro v3_1001 v4_1001 ls hl hE
      exact absurd (show (none : Option Int32) = some u from hE) (fun h => by cases h)
    | succ n ih =>
      intro v3_1001 v4_1001 ls hl hE
      rw [l5_figureOf_7] at hE
      refine lv_iload X.1.1 X.1.2.1 dX5_figureOf_7 (lv_at hl 4 rfl) ?_
      refine lv_iload_n X.1.1 X.1.2.1 dX5_figureOf_9 rfl (lv_at hl 1 rfl) ?_
      refine lv_icmp_ge (tgt := 24) X.1.1 X.1.2.1 dX5_figureOf_10 (by decide) (fun c_10 => ?_) (fun c_10 => ?_)
      · have hE := ite_t hE c_10
        exact hex v3_1001 v4_1001 ls (lv_sub hl [0, 1, 2, 3, 4] rfl) hE
      · have hE := ite_f hE c_10
        refine lv_iload_n X.1.1 X.1.2.1 dX5_figureOf_13 rfl (lv_at hl 3 rfl) ?_
        refine lv_bipush (v := (iI 10)) X.1.1 X.1.2.1 dX5_figureOf_14 (by decide) ?_
        refine lv_idiv X.1.1 X.1.2.1 dX5_figureOf_16 (by decide) ?_
        refine lv_istore_n (lv' := [(3, .int (v3_1001 / (iI 10))), (0, .int v0), (1, .int v1), (2, .int v2), (4, .int v4_1001)]) X.1.1 X.1.2.1 dX5_figureOf_17 rfl hl (by decide) rfl (fun ls hl => ?_)
        refine lv_iinc (v := (v4_1001 + (iI 1))) (lv' := [(4, .int (v4_1001 + (iI 1))), (3, .int (v3_1001 / (iI 10))), (0, .int v0), (1, .int v1), (2, .int v2)]) X.1.1 X.1.2.1 dX5_figureOf_18 hl (k := 4) rfl rfl (by decide) rfl (fun ls hl => ?_)
        refine lv_goto (tgt := 7) X.1.1 X.1.2.1 dX5_figureOf_21 (by decide) ?_
        exact ih (v3_1001 / (iI 10)) (v4_1001 + (iI 1)) ls (lv_sub hl [2, 3, 4, 1, 0] rfl) hE
  refine lp7 _ (fun v3_1001 v4_1001 ls hl hE => ?_) FU v0 (v2 + (iI 1)) ls (lv_sub hl [2, 3, 4, 1, 0] rfl) hE
  refine lv_iload_n X.1.1 X.1.2.1 dX5_figureOf_24 rfl (lv_at hl 3 rfl) ?_
  refine lv_bipush (v := (iI 10)) X.1.1 X.1.2.1 dX5_figureOf_25 (by decide) ?_
  refine r_irem X.1.1 X.1.2.1 dX5_figureOf_27 (by decide) ?_
  cases hE
  exact retR X dX5_figureOf_28
theorem o5_onlyLastBrings : oV yX5_onlyLastBrings RX5 cX5_onlyLastBrings 5 (some .boolean) 2 := ⟨tw459, tw458, tw7, tw39, ⟨by decide +kernel, by decide +kernel⟩, by decide +kernel⟩
abbrev rm5_onlyLastBrings : Room := { frames := 5, cells := 0, slots := 0, locals := 115 }
set_option maxHeartbeats 4000000 in
set_option maxRecDepth 100000 in
theorem c5_onlyLastBrings {l : Launch} {G : va_G} {cI cZ : ClassId} {q0 q1 q2 q3 q4 q5 q6 q7 q8 q9 q10 q11 q12 q13 q14 q15 q16 q17 q18 q19 : Nat} {lt : Nat → Int32} {ln : Int32} {ki : Nat → Int32} {sp : Nat → Int32} {tu : Nat → Int32} {wo : Int32} {th : Int32} {st : Nat → Int32} {ch : Int32} {ya : Int32} {ow : Int32} {ca : Int32} {hu : Int32} {le : Int32} {tst : Nat → Int32} {tch : Int32} {tya : Int32} {tow : Int32} {tca : Int32} {thu : Int32} {tle : Int32} {an : Nat → Int32} {sn : Nat → Int32} {kp : Nat → Int32} {so : Nat → Int32} {sf : Nat → Int32} {sc : Nat → Int32} {ss : Int32} {ai : Int32} {sd : Int64} {v1 : Int32} {v2 : Int32} {sz : Nat} {u : Int32 × (Nat → Int32) × Int32 × Int32 × Int32 × Int32 × Int32 × Int32} (hE : f5_onlyLastBrings v1 v2 ki sp tu th st ch ya ow ca hu le tst tya tow tca = some u) : Met l yX5_onlyLastBrings (Cond.code yX5_onlyLastBrings cX5_onlyLastBrings 5 (some .boolean) :: TB) rm5_onlyLastBrings (PcW G cI cZ (wB cI cZ q0 q1 q2 q3 q4 q5 q6 q7 q8 q9 q10 q11 q12 q13 q14 q15 q16 q17 q18 q19 lt ln ki sp tu wo th st ch ya ow ca hu le tst tch tya tow tca thu tle an sn kp so sf sc ss ai sd) sz ([.ref q0, .int v1, .int v2] : List Value)) (QW G (some (.int u.1)) (wB cI cZ q0 q1 q2 q3 q4 q5 q6 q7 q8 q9 q10 q11 q12 q13 q14 q15 q16 q17 q18 q19 lt ln ki sp tu wo th st ch ya ow ca hu le u.2.1 u.2.2.1 u.2.2.2.1 u.2.2.2.2.1 u.2.2.2.2.2.1 u.2.2.2.2.2.2.1 u.2.2.2.2.2.2.2 an sn kp so sf sc ss ai sd) (va_A (wB cI cZ q0 q1 q2 q3 q4 q5 q6 q7 q8 q9 q10 q11 q12 q13 q14 q15 q16 q17 q18 q19 lt ln ki sp tu wo th st ch ya ow ca hu le tst tch tya tow tca thu tle an sn kp so sf sc ss ai sd) sz)) 0 0 (va_A (wB cI cZ q0 q1 q2 q3 q4 q5 q6 q7 q8 q9 q10 q11 q12 q13 q14 q15 q16 q17 q18 q19 lt ln ki sp tu wo th st ch ya ow ca hu le tst tch tya tow tca thu tle an sn kp so sf sc ss ai sd) sz) := by
  refine metW (own := RX5) (by decide +kernel) rfl (Nat.le_of_ble_eq_true rfl) ?_
  intro p e s m below meth c ls A X hA hP hK hD hl
  have hS : va_S A s.heap s.heap [] := va_S.rf
  have hl : lv_has ls 5 [(0, .ref q0), (1, .int v1), (2, .int v2)] := hl
  unfold f5_onlyLastBrings at hE
  refine lv_aload_n X.1.1 X.1.2.1 dX5_onlyLastBrings_0 rfl (lv_at hl 0 rfl) ?_
  refine gf5_30 X hK hP 0 rfl rfl dX5_onlyLastBrings_1 ?_
  refine lv_aload_n X.1.1 X.1.2.1 dX5_onlyLastBrings_4 rfl (lv_at hl 0 rfl) ?_
  refine gf5_26 X hK hP 0 rfl rfl dX5_onlyLastBrings_5 ?_
  obtain ⟨u1001, e_u1001, hE⟩ := bd_some hE
  refine callWV (wsC := (wDD cI cZ q9 q10 q7 q8 tst tch tya tow tca thu tle st ch ya ow ca hu le)) (w1 := (wDD cI cZ q9 q10 q7 q8 u1001.1 u1001.2.1 u1001.2.2.1 u1001.2.2.2.1 u1001.2.2.2.2.1 u1001.2.2.2.2.2.1 u1001.2.2.2.2.2.2 st ch ya ow ca hu le)) (ws' := (wB cI cZ q0 q1 q2 q3 q4 q5 q6 q7 q8 q9 q10 q11 q12 q13 q14 q15 q16 q17 q18 q19 lt ln ki sp tu wo th st ch ya ow ca hu le u1001.1 u1001.2.1 u1001.2.2.1 u1001.2.2.2.1 u1001.2.2.2.2.1 u1001.2.2.2.2.2.1 u1001.2.2.2.2.2.2 an sn kp so sf sc ss ai sd)) (As := [.ref q7]) (rest := []) (ov := none) (st1 := []) (ci := 0) X (c0_copyFrom (l := l) e_u1001) o0_copyFrom tw460 ⟨rfl, rfl, Nat.le_of_ble_eq_true rfl, Nat.le_of_ble_eq_true rfl⟩ hP hK hD hS hA [9, 10, 7, 8] (by decide) rfl rfl rfl (wB_fst.trans wB_fst.symm) 9 rfl rfl rfl rfl hl rfl (by decide) ⟨Nat.le_refl _, Nat.le_refl _⟩ rfl dX5_onlyLastBrings_8 (fun H locs hP hD hS => ?_)
  refine lv_iconst (v := (iI 0)) X.1.1 X.1.2.1 dX5_onlyLastBrings_11 rfl ?_
  refine lv_istore_n (lv' := [(3, .int (iI 0)), (0, .ref q0), (1, .int v1), (2, .int v2)]) X.1.1 X.1.2.1 dX5_onlyLastBrings_12 rfl hl (by decide) rfl (fun ls hl => ?_)
  have lp13 : ∀ (k : Int32 → (Nat → Int32) → Int32 → Int32 → Int32 → Option (Int32 × (Nat → Int32) × Int32 × Int32 × Int32 × Int32 × Int32 × Int32)), (∀ (v3_1002 : Int32) (tst_1002 : Nat → Int32) (tya_1002 : Int32) (tow_1002 : Int32) (tca_1002 : Int32) (H : Heap) (locs : List Loc) (ls : Array Slot), va_P G vwCl (wB cI cZ q0 q1 q2 q3 q4 q5 q6 q7 q8 q9 q10 q11 q12 q13 q14 q15 q16 q17 q18 q19 lt ln ki sp tu wo th st ch ya ow ca hu le tst_1002 u1001.2.1 tya_1002 tow_1002 tca_1002 u1001.2.2.2.2.2.1 u1001.2.2.2.2.2.2 an sn kp so sf sc ss ai sd) H → va_D A (wB cI cZ q0 q1 q2 q3 q4 q5 q6 q7 q8 q9 q10 q11 q12 q13 q14 q15 q16 q17 q18 q19 lt ln ki sp tu wo th st ch ya ow ca hu le tst_1002 u1001.2.1 tya_1002 tow_1002 tca_1002 u1001.2.2.2.2.2.1 u1001.2.2.2.2.2.2 an sn kp so sf sc ss ai sd) → va_S A s.heap H locs → lv_has ls 5 [(0, .ref q0), (1, .int v1), (2, .int v2), (3, .int v3_1002)] → k v3_1002 tst_1002 tya_1002 tow_1002 tca_1002 = some u → W p l e rm5_onlyLastBrings s m ([.ref q0, .int v1, .int v2] : List Value).toArray below meth c H locs 0 0 (MQ below (QW G (some (.int u.1)) (wB cI cZ q0 q1 q2 q3 q4 q5 q6 q7 q8 q9 q10 q11 q12 q13 q14 q15 q16 q17 q18 q19 lt ln ki sp tu wo th st ch ya ow ca hu le u.2.1 u.2.2.1 u.2.2.2.1 u.2.2.2.2.1 u.2.2.2.2.2.1 u.2.2.2.2.2.2.1 u.2.2.2.2.2.2.2 an sn kp so sf sc ss ai sd) A) ([.ref q0, .int v1, .int v2] : List Value).toArray s 0 0 A) (F0 m 64 ls [])) → ∀ (n : Nat) (v3_1002 : Int32) (tst_1002 : Nat → Int32) (tya_1002 : Int32) (tow_1002 : Int32) (tca_1002 : Int32) (H : Heap) (locs : List Loc) (ls : Array Slot), va_P G vwCl (wB cI cZ q0 q1 q2 q3 q4 q5 q6 q7 q8 q9 q10 q11 q12 q13 q14 q15 q16 q17 q18 q19 lt ln ki sp tu wo th st ch ya ow ca hu le tst_1002 u1001.2.1 tya_1002 tow_1002 tca_1002 u1001.2.2.2.2.2.1 u1001.2.2.2.2.2.2 an sn kp so sf sc ss ai sd) H → va_D A (wB cI cZ q0 q1 q2 q3 q4 q5 q6 q7 q8 q9 q10 q11 q12 q13 q14 q15 q16 q17 q18 q19 lt ln ki sp tu wo th st ch ya ow ca hu le tst_1002 u1001.2.1 tya_1002 tow_1002 tca_1002 u1001.2.2.2.2.2.1 u1001.2.2.2.2.2.2 an sn kp so sf sc ss ai sd) → va_S A s.heap H locs → lv_has ls 5 [(0, .ref q0), (1, .int v1), (2, .int v2), (3, .int v3_1002)] → l5_onlyLastBrings_13 k v1 v2 ki sp tu th u1001.2.1 u1001.2.2.2.2.2.1 u1001.2.2.2.2.2.2 n v3_1002 tst_1002 tya_1002 tow_1002 tca_1002 = some u → W p l e rm5_onlyLastBrings s m ([.ref q0, .int v1, .int v2] : List Value).toArray below meth c H locs 0 0 (MQ below (QW G (some (.int u.1)) (wB cI cZ q0 q1 q2 q3 q4 q5 q6 q7 q8 q9 q10 q11 q12 q13 q14 q15 q16 q17 q18 q19 lt ln ki sp tu wo th st ch ya ow ca hu le u.2.1 u.2.2.1 u.2.2.2.1 u.2.2.2.2.1 u.2.2.2.2.2.1 u.2.2.2.2.2.2.1 u.2.2.2.2.2.2.2 an sn kp so sf sc ss ai sd) A) ([.ref q0, .int v1, .int v2] : List Value).toArray s 0 0 A) (F0 m 13 ls []) := by
    intro k hex n
    induction n with
    | zero =>
      intro v3_1002 tst_1002 tya_1002 tow_1002 tca_1002 H locs ls hP hD hS hl hE
      exact absurd (show (none : Option (Int32 × (Nat → Int32) × Int32 × Int32 × Int32 × Int32 × Int32 × Int32)) = some u from hE) (fun h => by cases h)
    | succ n ih =>
      intro v3_1002 tst_1002 tya_1002 tow_1002 tca_1002 H locs ls hP hD hS hl hE
      rw [l5_onlyLastBrings_13] at hE
      refine lv_iload_n X.1.1 X.1.2.1 dX5_onlyLastBrings_13 rfl (lv_at hl 3 rfl) ?_
      refine lv_iload_n X.1.1 X.1.2.1 dX5_onlyLastBrings_14 rfl (lv_at hl 1 rfl) ?_
      refine lv_icmp_ge (tgt := 64) X.1.1 X.1.2.1 dX5_onlyLastBrings_15 (by decide) (fun c_15 => ?_) (fun c_15 => ?_)
      · have hE := ite_t hE c_15
        exact hex v3_1002 tst_1002 tya_1002 tow_1002 tca_1002 H locs ls hP hD hS (lv_sub hl [0, 1, 2, 3] rfl) hE
      · have hE := ite_f hE c_15
        refine lv_aload_n X.1.1 X.1.2.1 dX5_onlyLastBrings_18 rfl (lv_at hl 0 rfl) ?_
        refine gf5_19 X hK hP 0 rfl rfl dX5_onlyLastBrings_19 ?_
        refine lv_aload_n X.1.1 X.1.2.1 dX5_onlyLastBrings_22 rfl (lv_at hl 0 rfl) ?_
        refine gf5_30 X hK hP 0 rfl rfl dX5_onlyLastBrings_23 ?_
        refine lv_iload_n X.1.1 X.1.2.1 dX5_onlyLastBrings_26 rfl (lv_at hl 2 rfl) ?_
        refine lv_iload_n X.1.1 X.1.2.1 dX5_onlyLastBrings_27 rfl (lv_at hl 1 rfl) ?_
        refine lv_iload_n X.1.1 X.1.2.1 dX5_onlyLastBrings_28 rfl (lv_at hl 3 rfl) ?_
        obtain ⟨u1003, e_u1003, hE⟩ := bd_some hE
        refine callRS (wsC := []) (As := [.int v2, .int v1, .int v3_1002]) (rest := [.ref q9, .ref q3]) (cI := cI) (cZ := cZ) X (c5_figureOf (l := l) (G := G) (cI := cI) (cZ := cZ) e_u1003) o5_figureOf tw464 ⟨rfl, rfl, Nat.le_of_ble_eq_true rfl, Nat.le_of_ble_eq_true rfl⟩ va_P_nil hK rfl hl rfl (Nat.le_of_ble_eq_true rfl) ⟨Nat.le_refl _, Nat.le_refl _⟩ dX5_onlyLastBrings_29 ?_
        refine lv_iconst (v := (iI 1)) X.1.1 X.1.2.1 dX5_onlyLastBrings_32 rfl ?_
        refine lv_isub X.1.1 X.1.2.1 dX5_onlyLastBrings_33 ?_
        obtain ⟨u1004, e_u1004, hE⟩ := bd_some hE
        refine callWV (wsC := (wFD cI cZ q3 q4 q5 q6 q9 q10 ki sp tu wo th tst_1002 u1001.2.1 tya_1002 tow_1002 tca_1002 u1001.2.2.2.2.2.1 u1001.2.2.2.2.2.2)) (w1 := (wFD cI cZ q3 q4 q5 q6 q9 q10 ki sp tu wo th u1004.2.1 u1001.2.1 u1004.2.2.1 u1004.2.2.2.1 u1004.2.2.2.2 u1001.2.2.2.2.2.1 u1001.2.2.2.2.2.2)) (ws' := (wB cI cZ q0 q1 q2 q3 q4 q5 q6 q7 q8 q9 q10 q11 q12 q13 q14 q15 q16 q17 q18 q19 lt ln ki sp tu wo th st ch ya ow ca hu le u1004.2.1 u1001.2.1 u1004.2.2.1 u1004.2.2.2.1 u1004.2.2.2.2 u1001.2.2.2.2.2.1 u1001.2.2.2.2.2.2 an sn kp so sf sc ss ai sd)) (As := [.ref q9, .int (u1003 - (iI 1))]) (rest := []) (ov := (some (.int u1004.1))) (st1 := [.int u1004.1]) (ci := 1) X (c1_callHim (l := l) e_u1004) o1_callHim tw374 ⟨rfl, rfl, Nat.le_of_ble_eq_true rfl, Nat.le_of_ble_eq_true rfl⟩ hP hK hD hS hA [3, 4, 5, 6, 9, 10] (by decide) rfl rfl rfl (wB_fst.trans wB_fst.symm) 3 rfl rfl rfl rfl hl rfl (by decide) ⟨Nat.le_refl _, Nat.le_refl _⟩ rfl dX5_onlyLastBrings_34 (fun H locs hP hD hS => ?_)
        refine lv_istore (lv' := [(4, .int u1004.1), (0, .ref q0), (1, .int v1), (2, .int v2), (3, .int v3_1002)]) X.1.1 X.1.2.1 dX5_onlyLastBrings_37 hl (by decide) rfl (fun ls hl => ?_)
        refine lv_iload X.1.1 X.1.2.1 dX5_onlyLastBrings_39 (lv_at hl 0 rfl) ?_
        refine lv_iload_n X.1.1 X.1.2.1 dX5_onlyLastBrings_41 rfl (lv_at hl 4 rfl) ?_
        refine lv_iload_n X.1.1 X.1.2.1 dX5_onlyLastBrings_42 rfl (lv_at hl 2 rfl) ?_
        refine lv_iconst (v := (iI 1)) X.1.1 X.1.2.1 dX5_onlyLastBrings_43 rfl ?_
        refine lv_isub X.1.1 X.1.2.1 dX5_onlyLastBrings_44 ?_
        refine lv_icmp_ne (tgt := 52) X.1.1 X.1.2.1 dX5_onlyLastBrings_45 (by decide) (fun c_45 => ?_) (fun c_45 => ?_)
        · have hE := ite_f hE c_45
          refine lv_iconst (v := (iI 0)) X.1.1 X.1.2.1 dX5_onlyLastBrings_52 rfl ?_
          refine lv_icmp_eq (tgt := 58) X.1.1 X.1.2.1 dX5_onlyLastBrings_53 (by decide) (fun c_53 => ?_) (fun c_53 => ?_)
          · have hE := ite_t hE c_53
            refine lv_iinc (v := (v3_1002 + (iI 1))) (lv' := [(3, .int (v3_1002 + (iI 1))), (4, .int u1004.1), (0, .ref q0), (1, .int v1), (2, .int v2)]) X.1.1 X.1.2.1 dX5_onlyLastBrings_58 hl (k := 4) rfl rfl (by decide) rfl (fun ls hl => ?_)
            refine lv_goto (tgt := 13) X.1.1 X.1.2.1 dX5_onlyLastBrings_61 (by decide) ?_
            exact ih (v3_1002 + (iI 1)) u1004.2.1 u1004.2.2.1 u1004.2.2.2.1 u1004.2.2.2.2 H locs ls hP hD hS (lv_sub hl [2, 3, 4, 0] rfl) hE
          · have hE := ite_f hE c_53
            refine lv_iconst (v := (iI 0)) X.1.1 X.1.2.1 dX5_onlyLastBrings_56 rfl ?_
            cases hE
            exact retWZ X hP hS okB_0 dX5_onlyLastBrings_57
        · have hE := ite_t hE c_45
          refine lv_iconst (v := (iI 1)) X.1.1 X.1.2.1 dX5_onlyLastBrings_48 rfl ?_
          refine lv_goto (tgt := 53) X.1.1 X.1.2.1 dX5_onlyLastBrings_49 (by decide) ?_
          refine lv_icmp_eq (tgt := 58) X.1.1 X.1.2.1 dX5_onlyLastBrings_53 (by decide) (fun c_53 => ?_) (fun c_53 => ?_)
          · have hE := ite_t hE c_53
            refine lv_iinc (v := (v3_1002 + (iI 1))) (lv' := [(3, .int (v3_1002 + (iI 1))), (4, .int u1004.1), (0, .ref q0), (1, .int v1), (2, .int v2)]) X.1.1 X.1.2.1 dX5_onlyLastBrings_58 hl (k := 4) rfl rfl (by decide) rfl (fun ls hl => ?_)
            refine lv_goto (tgt := 13) X.1.1 X.1.2.1 dX5_onlyLastBrings_61 (by decide) ?_
            exact ih (v3_1002 + (iI 1)) u1004.2.1 u1004.2.2.1 u1004.2.2.2.1 u1004.2.2.2.2 H locs ls hP hD hS (lv_sub hl [2, 3, 4, 0] rfl) hE
          · have hE := ite_f hE c_53
            refine lv_iconst (v := (iI 0)) X.1.1 X.1.2.1 dX5_onlyLastBrings_56 rfl ?_
            cases hE
            exact retWZ X hP hS okB_0 dX5_onlyLastBrings_57
  refine lp13 _ (fun v3_1002 tst_1002 tya_1002 tow_1002 tca_1002 H locs ls hP hD hS hl hE => ?_) FU (iI 0) u1001.1 u1001.2.2.1 u1001.2.2.2.1 u1001.2.2.2.2.1 _ _ ls hP hD hS (lv_sub hl [1, 2, 3, 0] rfl) hE
  refine lv_iconst (v := (iI 1)) X.1.1 X.1.2.1 dX5_onlyLastBrings_64 rfl ?_
  cases hE
  exact retWZ X hP hS okB_1 dX5_onlyLastBrings_65
theorem o5_fewest : oV yX5_fewest RX5 cX5_fewest 6 (some .int) 1 := ⟨tw451, tw449, tw450, tw39, ⟨by decide +kernel, by decide +kernel⟩, by decide +kernel⟩
abbrev rm5_fewest : Room := { frames := 6, cells := 0, slots := 0, locals := 139 }
set_option maxHeartbeats 4000000 in
set_option maxRecDepth 100000 in
theorem c5_fewest {l : Launch} {G : va_G} {cI cZ : ClassId} {q0 q1 q2 q3 q4 q5 q6 q7 q8 q9 q10 q11 q12 q13 q14 q15 q16 q17 q18 q19 : Nat} {lt : Nat → Int32} {ln : Int32} {ki : Nat → Int32} {sp : Nat → Int32} {tu : Nat → Int32} {wo : Int32} {th : Int32} {st : Nat → Int32} {ch : Int32} {ya : Int32} {ow : Int32} {ca : Int32} {hu : Int32} {le : Int32} {tst : Nat → Int32} {tch : Int32} {tya : Int32} {tow : Int32} {tca : Int32} {thu : Int32} {tle : Int32} {an : Nat → Int32} {sn : Nat → Int32} {kp : Nat → Int32} {so : Nat → Int32} {sf : Nat → Int32} {sc : Nat → Int32} {ss : Int32} {ai : Int32} {sd : Int64} {v1 : Int32} {sz : Nat} {u : Int32 × (Nat → Int32) × Int32 × Int32 × Int32 × Int32 × Int32 × Int32} (hE : f5_fewest v1 ki sp tu wo th st ch ya ow ca hu le tst tch tya tow tca thu tle = some u) : Met l yX5_fewest (Cond.code yX5_fewest cX5_fewest 6 (some .int) :: TB) rm5_fewest (PcW G cI cZ (wB cI cZ q0 q1 q2 q3 q4 q5 q6 q7 q8 q9 q10 q11 q12 q13 q14 q15 q16 q17 q18 q19 lt ln ki sp tu wo th st ch ya ow ca hu le tst tch tya tow tca thu tle an sn kp so sf sc ss ai sd) sz ([.ref q0, .int v1] : List Value)) (QW G (some (.int u.1)) (wB cI cZ q0 q1 q2 q3 q4 q5 q6 q7 q8 q9 q10 q11 q12 q13 q14 q15 q16 q17 q18 q19 lt ln ki sp tu wo th st ch ya ow ca hu le u.2.1 u.2.2.1 u.2.2.2.1 u.2.2.2.2.1 u.2.2.2.2.2.1 u.2.2.2.2.2.2.1 u.2.2.2.2.2.2.2 an sn kp so sf sc ss ai sd) (va_A (wB cI cZ q0 q1 q2 q3 q4 q5 q6 q7 q8 q9 q10 q11 q12 q13 q14 q15 q16 q17 q18 q19 lt ln ki sp tu wo th st ch ya ow ca hu le tst tch tya tow tca thu tle an sn kp so sf sc ss ai sd) sz)) 0 0 (va_A (wB cI cZ q0 q1 q2 q3 q4 q5 q6 q7 q8 q9 q10 q11 q12 q13 q14 q15 q16 q17 q18 q19 lt ln ki sp tu wo th st ch ya ow ca hu le tst tch tya tow tca thu tle an sn kp so sf sc ss ai sd) sz) := by
  refine metW (own := RX5) (by decide +kernel) rfl (Nat.le_of_ble_eq_true rfl) ?_
  intro p e s m below meth c ls A X hA hP hK hD hl
  have hS : va_S A s.heap s.heap [] := va_S.rf
  have hl : lv_has ls 6 [(0, .ref q0), (1, .int v1)] := hl
  unfold f5_fewest at hE
  refine lv_aload_n X.1.1 X.1.2.1 dX5_fewest_0 rfl (lv_at hl 0 rfl) ?_
  refine gf5_26 X hK hP 0 rfl rfl dX5_fewest_1 ?_
  refine gf5_154 X hK hP 7 rfl rfl dX5_fewest_4 ?_
  refine lv_if_eq (tgt := 13) X.1.1 X.1.2.1 dX5_fewest_7 (by decide) (fun c_7 => ?_) (fun c_7 => ?_)
  · have hE := ite_t hE c_7
    refine lv_iconst (v := (iI 1)) X.1.1 X.1.2.1 dX5_fewest_13 rfl ?_
    refine lv_istore_n (lv' := [(2, .int (iI 1)), (0, .ref q0), (1, .int v1)]) X.1.1 X.1.2.1 dX5_fewest_14 rfl hl (by decide) rfl (fun ls hl => ?_)
    refine lv_iconst (v := (iI 1)) X.1.1 X.1.2.1 dX5_fewest_15 rfl ?_
    refine lv_istore_n (lv' := [(3, .int (iI 1)), (2, .int (iI 1)), (0, .ref q0), (1, .int v1)]) X.1.1 X.1.2.1 dX5_fewest_16 rfl hl (by decide) rfl (fun ls hl => ?_)
    have lp17 : ∀ (k : Int32 → Int32 → (Nat → Int32) → Int32 → Int32 → Int32 → Int32 → Int32 → Int32 → Option (Int32 × (Nat → Int32) × Int32 × Int32 × Int32 × Int32 × Int32 × Int32)), (∀ (v2_1001 : Int32) (v3_1001 : Int32) (tst_1001 : Nat → Int32) (tch_1001 : Int32) (tya_1001 : Int32) (tow_1001 : Int32) (tca_1001 : Int32) (thu_1001 : Int32) (tle_1001 : Int32) (H : Heap) (locs : List Loc) (ls : Array Slot), va_P G vwCl (wB cI cZ q0 q1 q2 q3 q4 q5 q6 q7 q8 q9 q10 q11 q12 q13 q14 q15 q16 q17 q18 q19 lt ln ki sp tu wo th st ch ya ow ca hu le tst_1001 tch_1001 tya_1001 tow_1001 tca_1001 thu_1001 tle_1001 an sn kp so sf sc ss ai sd) H → va_D A (wB cI cZ q0 q1 q2 q3 q4 q5 q6 q7 q8 q9 q10 q11 q12 q13 q14 q15 q16 q17 q18 q19 lt ln ki sp tu wo th st ch ya ow ca hu le tst_1001 tch_1001 tya_1001 tow_1001 tca_1001 thu_1001 tle_1001 an sn kp so sf sc ss ai sd) → va_S A s.heap H locs → lv_has ls 6 [(0, .ref q0), (1, .int v1), (2, .int v2_1001), (3, .int v3_1001)] → k v2_1001 v3_1001 tst_1001 tch_1001 tya_1001 tow_1001 tca_1001 thu_1001 tle_1001 = some u → W p l e rm5_fewest s m ([.ref q0, .int v1] : List Value).toArray below meth c H locs 0 0 (MQ below (QW G (some (.int u.1)) (wB cI cZ q0 q1 q2 q3 q4 q5 q6 q7 q8 q9 q10 q11 q12 q13 q14 q15 q16 q17 q18 q19 lt ln ki sp tu wo th st ch ya ow ca hu le u.2.1 u.2.2.1 u.2.2.2.1 u.2.2.2.2.1 u.2.2.2.2.2.1 u.2.2.2.2.2.2.1 u.2.2.2.2.2.2.2 an sn kp so sf sc ss ai sd) A) ([.ref q0, .int v1] : List Value).toArray s 0 0 A) (F0 m 83 ls [])) → ∀ (n : Nat) (v2_1001 : Int32) (v3_1001 : Int32) (tst_1001 : Nat → Int32) (tch_1001 : Int32) (tya_1001 : Int32) (tow_1001 : Int32) (tca_1001 : Int32) (thu_1001 : Int32) (tle_1001 : Int32) (H : Heap) (locs : List Loc) (ls : Array Slot), va_P G vwCl (wB cI cZ q0 q1 q2 q3 q4 q5 q6 q7 q8 q9 q10 q11 q12 q13 q14 q15 q16 q17 q18 q19 lt ln ki sp tu wo th st ch ya ow ca hu le tst_1001 tch_1001 tya_1001 tow_1001 tca_1001 thu_1001 tle_1001 an sn kp so sf sc ss ai sd) H → va_D A (wB cI cZ q0 q1 q2 q3 q4 q5 q6 q7 q8 q9 q10 q11 q12 q13 q14 q15 q16 q17 q18 q19 lt ln ki sp tu wo th st ch ya ow ca hu le tst_1001 tch_1001 tya_1001 tow_1001 tca_1001 thu_1001 tle_1001 an sn kp so sf sc ss ai sd) → va_S A s.heap H locs → lv_has ls 6 [(0, .ref q0), (1, .int v1), (2, .int v2_1001), (3, .int v3_1001)] → l5_fewest_17 k v1 ki sp tu wo th st ch ya ow ca hu le n v2_1001 v3_1001 tst_1001 tch_1001 tya_1001 tow_1001 tca_1001 thu_1001 tle_1001 = some u → W p l e rm5_fewest s m ([.ref q0, .int v1] : List Value).toArray below meth c H locs 0 0 (MQ below (QW G (some (.int u.1)) (wB cI cZ q0 q1 q2 q3 q4 q5 q6 q7 q8 q9 q10 q11 q12 q13 q14 q15 q16 q17 q18 q19 lt ln ki sp tu wo th st ch ya ow ca hu le u.2.1 u.2.2.1 u.2.2.2.1 u.2.2.2.2.1 u.2.2.2.2.2.1 u.2.2.2.2.2.2.1 u.2.2.2.2.2.2.2 an sn kp so sf sc ss ai sd) A) ([.ref q0, .int v1] : List Value).toArray s 0 0 A) (F0 m 17 ls []) := by
      intro k hex n
      induction n with
      | zero =>
        intro v2_1001 v3_1001 tst_1001 tch_1001 tya_1001 tow_1001 tca_1001 thu_1001 tle_1001 H locs ls hP hD hS hl hE
        exact absurd (show (none : Option (Int32 × (Nat → Int32) × Int32 × Int32 × Int32 × Int32 × Int32 × Int32)) = some u from hE) (fun h => by cases h)
      | succ n ih =>
        intro v2_1001 v3_1001 tst_1001 tch_1001 tya_1001 tow_1001 tca_1001 thu_1001 tle_1001 H locs ls hP hD hS hl hE
        rw [l5_fewest_17] at hE
        refine lv_iload_n X.1.1 X.1.2.1 dX5_fewest_17 rfl (lv_at hl 3 rfl) ?_
        refine lv_iconst (v := (iI 4)) X.1.1 X.1.2.1 dX5_fewest_18 rfl ?_
        refine lv_icmp_gt (tgt := 83) X.1.1 X.1.2.1 dX5_fewest_19 (by decide) (fun c_19 => ?_) (fun c_19 => ?_)
        · have hE := ite_t hE c_19
          exact hex v2_1001 v3_1001 tst_1001 tch_1001 tya_1001 tow_1001 tca_1001 thu_1001 tle_1001 H locs ls hP hD hS (lv_sub hl [0, 1, 2, 3] rfl) hE
        · have hE := ite_f hE c_19
          refine lv_iload_n X.1.1 X.1.2.1 dX5_fewest_22 rfl (lv_at hl 2 rfl) ?_
          refine lv_aload_n X.1.1 X.1.2.1 dX5_fewest_23 rfl (lv_at hl 0 rfl) ?_
          refine gf5_19 X hK hP 0 rfl rfl dX5_fewest_24 ?_
          refine gf5_92 X hK hP 3 rfl rfl dX5_fewest_27 ?_
          refine lv_imul X.1.1 X.1.2.1 dX5_fewest_30 ?_
          refine lv_istore_n (lv' := [(2, .int (v2_1001 * wo)), (0, .ref q0), (1, .int v1), (3, .int v3_1001)]) X.1.1 X.1.2.1 dX5_fewest_31 rfl hl (by decide) rfl (fun ls hl => ?_)
          refine lv_iconst (v := (iI 0)) X.1.1 X.1.2.1 dX5_fewest_32 rfl ?_
          refine lv_istore (lv' := [(4, .int (iI 0)), (2, .int (v2_1001 * wo)), (0, .ref q0), (1, .int v1), (3, .int v3_1001)]) X.1.1 X.1.2.1 dX5_fewest_33 hl (by decide) rfl (fun ls hl => ?_)
          have lp35 : ∀ (k : Int32 → (Nat → Int32) → Int32 → Int32 → Int32 → Int32 → Int32 → Int32 → Option (Int32 × (Nat → Int32) × Int32 × Int32 × Int32 × Int32 × Int32 × Int32)), (∀ (v4_1002 : Int32) (tst_1002 : Nat → Int32) (tch_1002 : Int32) (tya_1002 : Int32) (tow_1002 : Int32) (tca_1002 : Int32) (thu_1002 : Int32) (tle_1002 : Int32) (H : Heap) (locs : List Loc) (ls : Array Slot), va_P G vwCl (wB cI cZ q0 q1 q2 q3 q4 q5 q6 q7 q8 q9 q10 q11 q12 q13 q14 q15 q16 q17 q18 q19 lt ln ki sp tu wo th st ch ya ow ca hu le tst_1002 tch_1002 tya_1002 tow_1002 tca_1002 thu_1002 tle_1002 an sn kp so sf sc ss ai sd) H → va_D A (wB cI cZ q0 q1 q2 q3 q4 q5 q6 q7 q8 q9 q10 q11 q12 q13 q14 q15 q16 q17 q18 q19 lt ln ki sp tu wo th st ch ya ow ca hu le tst_1002 tch_1002 tya_1002 tow_1002 tca_1002 thu_1002 tle_1002 an sn kp so sf sc ss ai sd) → va_S A s.heap H locs → lv_has ls 6 [(0, .ref q0), (1, .int v1), (2, .int (v2_1001 * wo)), (3, .int v3_1001), (4, .int v4_1002)] → k v4_1002 tst_1002 tch_1002 tya_1002 tow_1002 tca_1002 thu_1002 tle_1002 = some u → W p l e rm5_fewest s m ([.ref q0, .int v1] : List Value).toArray below meth c H locs 0 0 (MQ below (QW G (some (.int u.1)) (wB cI cZ q0 q1 q2 q3 q4 q5 q6 q7 q8 q9 q10 q11 q12 q13 q14 q15 q16 q17 q18 q19 lt ln ki sp tu wo th st ch ya ow ca hu le u.2.1 u.2.2.1 u.2.2.2.1 u.2.2.2.2.1 u.2.2.2.2.2.1 u.2.2.2.2.2.2.1 u.2.2.2.2.2.2.2 an sn kp so sf sc ss ai sd) A) ([.ref q0, .int v1] : List Value).toArray s 0 0 A) (F0 m 77 ls [])) → ∀ (n : Nat) (v4_1002 : Int32) (tst_1002 : Nat → Int32) (tch_1002 : Int32) (tya_1002 : Int32) (tow_1002 : Int32) (tca_1002 : Int32) (thu_1002 : Int32) (tle_1002 : Int32) (H : Heap) (locs : List Loc) (ls : Array Slot), va_P G vwCl (wB cI cZ q0 q1 q2 q3 q4 q5 q6 q7 q8 q9 q10 q11 q12 q13 q14 q15 q16 q17 q18 q19 lt ln ki sp tu wo th st ch ya ow ca hu le tst_1002 tch_1002 tya_1002 tow_1002 tca_1002 thu_1002 tle_1002 an sn kp so sf sc ss ai sd) H → va_D A (wB cI cZ q0 q1 q2 q3 q4 q5 q6 q7 q8 q9 q10 q11 q12 q13 q14 q15 q16 q17 q18 q19 lt ln ki sp tu wo th st ch ya ow ca hu le tst_1002 tch_1002 tya_1002 tow_1002 tca_1002 thu_1002 tle_1002 an sn kp so sf sc ss ai sd) → va_S A s.heap H locs → lv_has ls 6 [(0, .ref q0), (1, .int v1), (2, .int (v2_1001 * wo)), (3, .int v3_1001), (4, .int v4_1002)] → l5_fewest_35 k v1 (v2_1001 * wo) v3_1001 ki sp tu wo th st ch ya ow ca hu le n v4_1002 tst_1002 tch_1002 tya_1002 tow_1002 tca_1002 thu_1002 tle_1002 = some u → W p l e rm5_fewest s m ([.ref q0, .int v1] : List Value).toArray below meth c H locs 0 0 (MQ below (QW G (some (.int u.1)) (wB cI cZ q0 q1 q2 q3 q4 q5 q6 q7 q8 q9 q10 q11 q12 q13 q14 q15 q16 q17 q18 q19 lt ln ki sp tu wo th st ch ya ow ca hu le u.2.1 u.2.2.1 u.2.2.2.1 u.2.2.2.2.1 u.2.2.2.2.2.1 u.2.2.2.2.2.2.1 u.2.2.2.2.2.2.2 an sn kp so sf sc ss ai sd) A) ([.ref q0, .int v1] : List Value).toArray s 0 0 A) (F0 m 35 ls []) := by
            intro k hex n
            induction n with
            | zero =>
              intro v4_1002 tst_1002 tch_1002 tya_1002 tow_1002 tca_1002 thu_1002 tle_1002 H locs ls hP hD hS hl hE
              exact absurd (show (none : Option (Int32 × (Nat → Int32) × Int32 × Int32 × Int32 × Int32 × Int32 × Int32)) = some u from hE) (fun h => by cases h)
            | succ n ih =>
              intro v4_1002 tst_1002 tch_1002 tya_1002 tow_1002 tca_1002 thu_1002 tle_1002 H locs ls hP hD hS hl hE
              rw [l5_fewest_35] at hE
              refine lv_iload X.1.1 X.1.2.1 dX5_fewest_35 (lv_at hl 4 rfl) ?_
              refine lv_iload_n X.1.1 X.1.2.1 dX5_fewest_37 rfl (lv_at hl 2 rfl) ?_
              refine lv_icmp_ge (tgt := 77) X.1.1 X.1.2.1 dX5_fewest_38 (by decide) (fun c_38 => ?_) (fun c_38 => ?_)
              · have hE := ite_t hE c_38
                exact hex v4_1002 tst_1002 tch_1002 tya_1002 tow_1002 tca_1002 thu_1002 tle_1002 H locs ls hP hD hS (lv_sub hl [0, 1, 2, 3, 4] rfl) hE
              · have hE := ite_f hE c_38
                refine lv_aload_n X.1.1 X.1.2.1 dX5_fewest_41 rfl (lv_at hl 0 rfl) ?_
                refine lv_iload X.1.1 X.1.2.1 dX5_fewest_42 (lv_at hl 4 rfl) ?_
                refine lv_iload_n X.1.1 X.1.2.1 dX5_fewest_44 rfl (lv_at hl 3 rfl) ?_
                obtain ⟨u1003, e_u1003, hE⟩ := bd_some hE
                refine callRV (wsC := (wB cI cZ q0 q1 q2 q3 q4 q5 q6 q7 q8 q9 q10 q11 q12 q13 q14 q15 q16 q17 q18 q19 lt ln ki sp tu wo th st ch ya ow ca hu le tst_1002 tch_1002 tya_1002 tow_1002 tca_1002 thu_1002 tle_1002 an sn kp so sf sc ss ai sd)) (As := [.int v4_1002, .int v3_1001]) (rest := []) (ci := 5) X (c5_nthRow (l := l) e_u1003) o5_nthRow tw452 ⟨rfl, rfl, Nat.le_of_ble_eq_true rfl, Nat.le_of_ble_eq_true rfl⟩ hP hK 0 rfl rfl rfl rfl hl rfl (by decide) ⟨Nat.le_refl _, Nat.le_refl _⟩ dX5_fewest_45 ?_
                refine lv_istore (lv' := [(5, .int u1003), (0, .ref q0), (1, .int v1), (2, .int (v2_1001 * wo)), (3, .int v3_1001), (4, .int v4_1002)]) X.1.1 X.1.2.1 dX5_fewest_48 hl (by decide) rfl (fun ls hl => ?_)
                refine lv_aload_n X.1.1 X.1.2.1 dX5_fewest_50 rfl (lv_at hl 1 rfl) ?_
                refine lv_iload_n X.1.1 X.1.2.1 dX5_fewest_51 rfl (lv_at hl 4 rfl) ?_
                refine lv_iload X.1.1 X.1.2.1 dX5_fewest_52 (lv_at hl 0 rfl) ?_
                obtain ⟨u1004, e_u1004, hE⟩ := bd_some hE
                refine callWF (ws := (wB cI cZ q0 q1 q2 q3 q4 q5 q6 q7 q8 q9 q10 q11 q12 q13 q14 q15 q16 q17 q18 q19 lt ln ki sp tu wo th st ch ya ow ca hu le tst_1002 tch_1002 tya_1002 tow_1002 tca_1002 thu_1002 tle_1002 an sn kp so sf sc ss ai sd)) (ws' := (wB cI cZ q0 q1 q2 q3 q4 q5 q6 q7 q8 q9 q10 q11 q12 q13 q14 q15 q16 q17 q18 q19 lt ln ki sp tu wo th st ch ya ow ca hu le u1004.2.1 u1004.2.2.1 u1004.2.2.2.1 u1004.2.2.2.2.1 u1004.2.2.2.2.2.1 u1004.2.2.2.2.2.2.1 u1004.2.2.2.2.2.2.2 an sn kp so sf sc ss ai sd)) (As := [.int v3_1001, .int u1003]) (rest := []) (ov := (some (.int u1004.1))) (st1 := [.int u1004.1]) (ci := 5) X (c5_onlyLastBrings (l := l) e_u1004) o5_onlyLastBrings tw456 ⟨rfl, rfl, Nat.le_of_ble_eq_true rfl, Nat.le_of_ble_eq_true rfl⟩ hP hK hD hS hA (wB_fst.trans wB_fst.symm) 0 rfl rfl rfl rfl hl rfl (by decide) ⟨Nat.le_refl _, Nat.le_refl _⟩ rfl dX5_fewest_54 (fun H locs hP hD hS => ?_)
                refine lv_if_eq (tgt := 71) X.1.1 X.1.2.1 dX5_fewest_57 (by decide) (fun c_57 => ?_) (fun c_57 => ?_)
                · have hE := ite_t hE c_57
                  refine lv_iinc (v := (v4_1002 + (iI 1))) (lv' := [(4, .int (v4_1002 + (iI 1))), (5, .int u1003), (0, .ref q0), (1, .int v1), (2, .int (v2_1001 * wo)), (3, .int v3_1001)]) X.1.1 X.1.2.1 dX5_fewest_71 hl (k := 5) rfl rfl (by decide) rfl (fun ls hl => ?_)
                  refine lv_goto (tgt := 35) X.1.1 X.1.2.1 dX5_fewest_74 (by decide) ?_
                  exact ih (v4_1002 + (iI 1)) u1004.2.1 u1004.2.2.1 u1004.2.2.2.1 u1004.2.2.2.2.1 u1004.2.2.2.2.2.1 u1004.2.2.2.2.2.2.1 u1004.2.2.2.2.2.2.2 H locs ls hP hD hS (lv_sub hl [2, 3, 4, 5, 0] rfl) hE
                · have hE := ite_f hE c_57
                  refine lv_iload_n X.1.1 X.1.2.1 dX5_fewest_60 rfl (lv_at hl 2 rfl) ?_
                  refine lv_if_eq (tgt := 69) X.1.1 X.1.2.1 dX5_fewest_61 (by decide) (fun c_61 => ?_) (fun c_61 => ?_)
                  · have hE := ite_t hE c_61
                    refine lv_iload_n X.1.1 X.1.2.1 dX5_fewest_69 rfl (lv_at hl 4 rfl) ?_
                    cases hE
                    exact retW X hP hS dX5_fewest_70
                  · have hE := ite_f hE c_61
                    refine lv_iload X.1.1 X.1.2.1 dX5_fewest_64 (lv_at hl 0 rfl) ?_
                    refine lv_goto (tgt := 70) X.1.1 X.1.2.1 dX5_fewest_66 (by decide) ?_
                    cases hE
                    exact retW X hP hS dX5_fewest_70
          refine lp35 _ (fun v4_1002 tst_1002 tch_1002 tya_1002 tow_1002 tca_1002 thu_1002 tle_1002 H locs ls hP hD hS hl hE => ?_) FU (iI 0) tst_1001 tch_1001 tya_1001 tow_1001 tca_1001 thu_1001 tle_1001 _ _ ls hP hD hS (lv_sub hl [2, 3, 1, 4, 0] rfl) hE
          refine lv_iinc (v := (v3_1001 + (iI 1))) (lv' := [(3, .int (v3_1001 + (iI 1))), (0, .ref q0), (1, .int v1), (2, .int (v2_1001 * wo)), (4, .int v4_1002)]) X.1.1 X.1.2.1 dX5_fewest_77 hl (k := 3) rfl rfl (by decide) rfl (fun ls hl => ?_)
          refine lv_goto (tgt := 17) X.1.1 X.1.2.1 dX5_fewest_80 (by decide) ?_
          exact ih (v2_1001 * wo) (v3_1001 + (iI 1)) tst_1002 tch_1002 tya_1002 tow_1002 tca_1002 thu_1002 tle_1002 H locs ls hP hD hS (lv_sub hl [1, 2, 3, 0] rfl) hE
    refine lp17 _ (fun v2_1001 v3_1001 tst_1001 tch_1001 tya_1001 tow_1001 tca_1001 thu_1001 tle_1001 H locs ls hP hD hS hl hE => ?_) FU (iI 1) (iI 1) tst tch tya tow tca thu tle _ _ ls hP hD hS (lv_sub hl [2, 3, 1, 0] rfl) hE
    refine lv_bipush (v := (iI (-9))) X.1.1 X.1.2.1 dX5_fewest_83 (by decide) ?_
    cases hE
    exact retW X hP hS dX5_fewest_85
  · have hE := ite_f hE c_7
    refine lv_bipush (v := (iI (-9))) X.1.1 X.1.2.1 dX5_fewest_10 (by decide) ?_
    cases hE
    exact retW X hP hS dX5_fewest_12
theorem o5_good : oV yX5_good RX5 cX5_good 6 (some .int) 2 := ⟨tw470, tw468, tw469, tw39, ⟨by decide +kernel, by decide +kernel⟩, by decide +kernel⟩
abbrev rm5_good : Room := { frames := 3, cells := 0, slots := 0, locals := 68 }
set_option maxHeartbeats 4000000 in
set_option maxRecDepth 100000 in
theorem c5_good {l : Launch} {G : va_G} {cI cZ : ClassId} {q0 q1 q2 q3 q4 q5 q6 q7 q8 q9 q10 q11 q12 q13 q14 q15 q16 q17 q18 q19 : Nat} {lt : Nat → Int32} {ln : Int32} {ki : Nat → Int32} {sp : Nat → Int32} {tu : Nat → Int32} {wo : Int32} {th : Int32} {st : Nat → Int32} {ch : Int32} {ya : Int32} {ow : Int32} {ca : Int32} {hu : Int32} {le : Int32} {tst : Nat → Int32} {tch : Int32} {tya : Int32} {tow : Int32} {tca : Int32} {thu : Int32} {tle : Int32} {an : Nat → Int32} {sn : Nat → Int32} {kp : Nat → Int32} {so : Nat → Int32} {sf : Nat → Int32} {sc : Nat → Int32} {ss : Int32} {ai : Int32} {sd : Int64} {v1 : Int32} {v2 : Int32} {u : Int32} (hE : f5_good v1 v2 ki sp tu wo th st hu = some u) : Met l yX5_good (Cond.code yX5_good cX5_good 6 (some .int) :: TB) rm5_good (PcR G cI cZ (wB cI cZ q0 q1 q2 q3 q4 q5 q6 q7 q8 q9 q10 q11 q12 q13 q14 q15 q16 q17 q18 q19 lt ln ki sp tu wo th st ch ya ow ca hu le tst tch tya tow tca thu tle an sn kp so sf sc ss ai sd) ([.ref q0, .int v1, .int v2] : List Value)) (QcRead u) 0 0 (fun _ => False) := by
  refine metR (own := RX5) (by decide +kernel) rfl (Nat.le_of_ble_eq_true rfl) ?_
  intro p e s m below meth c ls X hP hK hl
  have hl : lv_has ls 6 [(0, .ref q0), (1, .int v1), (2, .int v2)] := hl
  unfold f5_good at hE
  refine lv_aload_n X.1.1 X.1.2.1 dX5_good_0 rfl (lv_at hl 0 rfl) ?_
  refine gf5_19 X hK hP 0 rfl rfl dX5_good_1 ?_
  refine lv_iload_n X.1.1 X.1.2.1 dX5_good_4 rfl (lv_at hl 1 rfl) ?_
  obtain ⟨u1001, e_u1001, hE⟩ := bd_some hE
  refine callRV (wsC := (wF cI cZ q3 q4 q5 q6 ki sp tu wo th)) (As := [.int v1]) (rest := []) (ci := 1) X (c1_hasWord (l := l) e_u1001) o1_hasWord tw274 ⟨rfl, rfl, Nat.le_of_ble_eq_true rfl, Nat.le_of_ble_eq_true rfl⟩ (hP.sub [3, 4, 5, 6] rfl) hK 0 rfl rfl rfl rfl hl rfl (by decide) ⟨Nat.le_refl _, Nat.le_refl _⟩ dX5_good_5 ?_
  refine lv_if_ne (tgt := 13) X.1.1 X.1.2.1 dX5_good_8 (by decide) (fun c_8 => ?_) (fun c_8 => ?_)
  · have hE := ite_f hE c_8
    refine lv_iload_n X.1.1 X.1.2.1 dX5_good_13 rfl (lv_at hl 2 rfl) ?_
    obtain ⟨u1002, e_u1002, hE⟩ := bd_some hE
    refine callRS (wsC := []) (As := [.int v2]) (rest := []) (cI := cI) (cZ := cZ) X (c5_isNoYard (l := l) (G := G) (cI := cI) (cZ := cZ) e_u1002) o5_isNoYard tw348 ⟨rfl, rfl, Nat.le_of_ble_eq_true rfl, Nat.le_of_ble_eq_true rfl⟩ va_P_nil hK rfl hl rfl (by decide) ⟨Nat.le_refl _, Nat.le_refl _⟩ dX5_good_14 ?_
    refine lv_if_eq (tgt := 23) X.1.1 X.1.2.1 dX5_good_17 (by decide) (fun c_17 => ?_) (fun c_17 => ?_)
    · have hE := ite_t hE c_17
      refine lv_aload_n X.1.1 X.1.2.1 dX5_good_23 rfl (lv_at hl 0 rfl) ?_
      refine gf5_26 X hK hP 0 rfl rfl dX5_good_24 ?_
      refine lv_iload_n X.1.1 X.1.2.1 dX5_good_27 rfl (lv_at hl 1 rfl) ?_
      obtain ⟨u1003, e_u1003, hE⟩ := bd_some hE
      refine callRV (wsC := (wD cI cZ q7 q8 st ch ya ow ca hu le)) (As := [.int v1]) (rest := []) (ci := 0) X (c0_strengthOf (l := l) e_u1003) o0_strengthOf tw278 ⟨rfl, rfl, Nat.le_of_ble_eq_true rfl, Nat.le_of_ble_eq_true rfl⟩ (hP.sub [7, 8] rfl) hK 0 rfl rfl rfl rfl hl rfl (by decide) ⟨Nat.le_refl _, Nat.le_refl _⟩ dX5_good_28 ?_
      refine lv_istore_n (lv' := [(3, .int u1003), (0, .ref q0), (1, .int v1), (2, .int v2)]) X.1.1 X.1.2.1 dX5_good_31 rfl hl (by decide) rfl (fun ls hl => ?_)
      refine lv_iconst (v := (iI 0)) X.1.1 X.1.2.1 dX5_good_32 rfl ?_
      refine lv_istore (lv' := [(4, .int (iI 0)), (3, .int u1003), (0, .ref q0), (1, .int v1), (2, .int v2)]) X.1.1 X.1.2.1 dX5_good_33 hl (by decide) rfl (fun ls hl => ?_)
      have lp35 : ∀ (k : Int32 → Option Int32), (∀ (v4_1004 : Int32) (ls : Array Slot), lv_has ls 6 [(0, .ref q0), (1, .int v1), (2, .int v2), (3, .int u1003), (4, .int v4_1004)] → k v4_1004 = some u → W p l e rm5_good s m ([.ref q0, .int v1, .int v2] : List Value).toArray below meth c s.heap [] 0 0 (MQ below (QcRead u) ([.ref q0, .int v1, .int v2] : List Value).toArray s 0 0 (fun _ => False)) (F0 m 90 ls [])) → ∀ (n : Nat) (v4_1004 : Int32) (ls : Array Slot), lv_has ls 6 [(0, .ref q0), (1, .int v1), (2, .int v2), (3, .int u1003), (4, .int v4_1004)] → l5_good_35 k v1 v2 u1003 ki sp tu th hu n v4_1004 = some u → W p l e rm5_good s m ([.ref q0, .int v1, .int v2] : List Value).toArray below meth c s.heap [] 0 0 (MQ below (QcRead u) ([.ref q0, .int v1, .int v2] : List Value).toArray s 0 0 (fun _ => False)) (F0 m 35 ls []) := by
        intro k hex n
        induction n with
        | zero =>
          intro v4_1004 ls hl hE
          exact absurd (show (none : Option Int32) = some u from hE) (fun h => by cases h)
        | succ n ih =>
          intro v4_1004 ls hl hE
          rw [l5_good_35] at hE
          refine lv_iload_n X.1.1 X.1.2.1 dX5_good_35 rfl (lv_at hl 3 rfl) ?_
          refine lv_iload X.1.1 X.1.2.1 dX5_good_36 (lv_at hl 4 rfl) ?_
          refine lv_iadd X.1.1 X.1.2.1 dX5_good_38 ?_
          refine lv_bipush (v := (iI 9)) X.1.1 X.1.2.1 dX5_good_39 (by decide) ?_
          refine lv_icmp_gt (tgt := 90) X.1.1 X.1.2.1 dX5_good_41 (by decide) (fun c_41 => ?_) (fun c_41 => ?_)
          · have hE := ite_t hE c_41
            exact hex v4_1004 ls (lv_sub hl [0, 1, 2, 3, 4] rfl) hE
          · have hE := ite_f hE c_41
            refine lv_aload_n X.1.1 X.1.2.1 dX5_good_44 rfl (lv_at hl 0 rfl) ?_
            refine gf5_19 X hK hP 0 rfl rfl dX5_good_45 ?_
            refine lv_iload_n X.1.1 X.1.2.1 dX5_good_48 rfl (lv_at hl 3 rfl) ?_
            refine lv_iload X.1.1 X.1.2.1 dX5_good_49 (lv_at hl 4 rfl) ?_
            refine lv_iadd X.1.1 X.1.2.1 dX5_good_51 ?_
            refine lv_iload_n X.1.1 X.1.2.1 dX5_good_52 rfl (lv_at hl 1 rfl) ?_
            refine lv_aload_n X.1.1 X.1.2.1 dX5_good_53 rfl (lv_at hl 0 rfl) ?_
            refine gf5_26 X hK hP 0 rfl rfl dX5_good_54 ?_
            refine gf5_184 X hK hP 7 rfl rfl dX5_good_57 ?_
            refine lv_iload_n X.1.1 X.1.2.1 dX5_good_60 rfl (lv_at hl 2 rfl) ?_
            obtain ⟨u1005, e_u1005, hE⟩ := bd_some hE
            refine callRV (wsC := (wF cI cZ q3 q4 q5 q6 ki sp tu wo th)) (As := [.int (u1003 + v4_1004), .int v1, .int hu, .int v2]) (rest := []) (ci := 1) X (c1_powerWith (l := l) e_u1005) o1_powerWith tw471 ⟨rfl, rfl, Nat.le_of_ble_eq_true rfl, Nat.le_of_ble_eq_true rfl⟩ (hP.sub [3, 4, 5, 6] rfl) hK 0 rfl rfl rfl rfl hl rfl (by decide) ⟨Nat.le_refl _, Nat.le_refl _⟩ dX5_good_61 ?_
            refine lv_istore (lv' := [(5, .int u1005), (0, .ref q0), (1, .int v1), (2, .int v2), (3, .int u1003), (4, .int v4_1004)]) X.1.1 X.1.2.1 dX5_good_64 hl (by decide) rfl (fun ls hl => ?_)
            refine lv_aload_n X.1.1 X.1.2.1 dX5_good_66 rfl (lv_at hl 1 rfl) ?_
            refine gf5_19 X hK hP 0 rfl rfl dX5_good_67 ?_
            refine lv_iload X.1.1 X.1.2.1 dX5_good_70 (lv_at hl 0 rfl) ?_
            refine lv_iload_n X.1.1 X.1.2.1 dX5_good_72 rfl (lv_at hl 3 rfl) ?_
            refine lv_bipush (v := (iI 15)) X.1.1 X.1.2.1 dX5_good_73 (by decide) ?_
            obtain ⟨u1006, e_u1006, hE⟩ := bd_some hE
            refine callRV (wsC := (wF cI cZ q3 q4 q5 q6 ki sp tu wo th)) (As := [.int u1005, .int v2, .int (iI 15)]) (rest := []) (ci := 1) X (c1_isEnough (l := l) e_u1006) o1_isEnough tw472 ⟨rfl, rfl, Nat.le_of_ble_eq_true rfl, Nat.le_of_ble_eq_true rfl⟩ (hP.sub [3, 4, 5, 6] rfl) hK 0 rfl rfl rfl rfl hl rfl (by decide) ⟨Nat.le_refl _, Nat.le_refl _⟩ dX5_good_75 ?_
            refine lv_if_eq (tgt := 84) X.1.1 X.1.2.1 dX5_good_78 (by decide) (fun c_78 => ?_) (fun c_78 => ?_)
            · have hE := ite_t hE c_78
              refine lv_iinc (v := (v4_1004 + (iI 1))) (lv' := [(4, .int (v4_1004 + (iI 1))), (5, .int u1005), (0, .ref q0), (1, .int v1), (2, .int v2), (3, .int u1003)]) X.1.1 X.1.2.1 dX5_good_84 hl (k := 5) rfl rfl (by decide) rfl (fun ls hl => ?_)
              refine lv_goto (tgt := 35) X.1.1 X.1.2.1 dX5_good_87 (by decide) ?_
              exact ih (v4_1004 + (iI 1)) ls (lv_sub hl [2, 3, 4, 5, 0] rfl) hE
            · have hE := ite_f hE c_78
              refine lv_iload X.1.1 X.1.2.1 dX5_good_81 (lv_at hl 5 rfl) ?_
              cases hE
              exact retR X dX5_good_83
      refine lp35 _ (fun v4_1004 ls hl hE => ?_) FU (iI 0) ls (lv_sub hl [2, 3, 4, 1, 0] rfl) hE
      refine lv_bipush (v := (iI (-9))) X.1.1 X.1.2.1 dX5_good_90 (by decide) ?_
      cases hE
      exact retR X dX5_good_92
    · have hE := ite_f hE c_17
      refine lv_bipush (v := (iI (-2))) X.1.1 X.1.2.1 dX5_good_20 (by decide) ?_
      cases hE
      exact retR X dX5_good_22
  · have hE := ite_t hE c_8
    refine lv_iconst (v := (iI (-1))) X.1.1 X.1.2.1 dX5_good_11 rfl ?_
    cases hE
    exact retR X dX5_good_12
theorem o5_tenTo : oS yX5_tenTo cX5_tenTo 3 (some .int) 1 := ⟨tw479, tw478, tw39, ⟨by decide +kernel, by decide +kernel⟩, by decide +kernel⟩
abbrev rm5_tenTo : Room := { frames := 0, cells := 0, slots := 0, locals := 0 }
set_option maxHeartbeats 4000000 in
set_option maxRecDepth 100000 in
theorem c5_tenTo {l : Launch} {G : va_G} {cI cZ : ClassId} {v0 : Int32} {u : Int32} (hE : f5_tenTo v0 = some u) : Met l yX5_tenTo (Cond.code yX5_tenTo cX5_tenTo 3 (some .int) :: TB) rm5_tenTo (PcR G cI cZ [] ([.int v0] : List Value)) (QcRead u) 0 0 (fun _ => False) := by
  refine metR (own := RX5) (by decide +kernel) rfl (Nat.le_of_ble_eq_true rfl) ?_
  intro p e s m below meth c ls X hP hK hl
  have hl : lv_has ls 3 [(0, .int v0)] := hl
  unfold f5_tenTo at hE
  refine lv_iconst (v := (iI 1)) X.1.1 X.1.2.1 dX5_tenTo_0 rfl ?_
  refine lv_istore_n (lv' := [(1, .int (iI 1)), (0, .int v0)]) X.1.1 X.1.2.1 dX5_tenTo_1 rfl hl (by decide) rfl (fun ls hl => ?_)
  refine lv_iconst (v := (iI 0)) X.1.1 X.1.2.1 dX5_tenTo_2 rfl ?_
  refine lv_istore_n (lv' := [(2, .int (iI 0)), (1, .int (iI 1)), (0, .int v0)]) X.1.1 X.1.2.1 dX5_tenTo_3 rfl hl (by decide) rfl (fun ls hl => ?_)
  have lp4 : ∀ (k : Int32 → Int32 → Option Int32), (∀ (v1_1001 : Int32) (v2_1001 : Int32) (ls : Array Slot), lv_has ls 3 [(0, .int v0), (1, .int v1_1001), (2, .int v2_1001)] → k v1_1001 v2_1001 = some u → W p l e rm5_tenTo s m ([.int v0] : List Value).toArray below meth c s.heap [] 0 0 (MQ below (QcRead u) ([.int v0] : List Value).toArray s 0 0 (fun _ => False)) (F0 m 20 ls [])) → ∀ (n : Nat) (v1_1001 : Int32) (v2_1001 : Int32) (ls : Array Slot), lv_has ls 3 [(0, .int v0), (1, .int v1_1001), (2, .int v2_1001)] → l5_tenTo_4 k v0 n v1_1001 v2_1001 = some u → W p l e rm5_tenTo s m ([.int v0] : List Value).toArray below meth c s.heap [] 0 0 (MQ below (QcRead u) ([.int v0] : List Value).toArray s 0 0 (fun _ => False)) (F0 m 4 ls []) := by
    intro k hex n
    induction n with
    | zero =>
      intro v1_1001 v2_1001 ls hl hE
      exact absurd (show (none : Option Int32) = some u from hE) (fun h => by cases h)
    | succ n ih =>
      intro v1_1001 v2_1001 ls hl hE
      rw [l5_tenTo_4] at hE
      refine lv_iload_n X.1.1 X.1.2.1 dX5_tenTo_4 rfl (lv_at hl 2 rfl) ?_
      refine lv_iload_n X.1.1 X.1.2.1 dX5_tenTo_5 rfl (lv_at hl 0 rfl) ?_
      refine lv_icmp_ge (tgt := 20) X.1.1 X.1.2.1 dX5_tenTo_6 (by decide) (fun c_6 => ?_) (fun c_6 => ?_)
      · have hE := ite_t hE c_6
        exact hex v1_1001 v2_1001 ls (lv_sub hl [0, 1, 2] rfl) hE
      · have hE := ite_f hE c_6
        refine lv_iload_n X.1.1 X.1.2.1 dX5_tenTo_9 rfl (lv_at hl 1 rfl) ?_
        refine lv_bipush (v := (iI 10)) X.1.1 X.1.2.1 dX5_tenTo_10 (by decide) ?_
        refine lv_imul X.1.1 X.1.2.1 dX5_tenTo_12 ?_
        refine lv_istore_n (lv' := [(1, .int (v1_1001 * (iI 10))), (0, .int v0), (2, .int v2_1001)]) X.1.1 X.1.2.1 dX5_tenTo_13 rfl hl (by decide) rfl (fun ls hl => ?_)
        refine lv_iinc (v := (v2_1001 + (iI 1))) (lv' := [(2, .int (v2_1001 + (iI 1))), (1, .int (v1_1001 * (iI 10))), (0, .int v0)]) X.1.1 X.1.2.1 dX5_tenTo_14 hl (k := 2) rfl rfl (by decide) rfl (fun ls hl => ?_)
        refine lv_goto (tgt := 4) X.1.1 X.1.2.1 dX5_tenTo_17 (by decide) ?_
        exact ih (v1_1001 * (iI 10)) (v2_1001 + (iI 1)) ls (lv_sub hl [2, 1, 0] rfl) hE
  refine lp4 _ (fun v1_1001 v2_1001 ls hl hE => ?_) FU (iI 1) (iI 0) ls (lv_sub hl [2, 1, 0] rfl) hE
  refine lv_iload_n X.1.1 X.1.2.1 dX5_tenTo_20 rfl (lv_at hl 1 rfl) ?_
  cases hE
  exact retR X dX5_tenTo_21
theorem o5_doesWell : oV yX5_doesWell RX5 cX5_doesWell 3 (some .boolean) 2 := ⟨tw483, tw482, tw8, tw39, ⟨by decide +kernel, by decide +kernel⟩, by decide +kernel⟩
abbrev rm5_doesWell : Room := { frames := 5, cells := 0, slots := 0, locals := 115 }
set_option maxHeartbeats 4000000 in
set_option maxRecDepth 100000 in
theorem c5_doesWell {l : Launch} {G : va_G} {cI cZ : ClassId} {q0 q1 q2 q3 q4 q5 q6 q7 q8 q9 q10 q11 q12 q13 q14 q15 q16 q17 q18 q19 : Nat} {lt : Nat → Int32} {ln : Int32} {ki : Nat → Int32} {sp : Nat → Int32} {tu : Nat → Int32} {wo : Int32} {th : Int32} {st : Nat → Int32} {ch : Int32} {ya : Int32} {ow : Int32} {ca : Int32} {hu : Int32} {le : Int32} {tst : Nat → Int32} {tch : Int32} {tya : Int32} {tow : Int32} {tca : Int32} {thu : Int32} {tle : Int32} {an : Nat → Int32} {sn : Nat → Int32} {kp : Nat → Int32} {so : Nat → Int32} {sf : Nat → Int32} {sc : Nat → Int32} {ss : Int32} {ai : Int32} {sd : Int64} {v2 : Int32} {sz : Nat} {u : Int32 × (Nat → Int32) × Int32 × Int32 × Int32 × Int32 × Int32 × Int32} (hE : f5_doesWell v2 ki sp tu wo th tst tch tya tow tca thu tle = some u) : Met l yX5_doesWell (Cond.code yX5_doesWell cX5_doesWell 3 (some .boolean) :: TB) rm5_doesWell (PcW G cI cZ (wB cI cZ q0 q1 q2 q3 q4 q5 q6 q7 q8 q9 q10 q11 q12 q13 q14 q15 q16 q17 q18 q19 lt ln ki sp tu wo th st ch ya ow ca hu le tst tch tya tow tca thu tle an sn kp so sf sc ss ai sd) sz ([.ref q0, .ref q9, .int v2] : List Value)) (QW G (some (.int u.1)) (wB cI cZ q0 q1 q2 q3 q4 q5 q6 q7 q8 q9 q10 q11 q12 q13 q14 q15 q16 q17 q18 q19 lt ln ki sp tu wo th st ch ya ow ca hu le u.2.1 u.2.2.1 u.2.2.2.1 u.2.2.2.2.1 u.2.2.2.2.2.1 u.2.2.2.2.2.2.1 u.2.2.2.2.2.2.2 an sn kp so sf sc ss ai sd) (va_A (wB cI cZ q0 q1 q2 q3 q4 q5 q6 q7 q8 q9 q10 q11 q12 q13 q14 q15 q16 q17 q18 q19 lt ln ki sp tu wo th st ch ya ow ca hu le tst tch tya tow tca thu tle an sn kp so sf sc ss ai sd) sz)) 0 0 (va_A (wB cI cZ q0 q1 q2 q3 q4 q5 q6 q7 q8 q9 q10 q11 q12 q13 q14 q15 q16 q17 q18 q19 lt ln ki sp tu wo th st ch ya ow ca hu le tst tch tya tow tca thu tle an sn kp so sf sc ss ai sd) sz) := by
  refine metW (own := RX5) (by decide +kernel) rfl (Nat.le_of_ble_eq_true rfl) ?_
  intro p e s m below meth c ls A X hA hP hK hD hl
  have hS : va_S A s.heap s.heap [] := va_S.rf
  have hl : lv_has ls 3 [(0, .ref q0), (1, .ref q9), (2, .int v2)] := hl
  unfold f5_doesWell at hE
  refine lv_iload_n X.1.1 X.1.2.1 dX5_doesWell_0 rfl (lv_at hl 2 rfl) ?_
  by_cases s_1_0 : v2 = (iI 0)
  · have hE := ite_t hE s_1_0
    refine tbIn (k := 0) (off := 55) (tgt := 56) X dX5_doesWell_1 s_1_0 (by decide) (by decide) (by decide) rfl (by decide) ?_
    refine lv_iconst (v := (iI 1)) X.1.1 X.1.2.1 dX5_doesWell_56 rfl ?_
    cases hE
    exact retWZ X hP hS okB_1 dX5_doesWell_57
  · have hE := ite_f hE s_1_0
    by_cases s_1_5 : v2 = (iI 5)
    · have hE := ite_t hE s_1_5
      refine tbIn (k := 5) (off := 57) (tgt := 58) X dX5_doesWell_1 s_1_5 (by decide) (by decide) (by decide) rfl (by decide) ?_
      refine lv_aload_n X.1.1 X.1.2.1 dX5_doesWell_58 rfl (lv_at hl 1 rfl) ?_
      obtain ⟨u1001, e_u1001, hE⟩ := bd_some hE
      refine callRV (wsC := (wD cI cZ q9 q10 tst tch tya tow tca thu tle)) (As := []) (rest := []) (ci := 0) X (c0_canBePaid (l := l) e_u1001) o0_canBePaid tw397 ⟨rfl, rfl, Nat.le_of_ble_eq_true rfl, Nat.le_of_ble_eq_true rfl⟩ (hP.sub [9, 10] rfl) hK 0 rfl rfl rfl rfl hl rfl (by decide) ⟨Nat.le_refl _, Nat.le_refl _⟩ dX5_doesWell_59 ?_
      refine lv_if_ne (tgt := 67) X.1.1 X.1.2.1 dX5_doesWell_62 (by decide) (fun c_62 => ?_) (fun c_62 => ?_)
      · have hE := ite_f hE c_62
        refine lv_aload_n X.1.1 X.1.2.1 dX5_doesWell_67 rfl (lv_at hl 1 rfl) ?_
        obtain ⟨u1002, e_u1002, hE⟩ := bd_some hE
        refine callWV (wsC := (wD cI cZ q9 q10 tst tch tya tow tca thu tle)) (w1 := (wD cI cZ q9 q10 u1002.1 u1002.2.1 tya u1002.2.2 tca thu tle)) (ws' := (wB cI cZ q0 q1 q2 q3 q4 q5 q6 q7 q8 q9 q10 q11 q12 q13 q14 q15 q16 q17 q18 q19 lt ln ki sp tu wo th st ch ya ow ca hu le u1002.1 u1002.2.1 tya u1002.2.2 tca thu tle an sn kp so sf sc ss ai sd)) (As := []) (rest := []) (ov := none) (st1 := []) (ci := 0) X (c0_bePaid (l := l) e_u1002) o0_bePaid tw401 ⟨rfl, rfl, Nat.le_of_ble_eq_true rfl, Nat.le_of_ble_eq_true rfl⟩ hP hK hD hS hA [9, 10] (by decide) rfl rfl rfl (wB_fst.trans wB_fst.symm) 9 rfl rfl rfl rfl hl rfl (by decide) ⟨Nat.le_refl _, Nat.le_refl _⟩ rfl dX5_doesWell_68 (fun H locs hP hD hS => ?_)
        refine lv_iconst (v := (iI 1)) X.1.1 X.1.2.1 dX5_doesWell_71 rfl ?_
        cases hE
        exact retWZ X hP hS okB_1 dX5_doesWell_72
      · have hE := ite_t hE c_62
        refine lv_iconst (v := (iI 0)) X.1.1 X.1.2.1 dX5_doesWell_65 rfl ?_
        cases hE
        exact retWZ X hP hS okB_0 dX5_doesWell_66
    · have hE := ite_f hE s_1_5
      by_cases s_1_6 : v2 = (iI 6)
      · have hE := ite_t hE s_1_6
        refine tbIn (k := 6) (off := 72) (tgt := 73) X dX5_doesWell_1 s_1_6 (by decide) (by decide) (by decide) rfl (by decide) ?_
        refine lv_aload_n X.1.1 X.1.2.1 dX5_doesWell_73 rfl (lv_at hl 1 rfl) ?_
        refine gf5_154 X hK hP 9 rfl rfl dX5_doesWell_74 ?_
        refine lv_if_eq (tgt := 82) X.1.1 X.1.2.1 dX5_doesWell_77 (by decide) (fun c_77 => ?_) (fun c_77 => ?_)
        · have hE := ite_t hE c_77
          refine lv_aload_n X.1.1 X.1.2.1 dX5_doesWell_82 rfl (lv_at hl 1 rfl) ?_
          refine lv_iconst (v := (iI 1)) X.1.1 X.1.2.1 dX5_doesWell_83 rfl ?_
          obtain ⟨u1003, e_u1003, hE⟩ := bd_some hE
          refine callWV (wsC := (wD cI cZ q9 q10 tst tch tya tow tca thu tle)) (w1 := (wD cI cZ q9 q10 tst tch u1003.1 u1003.2 tca thu tle)) (ws' := (wB cI cZ q0 q1 q2 q3 q4 q5 q6 q7 q8 q9 q10 q11 q12 q13 q14 q15 q16 q17 q18 q19 lt ln ki sp tu wo th st ch ya ow ca hu le tst tch u1003.1 u1003.2 tca thu tle an sn kp so sf sc ss ai sd)) (As := [.int (iI 1)]) (rest := []) (ov := none) (st1 := []) (ci := 0) X (c0_runOff (l := l) e_u1003) o0_runOff tw410 ⟨rfl, rfl, Nat.le_of_ble_eq_true rfl, Nat.le_of_ble_eq_true rfl⟩ hP hK hD hS hA [9, 10] (by decide) rfl rfl rfl (wB_fst.trans wB_fst.symm) 9 rfl rfl rfl rfl hl rfl (by decide) ⟨Nat.le_refl _, Nat.le_refl _⟩ rfl dX5_doesWell_84 (fun H locs hP hD hS => ?_)
          refine lv_iconst (v := (iI 1)) X.1.1 X.1.2.1 dX5_doesWell_87 rfl ?_
          cases hE
          exact retWZ X hP hS okB_1 dX5_doesWell_88
        · have hE := ite_f hE c_77
          refine lv_iconst (v := (iI 0)) X.1.1 X.1.2.1 dX5_doesWell_80 rfl ?_
          cases hE
          exact retWZ X hP hS okB_0 dX5_doesWell_81
      · have hE := ite_f hE s_1_6
        by_cases s_1_7 : v2 = (iI 7)
        · have hE := ite_t hE s_1_7
          refine tbIn (k := 7) (off := 88) (tgt := 89) X dX5_doesWell_1 s_1_7 (by decide) (by decide) (by decide) rfl (by decide) ?_
          refine lv_aload_n X.1.1 X.1.2.1 dX5_doesWell_89 rfl (lv_at hl 1 rfl) ?_
          obtain ⟨u1004, e_u1004, hE⟩ := bd_some hE
          refine callRV (wsC := (wD cI cZ q9 q10 tst tch tya tow tca thu tle)) (As := []) (rest := []) (ci := 0) X (c0_canBeLed (l := l) e_u1004) o0_canBeLed tw415 ⟨rfl, rfl, Nat.le_of_ble_eq_true rfl, Nat.le_of_ble_eq_true rfl⟩ (hP.sub [9, 10] rfl) hK 0 rfl rfl rfl rfl hl rfl (by decide) ⟨Nat.le_refl _, Nat.le_refl _⟩ dX5_doesWell_90 ?_
          refine lv_if_ne (tgt := 98) X.1.1 X.1.2.1 dX5_doesWell_93 (by decide) (fun c_93 => ?_) (fun c_93 => ?_)
          · have hE := ite_f hE c_93
            refine lv_aload_n X.1.1 X.1.2.1 dX5_doesWell_98 rfl (lv_at hl 0 rfl) ?_
            refine gf5_19 X hK hP 0 rfl rfl dX5_doesWell_99 ?_
            refine lv_aload_n X.1.1 X.1.2.1 dX5_doesWell_102 rfl (lv_at hl 1 rfl) ?_
            obtain ⟨u1005, e_u1005, hE⟩ := bd_some hE
            refine callWV (wsC := (wFD cI cZ q3 q4 q5 q6 q9 q10 ki sp tu wo th tst tch tya tow tca thu tle)) (w1 := (wFD cI cZ q3 q4 q5 q6 q9 q10 ki sp tu wo th u1005.1 tch tya u1005.2.1 tca thu u1005.2.2)) (ws' := (wB cI cZ q0 q1 q2 q3 q4 q5 q6 q7 q8 q9 q10 q11 q12 q13 q14 q15 q16 q17 q18 q19 lt ln ki sp tu wo th st ch ya ow ca hu le u1005.1 tch tya u1005.2.1 tca thu u1005.2.2 an sn kp so sf sc ss ai sd)) (As := [.ref q9]) (rest := []) (ov := none) (st1 := []) (ci := 1) X (c1_leash (l := l) e_u1005) o1_leash tw419 ⟨rfl, rfl, Nat.le_of_ble_eq_true rfl, Nat.le_of_ble_eq_true rfl⟩ hP hK hD hS hA [3, 4, 5, 6, 9, 10] (by decide) rfl rfl rfl (wB_fst.trans wB_fst.symm) 3 rfl rfl rfl rfl hl rfl (by decide) ⟨Nat.le_refl _, Nat.le_refl _⟩ rfl dX5_doesWell_103 (fun H locs hP hD hS => ?_)
            refine lv_iconst (v := (iI 1)) X.1.1 X.1.2.1 dX5_doesWell_106 rfl ?_
            cases hE
            exact retWZ X hP hS okB_1 dX5_doesWell_107
          · have hE := ite_t hE c_93
            refine lv_iconst (v := (iI 0)) X.1.1 X.1.2.1 dX5_doesWell_96 rfl ?_
            cases hE
            exact retWZ X hP hS okB_0 dX5_doesWell_97
        · have hE := ite_f hE s_1_7
          by_cases s_1_8 : v2 = (iI 8)
          · have hE := ite_t hE s_1_8
            refine tbIn (k := 8) (off := 107) (tgt := 108) X dX5_doesWell_1 s_1_8 (by decide) (by decide) (by decide) rfl (by decide) ?_
            refine lv_aload_n X.1.1 X.1.2.1 dX5_doesWell_108 rfl (lv_at hl 1 rfl) ?_
            refine lv_aload_n X.1.1 X.1.2.1 dX5_doesWell_109 rfl (lv_at hl 1 rfl) ?_
            refine gf5_184 X hK hP 9 rfl rfl dX5_doesWell_110 ?_
            refine lv_if_ne (tgt := 120) X.1.1 X.1.2.1 dX5_doesWell_113 (by decide) (fun c_113 => ?_) (fun c_113 => ?_)
            · have hE := ite_f hE c_113
              refine lv_iconst (v := (iI 0)) X.1.1 X.1.2.1 dX5_doesWell_120 rfl ?_
              refine pf5_184 (ws2 := (wB cI cZ q0 q1 q2 q3 q4 q5 q6 q7 q8 q9 q10 q11 q12 q13 q14 q15 q16 q17 q18 q19 lt ln ki sp tu wo th st ch ya ow ca hu le tst tch tya tow tca (iI 0) tle an sn kp so sf sc ss ai sd)) X hK hP hD hS 9 rfl okB_0 (Nat.le_of_ble_eq_true rfl) rfl dX5_doesWell_121 (fun H locs hP hD hS => ?_)
              refine lv_iconst (v := (iI 1)) X.1.1 X.1.2.1 dX5_doesWell_124 rfl ?_
              cases hE
              exact retWZ X hP hS okB_1 dX5_doesWell_125
            · have hE := ite_t hE c_113
              refine lv_iconst (v := (iI 1)) X.1.1 X.1.2.1 dX5_doesWell_116 rfl ?_
              refine lv_goto (tgt := 121) X.1.1 X.1.2.1 dX5_doesWell_117 (by decide) ?_
              refine pf5_184 (ws2 := (wB cI cZ q0 q1 q2 q3 q4 q5 q6 q7 q8 q9 q10 q11 q12 q13 q14 q15 q16 q17 q18 q19 lt ln ki sp tu wo th st ch ya ow ca hu le tst tch tya tow tca (iI 1) tle an sn kp so sf sc ss ai sd)) X hK hP hD hS 9 rfl okB_1 (Nat.le_of_ble_eq_true rfl) rfl dX5_doesWell_121 (fun H locs hP hD hS => ?_)
              refine lv_iconst (v := (iI 1)) X.1.1 X.1.2.1 dX5_doesWell_124 rfl ?_
              cases hE
              exact retWZ X hP hS okB_1 dX5_doesWell_125
          · have hE := ite_f hE s_1_8
            by_cases s_1_9 : v2 = (iI 9)
            · have hE := ite_t hE s_1_9
              refine tbIn (k := 9) (off := 125) (tgt := 126) X dX5_doesWell_1 s_1_9 (by decide) (by decide) (by decide) rfl (by decide) ?_
              refine lv_iconst (v := (iI 0)) X.1.1 X.1.2.1 dX5_doesWell_126 rfl ?_
              cases hE
              exact retWZ X hP hS okB_0 dX5_doesWell_127
            · have hE := ite_f hE s_1_9
              have ns_1_0 := sw_ne s_1_0 (by decide) (by decide)
              have ns_1_5 := sw_ne s_1_5 (by decide) (by decide)
              have ns_1_6 := sw_ne s_1_6 (by decide) (by decide)
              have ns_1_7 := sw_ne s_1_7 (by decide) (by decide)
              have ns_1_8 := sw_ne s_1_8 (by decide) (by decide)
              have ns_1_9 := sw_ne s_1_9 (by decide) (by decide)
              have hh_ : (v2 : Int32).toInt < 0 ∨ 9 < (v2 : Int32).toInt ∨ (v2 : Int32).toInt = 1 ∨ (v2 : Int32).toInt = 2 ∨ (v2 : Int32).toInt = 3 ∨ (v2 : Int32).toInt = 4 := by omega
              refine tbDf (tgt := 128) X dX5_doesWell_1 (by rcases hh_ with h_ | h_ | h_ | h_ | h_ | h_; exact Or.inl h_; exact Or.inr (Or.inl h_); exact Or.inr (Or.inr (by rw [h_]; decide)); exact Or.inr (Or.inr (by rw [h_]; decide)); exact Or.inr (Or.inr (by rw [h_]; decide)); exact Or.inr (Or.inr (by rw [h_]; decide))) (by decide) ?_
              refine lv_aload_n X.1.1 X.1.2.1 dX5_doesWell_128 rfl (lv_at hl 1 rfl) ?_
              refine gf5_154 X hK hP 9 rfl rfl dX5_doesWell_129 ?_
              refine lv_if_ne (tgt := 166) X.1.1 X.1.2.1 dX5_doesWell_132 (by decide) (fun c_132 => ?_) (fun c_132 => ?_)
              · have hE := ite_f hE c_132
                refine lv_iconst (v := (iI 0)) X.1.1 X.1.2.1 dX5_doesWell_166 rfl ?_
                cases hE
                exact retWZ X hP hS okB_0 dX5_doesWell_167
              · have hE := ite_t hE c_132
                refine lv_aload_n X.1.1 X.1.2.1 dX5_doesWell_135 rfl (lv_at hl 0 rfl) ?_
                refine gf5_19 X hK hP 0 rfl rfl dX5_doesWell_136 ?_
                refine lv_iload_n X.1.1 X.1.2.1 dX5_doesWell_139 rfl (lv_at hl 2 rfl) ?_
                refine lv_iconst (v := (iI 1)) X.1.1 X.1.2.1 dX5_doesWell_140 rfl ?_
                refine lv_isub X.1.1 X.1.2.1 dX5_doesWell_141 ?_
                obtain ⟨u1006, e_u1006, hE⟩ := bd_some hE
                refine callRV (wsC := (wF cI cZ q3 q4 q5 q6 ki sp tu wo th)) (As := [.int (v2 - (iI 1))]) (rest := []) (ci := 1) X (c1_hasWord (l := l) e_u1006) o1_hasWord tw274 ⟨rfl, rfl, Nat.le_of_ble_eq_true rfl, Nat.le_of_ble_eq_true rfl⟩ (hP.sub [3, 4, 5, 6] rfl) hK 0 rfl rfl rfl rfl hl rfl (by decide) ⟨Nat.le_refl _, Nat.le_refl _⟩ dX5_doesWell_142 ?_
                refine lv_if_eq (tgt := 166) X.1.1 X.1.2.1 dX5_doesWell_145 (by decide) (fun c_145 => ?_) (fun c_145 => ?_)
                · have hE := ite_t hE c_145
                  refine lv_iconst (v := (iI 0)) X.1.1 X.1.2.1 dX5_doesWell_166 rfl ?_
                  cases hE
                  exact retWZ X hP hS okB_0 dX5_doesWell_167
                · have hE := ite_f hE c_145
                  refine lv_aload_n X.1.1 X.1.2.1 dX5_doesWell_148 rfl (lv_at hl 0 rfl) ?_
                  refine gf5_19 X hK hP 0 rfl rfl dX5_doesWell_149 ?_
                  refine lv_aload_n X.1.1 X.1.2.1 dX5_doesWell_152 rfl (lv_at hl 1 rfl) ?_
                  refine lv_iload_n X.1.1 X.1.2.1 dX5_doesWell_153 rfl (lv_at hl 2 rfl) ?_
                  refine lv_iconst (v := (iI 1)) X.1.1 X.1.2.1 dX5_doesWell_154 rfl ?_
                  refine lv_isub X.1.1 X.1.2.1 dX5_doesWell_155 ?_
                  obtain ⟨u1007, e_u1007, hE⟩ := bd_some hE
                  refine callWV (wsC := (wFD cI cZ q3 q4 q5 q6 q9 q10 ki sp tu wo th tst tch tya tow tca thu tle)) (w1 := (wFD cI cZ q3 q4 q5 q6 q9 q10 ki sp tu wo th u1007.2.1 tch u1007.2.2.1 u1007.2.2.2.1 u1007.2.2.2.2 thu tle)) (ws' := (wB cI cZ q0 q1 q2 q3 q4 q5 q6 q7 q8 q9 q10 q11 q12 q13 q14 q15 q16 q17 q18 q19 lt ln ki sp tu wo th st ch ya ow ca hu le u1007.2.1 tch u1007.2.2.1 u1007.2.2.2.1 u1007.2.2.2.2 thu tle an sn kp so sf sc ss ai sd)) (As := [.ref q9, .int (v2 - (iI 1))]) (rest := []) (ov := (some (.int u1007.1))) (st1 := [.int u1007.1]) (ci := 1) X (c1_callHim (l := l) e_u1007) o1_callHim tw374 ⟨rfl, rfl, Nat.le_of_ble_eq_true rfl, Nat.le_of_ble_eq_true rfl⟩ hP hK hD hS hA [3, 4, 5, 6, 9, 10] (by decide) rfl rfl rfl (wB_fst.trans wB_fst.symm) 3 rfl rfl rfl rfl hl rfl (by decide) ⟨Nat.le_refl _, Nat.le_refl _⟩ rfl dX5_doesWell_156 (fun H locs hP hD hS => ?_)
                  refine lv_if_eq (tgt := 166) X.1.1 X.1.2.1 dX5_doesWell_159 (by decide) (fun c_159 => ?_) (fun c_159 => ?_)
                  · have hE := ite_t hE c_159
                    refine lv_iconst (v := (iI 0)) X.1.1 X.1.2.1 dX5_doesWell_166 rfl ?_
                    cases hE
                    exact retWZ X hP hS okB_0 dX5_doesWell_167
                  · have hE := ite_f hE c_159
                    refine lv_iconst (v := (iI 1)) X.1.1 X.1.2.1 dX5_doesWell_162 rfl ?_
                    refine lv_goto (tgt := 167) X.1.1 X.1.2.1 dX5_doesWell_163 (by decide) ?_
                    cases hE
                    exact retWZ X hP hS okB_1 dX5_doesWell_167
theorem o5_judge : oV yX5_judge RX5 cX5_judge 4 (some .int) 2 := ⟨tw476, tw474, tw475, tw39, ⟨by decide +kernel, by decide +kernel⟩, by decide +kernel⟩
abbrev rm5_judge : Room := { frames := 6, cells := 0, slots := 0, locals := 137 }
set_option maxHeartbeats 4000000 in
set_option maxRecDepth 100000 in
theorem c5_judge {l : Launch} {G : va_G} {cI cZ : ClassId} {q0 q1 q2 q3 q4 q5 q6 q7 q8 q9 q10 q11 q12 q13 q14 q15 q16 q17 q18 q19 : Nat} {lt : Nat → Int32} {ln : Int32} {ki : Nat → Int32} {sp : Nat → Int32} {tu : Nat → Int32} {wo : Int32} {th : Int32} {st : Nat → Int32} {ch : Int32} {ya : Int32} {ow : Int32} {ca : Int32} {hu : Int32} {le : Int32} {tst : Nat → Int32} {tch : Int32} {tya : Int32} {tow : Int32} {tca : Int32} {thu : Int32} {tle : Int32} {an : Nat → Int32} {sn : Nat → Int32} {kp : Nat → Int32} {so : Nat → Int32} {sf : Nat → Int32} {sc : Nat → Int32} {ss : Int32} {ai : Int32} {sd : Int64} {v1 : Int32} {v2 : Int32} {sz : Nat} {u : Int32 × (Nat → Int32) × Int32 × Int32 × Int32 × Int32 × Int32 × Int32} (hE : f5_judge v1 v2 ki sp tu wo th st ch ya ow ca hu le tst tch tya tow tca thu tle = some u) : Met l yX5_judge (Cond.code yX5_judge cX5_judge 4 (some .int) :: TB) rm5_judge (PcW G cI cZ (wB cI cZ q0 q1 q2 q3 q4 q5 q6 q7 q8 q9 q10 q11 q12 q13 q14 q15 q16 q17 q18 q19 lt ln ki sp tu wo th st ch ya ow ca hu le tst tch tya tow tca thu tle an sn kp so sf sc ss ai sd) sz ([.ref q0, .int v1, .int v2] : List Value)) (QW G (some (.int u.1)) (wB cI cZ q0 q1 q2 q3 q4 q5 q6 q7 q8 q9 q10 q11 q12 q13 q14 q15 q16 q17 q18 q19 lt ln ki sp tu wo th st ch ya ow ca hu le u.2.1 u.2.2.1 u.2.2.2.1 u.2.2.2.2.1 u.2.2.2.2.2.1 u.2.2.2.2.2.2.1 u.2.2.2.2.2.2.2 an sn kp so sf sc ss ai sd) (va_A (wB cI cZ q0 q1 q2 q3 q4 q5 q6 q7 q8 q9 q10 q11 q12 q13 q14 q15 q16 q17 q18 q19 lt ln ki sp tu wo th st ch ya ow ca hu le tst tch tya tow tca thu tle an sn kp so sf sc ss ai sd) sz)) 0 0 (va_A (wB cI cZ q0 q1 q2 q3 q4 q5 q6 q7 q8 q9 q10 q11 q12 q13 q14 q15 q16 q17 q18 q19 lt ln ki sp tu wo th st ch ya ow ca hu le tst tch tya tow tca thu tle an sn kp so sf sc ss ai sd) sz) := by
  refine metW (own := RX5) (by decide +kernel) rfl (Nat.le_of_ble_eq_true rfl) ?_
  intro p e s m below meth c ls A X hA hP hK hD hl
  have hS : va_S A s.heap s.heap [] := va_S.rf
  have hl : lv_has ls 4 [(0, .ref q0), (1, .int v1), (2, .int v2)] := hl
  unfold f5_judge at hE
  refine lv_iload_n X.1.1 X.1.2.1 dX5_judge_0 rfl (lv_at hl 1 rfl) ?_
  refine lv_iconst (v := (iI 1)) X.1.1 X.1.2.1 dX5_judge_1 rfl ?_
  refine lv_icmp_lt (tgt := 11) X.1.1 X.1.2.1 dX5_judge_2 (by decide) (fun c_2 => ?_) (fun c_2 => ?_)
  · have hE := ite_t hE c_2
    refine lv_bipush (v := (iI (-2))) X.1.1 X.1.2.1 dX5_judge_11 (by decide) ?_
    cases hE
    exact retW X hP hS dX5_judge_13
  · have hE := ite_f hE c_2
    refine lv_iload_n X.1.1 X.1.2.1 dX5_judge_5 rfl (lv_at hl 1 rfl) ?_
    refine lv_bipush (v := (iI 6)) X.1.1 X.1.2.1 dX5_judge_6 (by decide) ?_
    refine lv_icmp_le (tgt := 14) X.1.1 X.1.2.1 dX5_judge_8 (by decide) (fun c_8 => ?_) (fun c_8 => ?_)
    · have hE := ite_t hE c_8
      refine lv_iload_n X.1.1 X.1.2.1 dX5_judge_14 rfl (lv_at hl 2 rfl) ?_
      refine lv_if_lt (tgt := 26) X.1.1 X.1.2.1 dX5_judge_15 (by decide) (fun c_15 => ?_) (fun c_15 => ?_)
      · have hE := ite_t hE c_15
        refine lv_bipush (v := (iI (-2))) X.1.1 X.1.2.1 dX5_judge_26 (by decide) ?_
        cases hE
        exact retW X hP hS dX5_judge_28
      · have hE := ite_f hE c_15
        refine lv_iload_n X.1.1 X.1.2.1 dX5_judge_18 rfl (lv_at hl 2 rfl) ?_
        refine lv_iload_n X.1.1 X.1.2.1 dX5_judge_19 rfl (lv_at hl 1 rfl) ?_
        obtain ⟨u1001, e_u1001, hE⟩ := bd_some hE
        refine callRS (wsC := []) (As := [.int v1]) (rest := [.int v2]) (cI := cI) (cZ := cZ) X (c5_tenTo (l := l) (G := G) (cI := cI) (cZ := cZ) e_u1001) o5_tenTo tw477 ⟨rfl, rfl, Nat.le_of_ble_eq_true rfl, Nat.le_of_ble_eq_true rfl⟩ va_P_nil hK rfl hl rfl (Nat.le_of_ble_eq_true rfl) ⟨Nat.le_refl _, Nat.le_refl _⟩ dX5_judge_20 ?_
        refine lv_icmp_lt (tgt := 29) X.1.1 X.1.2.1 dX5_judge_23 (by decide) (fun c_23 => ?_) (fun c_23 => ?_)
        · have hE := ite_t hE c_23
          refine lv_aload_n X.1.1 X.1.2.1 dX5_judge_29 rfl (lv_at hl 0 rfl) ?_
          refine gf5_30 X hK hP 0 rfl rfl dX5_judge_30 ?_
          refine lv_aload_n X.1.1 X.1.2.1 dX5_judge_33 rfl (lv_at hl 0 rfl) ?_
          refine gf5_26 X hK hP 0 rfl rfl dX5_judge_34 ?_
          obtain ⟨u1002, e_u1002, hE⟩ := bd_some hE
          refine callWV (wsC := (wDD cI cZ q9 q10 q7 q8 tst tch tya tow tca thu tle st ch ya ow ca hu le)) (w1 := (wDD cI cZ q9 q10 q7 q8 u1002.1 u1002.2.1 u1002.2.2.1 u1002.2.2.2.1 u1002.2.2.2.2.1 u1002.2.2.2.2.2.1 u1002.2.2.2.2.2.2 st ch ya ow ca hu le)) (ws' := (wB cI cZ q0 q1 q2 q3 q4 q5 q6 q7 q8 q9 q10 q11 q12 q13 q14 q15 q16 q17 q18 q19 lt ln ki sp tu wo th st ch ya ow ca hu le u1002.1 u1002.2.1 u1002.2.2.1 u1002.2.2.2.1 u1002.2.2.2.2.1 u1002.2.2.2.2.2.1 u1002.2.2.2.2.2.2 an sn kp so sf sc ss ai sd)) (As := [.ref q7]) (rest := []) (ov := none) (st1 := []) (ci := 0) X (c0_copyFrom (l := l) e_u1002) o0_copyFrom tw460 ⟨rfl, rfl, Nat.le_of_ble_eq_true rfl, Nat.le_of_ble_eq_true rfl⟩ hP hK hD hS hA [9, 10, 7, 8] (by decide) rfl rfl rfl (wB_fst.trans wB_fst.symm) 9 rfl rfl rfl rfl hl rfl (by decide) ⟨Nat.le_refl _, Nat.le_refl _⟩ rfl dX5_judge_37 (fun H locs hP hD hS => ?_)
          refine lv_iconst (v := (iI 0)) X.1.1 X.1.2.1 dX5_judge_40 rfl ?_
          refine lv_istore_n (lv' := [(3, .int (iI 0)), (0, .ref q0), (1, .int v1), (2, .int v2)]) X.1.1 X.1.2.1 dX5_judge_41 rfl hl (by decide) rfl (fun ls hl => ?_)
          have lp42 : ∀ (k : Int32 → (Nat → Int32) → Int32 → Int32 → Int32 → Int32 → Int32 → Int32 → Option (Int32 × (Nat → Int32) × Int32 × Int32 × Int32 × Int32 × Int32 × Int32)), (∀ (v3_1003 : Int32) (tst_1003 : Nat → Int32) (tch_1003 : Int32) (tya_1003 : Int32) (tow_1003 : Int32) (tca_1003 : Int32) (thu_1003 : Int32) (tle_1003 : Int32) (H : Heap) (locs : List Loc) (ls : Array Slot), va_P G vwCl (wB cI cZ q0 q1 q2 q3 q4 q5 q6 q7 q8 q9 q10 q11 q12 q13 q14 q15 q16 q17 q18 q19 lt ln ki sp tu wo th st ch ya ow ca hu le tst_1003 tch_1003 tya_1003 tow_1003 tca_1003 thu_1003 tle_1003 an sn kp so sf sc ss ai sd) H → va_D A (wB cI cZ q0 q1 q2 q3 q4 q5 q6 q7 q8 q9 q10 q11 q12 q13 q14 q15 q16 q17 q18 q19 lt ln ki sp tu wo th st ch ya ow ca hu le tst_1003 tch_1003 tya_1003 tow_1003 tca_1003 thu_1003 tle_1003 an sn kp so sf sc ss ai sd) → va_S A s.heap H locs → lv_has ls 4 [(0, .ref q0), (1, .int v1), (2, .int v2), (3, .int v3_1003)] → k v3_1003 tst_1003 tch_1003 tya_1003 tow_1003 tca_1003 thu_1003 tle_1003 = some u → W p l e rm5_judge s m ([.ref q0, .int v1, .int v2] : List Value).toArray below meth c H locs 0 0 (MQ below (QW G (some (.int u.1)) (wB cI cZ q0 q1 q2 q3 q4 q5 q6 q7 q8 q9 q10 q11 q12 q13 q14 q15 q16 q17 q18 q19 lt ln ki sp tu wo th st ch ya ow ca hu le u.2.1 u.2.2.1 u.2.2.2.1 u.2.2.2.2.1 u.2.2.2.2.2.1 u.2.2.2.2.2.2.1 u.2.2.2.2.2.2.2 an sn kp so sf sc ss ai sd) A) ([.ref q0, .int v1, .int v2] : List Value).toArray s 0 0 A) (F0 m 72 ls [])) → ∀ (n : Nat) (v3_1003 : Int32) (tst_1003 : Nat → Int32) (tch_1003 : Int32) (tya_1003 : Int32) (tow_1003 : Int32) (tca_1003 : Int32) (thu_1003 : Int32) (tle_1003 : Int32) (H : Heap) (locs : List Loc) (ls : Array Slot), va_P G vwCl (wB cI cZ q0 q1 q2 q3 q4 q5 q6 q7 q8 q9 q10 q11 q12 q13 q14 q15 q16 q17 q18 q19 lt ln ki sp tu wo th st ch ya ow ca hu le tst_1003 tch_1003 tya_1003 tow_1003 tca_1003 thu_1003 tle_1003 an sn kp so sf sc ss ai sd) H → va_D A (wB cI cZ q0 q1 q2 q3 q4 q5 q6 q7 q8 q9 q10 q11 q12 q13 q14 q15 q16 q17 q18 q19 lt ln ki sp tu wo th st ch ya ow ca hu le tst_1003 tch_1003 tya_1003 tow_1003 tca_1003 thu_1003 tle_1003 an sn kp so sf sc ss ai sd) → va_S A s.heap H locs → lv_has ls 4 [(0, .ref q0), (1, .int v1), (2, .int v2), (3, .int v3_1003)] → l5_judge_42 k v1 v2 ki sp tu wo th n v3_1003 tst_1003 tch_1003 tya_1003 tow_1003 tca_1003 thu_1003 tle_1003 = some u → W p l e rm5_judge s m ([.ref q0, .int v1, .int v2] : List Value).toArray below meth c H locs 0 0 (MQ below (QW G (some (.int u.1)) (wB cI cZ q0 q1 q2 q3 q4 q5 q6 q7 q8 q9 q10 q11 q12 q13 q14 q15 q16 q17 q18 q19 lt ln ki sp tu wo th st ch ya ow ca hu le u.2.1 u.2.2.1 u.2.2.2.1 u.2.2.2.2.1 u.2.2.2.2.2.1 u.2.2.2.2.2.2.1 u.2.2.2.2.2.2.2 an sn kp so sf sc ss ai sd) A) ([.ref q0, .int v1, .int v2] : List Value).toArray s 0 0 A) (F0 m 42 ls []) := by
            intro k hex n
            induction n with
            | zero =>
              intro v3_1003 tst_1003 tch_1003 tya_1003 tow_1003 tca_1003 thu_1003 tle_1003 H locs ls hP hD hS hl hE
              exact absurd (show (none : Option (Int32 × (Nat → Int32) × Int32 × Int32 × Int32 × Int32 × Int32 × Int32)) = some u from hE) (fun h => by cases h)
            | succ n ih =>
              intro v3_1003 tst_1003 tch_1003 tya_1003 tow_1003 tca_1003 thu_1003 tle_1003 H locs ls hP hD hS hl hE
              rw [l5_judge_42] at hE
              refine lv_iload_n X.1.1 X.1.2.1 dX5_judge_42 rfl (lv_at hl 3 rfl) ?_
              refine lv_iload_n X.1.1 X.1.2.1 dX5_judge_43 rfl (lv_at hl 1 rfl) ?_
              refine lv_icmp_ge (tgt := 72) X.1.1 X.1.2.1 dX5_judge_44 (by decide) (fun c_44 => ?_) (fun c_44 => ?_)
              · have hE := ite_t hE c_44
                exact hex v3_1003 tst_1003 tch_1003 tya_1003 tow_1003 tca_1003 thu_1003 tle_1003 H locs ls hP hD hS (lv_sub hl [0, 1, 2, 3] rfl) hE
              · have hE := ite_f hE c_44
                refine lv_aload_n X.1.1 X.1.2.1 dX5_judge_47 rfl (lv_at hl 0 rfl) ?_
                refine lv_aload_n X.1.1 X.1.2.1 dX5_judge_48 rfl (lv_at hl 0 rfl) ?_
                refine gf5_30 X hK hP 0 rfl rfl dX5_judge_49 ?_
                refine lv_iload_n X.1.1 X.1.2.1 dX5_judge_52 rfl (lv_at hl 2 rfl) ?_
                refine lv_iload_n X.1.1 X.1.2.1 dX5_judge_53 rfl (lv_at hl 1 rfl) ?_
                refine lv_iload_n X.1.1 X.1.2.1 dX5_judge_54 rfl (lv_at hl 3 rfl) ?_
                obtain ⟨u1004, e_u1004, hE⟩ := bd_some hE
                refine callRS (wsC := []) (As := [.int v2, .int v1, .int v3_1003]) (rest := [.ref q9, .ref q0]) (cI := cI) (cZ := cZ) X (c5_figureOf (l := l) (G := G) (cI := cI) (cZ := cZ) e_u1004) o5_figureOf tw464 ⟨rfl, rfl, Nat.le_of_ble_eq_true rfl, Nat.le_of_ble_eq_true rfl⟩ va_P_nil hK rfl hl rfl (Nat.le_of_ble_eq_true rfl) ⟨Nat.le_refl _, Nat.le_refl _⟩ dX5_judge_55 ?_
                obtain ⟨u1005, e_u1005, hE⟩ := bd_some hE
                refine callWF (ws := (wB cI cZ q0 q1 q2 q3 q4 q5 q6 q7 q8 q9 q10 q11 q12 q13 q14 q15 q16 q17 q18 q19 lt ln ki sp tu wo th st ch ya ow ca hu le tst_1003 tch_1003 tya_1003 tow_1003 tca_1003 thu_1003 tle_1003 an sn kp so sf sc ss ai sd)) (ws' := (wB cI cZ q0 q1 q2 q3 q4 q5 q6 q7 q8 q9 q10 q11 q12 q13 q14 q15 q16 q17 q18 q19 lt ln ki sp tu wo th st ch ya ow ca hu le u1005.2.1 u1005.2.2.1 u1005.2.2.2.1 u1005.2.2.2.2.1 u1005.2.2.2.2.2.1 u1005.2.2.2.2.2.2.1 u1005.2.2.2.2.2.2.2 an sn kp so sf sc ss ai sd)) (As := [.ref q9, .int u1004]) (rest := []) (ov := (some (.int u1005.1))) (st1 := [.int u1005.1]) (ci := 5) X (c5_doesWell (l := l) e_u1005) o5_doesWell tw480 ⟨rfl, rfl, Nat.le_of_ble_eq_true rfl, Nat.le_of_ble_eq_true rfl⟩ hP hK hD hS hA (wB_fst.trans wB_fst.symm) 0 rfl rfl rfl rfl hl rfl (by decide) ⟨Nat.le_refl _, Nat.le_refl _⟩ rfl dX5_judge_58 (fun H locs hP hD hS => ?_)
                refine lv_if_ne (tgt := 66) X.1.1 X.1.2.1 dX5_judge_61 (by decide) (fun c_61 => ?_) (fun c_61 => ?_)
                · have hE := ite_f hE c_61
                  refine lv_iinc (v := (v3_1003 + (iI 1))) (lv' := [(3, .int (v3_1003 + (iI 1))), (0, .ref q0), (1, .int v1), (2, .int v2)]) X.1.1 X.1.2.1 dX5_judge_66 hl (k := 3) rfl rfl (by decide) rfl (fun ls hl => ?_)
                  refine lv_goto (tgt := 42) X.1.1 X.1.2.1 dX5_judge_69 (by decide) ?_
                  exact ih (v3_1003 + (iI 1)) u1005.2.1 u1005.2.2.1 u1005.2.2.2.1 u1005.2.2.2.2.1 u1005.2.2.2.2.2.1 u1005.2.2.2.2.2.2.1 u1005.2.2.2.2.2.2.2 H locs ls hP hD hS (lv_sub hl [1, 2, 3, 0] rfl) hE
                · have hE := ite_t hE c_61
                  refine lv_iload_n X.1.1 X.1.2.1 dX5_judge_64 rfl (lv_at hl 3 rfl) ?_
                  cases hE
                  exact retW X hP hS dX5_judge_65
          refine lp42 _ (fun v3_1003 tst_1003 tch_1003 tya_1003 tow_1003 tca_1003 thu_1003 tle_1003 H locs ls hP hD hS hl hE => ?_) FU (iI 0) u1002.1 u1002.2.1 u1002.2.2.1 u1002.2.2.2.1 u1002.2.2.2.2.1 u1002.2.2.2.2.2.1 u1002.2.2.2.2.2.2 _ _ ls hP hD hS (lv_sub hl [1, 2, 3, 0] rfl) hE
          refine lv_bipush (v := (iI (-9))) X.1.1 X.1.2.1 dX5_judge_72 (by decide) ?_
          cases hE
          exact retW X hP hS dX5_judge_74
        · have hE := ite_f hE c_23
          refine lv_bipush (v := (iI (-2))) X.1.1 X.1.2.1 dX5_judge_26 (by decide) ?_
          cases hE
          exact retW X hP hS dX5_judge_28
    · have hE := ite_f hE c_8
      refine lv_bipush (v := (iI (-2))) X.1.1 X.1.2.1 dX5_judge_11 (by decide) ?_
      cases hE
      exact retW X hP hS dX5_judge_13
theorem o5_see : oV yX5_see RX5 cX5_see 4 (some .int) 3 := ⟨tw487, tw485, tw486, tw39, ⟨by decide +kernel, by decide +kernel⟩, by decide +kernel⟩
abbrev rm5_see : Room := { frames := 2, cells := 0, slots := 0, locals := 44 }
set_option maxHeartbeats 4000000 in
set_option maxRecDepth 100000 in
theorem c5_see {l : Launch} {G : va_G} {cI cZ : ClassId} {q0 q1 q2 q3 q4 q5 q6 q7 q8 q9 q10 q11 q12 q13 q14 q15 q16 q17 q18 q19 : Nat} {lt : Nat → Int32} {ln : Int32} {ki : Nat → Int32} {sp : Nat → Int32} {tu : Nat → Int32} {wo : Int32} {th : Int32} {st : Nat → Int32} {ch : Int32} {ya : Int32} {ow : Int32} {ca : Int32} {hu : Int32} {le : Int32} {tst : Nat → Int32} {tch : Int32} {tya : Int32} {tow : Int32} {tca : Int32} {thu : Int32} {tle : Int32} {an : Nat → Int32} {sn : Nat → Int32} {kp : Nat → Int32} {so : Nat → Int32} {sf : Nat → Int32} {sc : Nat → Int32} {ss : Int32} {ai : Int32} {sd : Int64} {v1 : Int32} {v2 : Int32} {v3 : Int32} {sz : Nat} {u : Int32 × (Nat → Int32) × (Nat → Int32) × (Nat → Int32) × Int32} (hE : f5_see v1 v2 v3 wo so sf sc ss = some u) : Met l yX5_see (Cond.code yX5_see cX5_see 4 (some .int) :: TB) rm5_see (PcW G cI cZ (wB cI cZ q0 q1 q2 q3 q4 q5 q6 q7 q8 q9 q10 q11 q12 q13 q14 q15 q16 q17 q18 q19 lt ln ki sp tu wo th st ch ya ow ca hu le tst tch tya tow tca thu tle an sn kp so sf sc ss ai sd) sz ([.ref q0, .int v1, .int v2, .int v3] : List Value)) (QW G (some (.int u.1)) (wB cI cZ q0 q1 q2 q3 q4 q5 q6 q7 q8 q9 q10 q11 q12 q13 q14 q15 q16 q17 q18 q19 lt ln ki sp tu wo th st ch ya ow ca hu le tst tch tya tow tca thu tle an sn kp u.2.1 u.2.2.1 u.2.2.2.1 u.2.2.2.2 ai sd) (va_A (wB cI cZ q0 q1 q2 q3 q4 q5 q6 q7 q8 q9 q10 q11 q12 q13 q14 q15 q16 q17 q18 q19 lt ln ki sp tu wo th st ch ya ow ca hu le tst tch tya tow tca thu tle an sn kp so sf sc ss ai sd) sz)) 0 0 (va_A (wB cI cZ q0 q1 q2 q3 q4 q5 q6 q7 q8 q9 q10 q11 q12 q13 q14 q15 q16 q17 q18 q19 lt ln ki sp tu wo th st ch ya ow ca hu le tst tch tya tow tca thu tle an sn kp so sf sc ss ai sd) sz) := by
  refine metW (own := RX5) (by decide +kernel) rfl (Nat.le_of_ble_eq_true rfl) ?_
  intro p e s m below meth c ls A X hA hP hK hD hl
  have hS : va_S A s.heap s.heap [] := va_S.rf
  have hl : lv_has ls 4 [(0, .ref q0), (1, .int v1), (2, .int v2), (3, .int v3)] := hl
  unfold f5_see at hE
  refine lv_aload_n X.1.1 X.1.2.1 dX5_see_0 rfl (lv_at hl 0 rfl) ?_
  refine gf5_19 X hK hP 0 rfl rfl dX5_see_1 ?_
  refine lv_iload_n X.1.1 X.1.2.1 dX5_see_4 rfl (lv_at hl 1 rfl) ?_
  obtain ⟨u1001, e_u1001, hE⟩ := bd_some hE
  refine callRV (wsC := (wF cI cZ q3 q4 q5 q6 ki sp tu wo th)) (As := [.int v1]) (rest := []) (ci := 1) X (c1_hasWord (l := l) e_u1001) o1_hasWord tw274 ⟨rfl, rfl, Nat.le_of_ble_eq_true rfl, Nat.le_of_ble_eq_true rfl⟩ (hP.sub [3, 4, 5, 6] rfl) hK 0 rfl rfl rfl rfl hl rfl (by decide) ⟨Nat.le_refl _, Nat.le_refl _⟩ dX5_see_5 ?_
  refine lv_if_ne (tgt := 13) X.1.1 X.1.2.1 dX5_see_8 (by decide) (fun c_8 => ?_) (fun c_8 => ?_)
  · have hE := ite_f hE c_8
    refine lv_iload_n X.1.1 X.1.2.1 dX5_see_13 rfl (lv_at hl 2 rfl) ?_
    obtain ⟨u1002, e_u1002, hE⟩ := bd_some hE
    refine callRS (wsC := []) (As := [.int v2]) (rest := []) (cI := cI) (cZ := cZ) X (c5_isNoYard (l := l) (G := G) (cI := cI) (cZ := cZ) e_u1002) o5_isNoYard tw348 ⟨rfl, rfl, Nat.le_of_ble_eq_true rfl, Nat.le_of_ble_eq_true rfl⟩ va_P_nil hK rfl hl rfl (by decide) ⟨Nat.le_refl _, Nat.le_refl _⟩ dX5_see_14 ?_
    refine lv_if_ne (tgt := 29) X.1.1 X.1.2.1 dX5_see_17 (by decide) (fun c_17 => ?_) (fun c_17 => ?_)
    · have hE := ite_f hE c_17
      refine lv_bipush (v := (iI (-2))) X.1.1 X.1.2.1 dX5_see_29 (by decide) ?_
      cases hE
      exact retW X hP hS dX5_see_31
    · have hE := ite_t hE c_17
      refine lv_iload_n X.1.1 X.1.2.1 dX5_see_20 rfl (lv_at hl 3 rfl) ?_
      refine lv_if_lt (tgt := 29) X.1.1 X.1.2.1 dX5_see_21 (by decide) (fun c_21 => ?_) (fun c_21 => ?_)
      · have hE := ite_t hE c_21
        refine lv_bipush (v := (iI (-2))) X.1.1 X.1.2.1 dX5_see_29 (by decide) ?_
        cases hE
        exact retW X hP hS dX5_see_31
      · have hE := ite_f hE c_21
        refine lv_iload_n X.1.1 X.1.2.1 dX5_see_24 rfl (lv_at hl 3 rfl) ?_
        refine lv_iconst (v := (iI 1)) X.1.1 X.1.2.1 dX5_see_25 rfl ?_
        refine lv_icmp_le (tgt := 32) X.1.1 X.1.2.1 dX5_see_26 (by decide) (fun c_26 => ?_) (fun c_26 => ?_)
        · have hE := ite_t hE c_26
          refine lv_aload_n X.1.1 X.1.2.1 dX5_see_32 rfl (lv_at hl 0 rfl) ?_
          refine gf5_52 X hK hP 0 rfl rfl dX5_see_33 ?_
          obtain ⟨u1003, e_u1003, hE⟩ := bd_some hE
          refine callRV (wsC := (wG cI cZ q16 q17 q18 q19 so sf sc ss)) (As := []) (rest := []) (ci := 3) X (c3_isFull (l := l) e_u1003) o3_isFull tw488 ⟨rfl, rfl, Nat.le_of_ble_eq_true rfl, Nat.le_of_ble_eq_true rfl⟩ (hP.sub [16, 17, 18, 19] rfl) hK 0 rfl rfl rfl rfl hl rfl (by decide) ⟨Nat.le_refl _, Nat.le_refl _⟩ dX5_see_36 ?_
          refine lv_if_eq (tgt := 45) X.1.1 X.1.2.1 dX5_see_39 (by decide) (fun c_39 => ?_) (fun c_39 => ?_)
          · have hE := ite_t hE c_39
            refine lv_aload_n X.1.1 X.1.2.1 dX5_see_45 rfl (lv_at hl 0 rfl) ?_
            refine gf5_52 X hK hP 0 rfl rfl dX5_see_46 ?_
            refine lv_iload_n X.1.1 X.1.2.1 dX5_see_49 rfl (lv_at hl 1 rfl) ?_
            refine lv_iload_n X.1.1 X.1.2.1 dX5_see_50 rfl (lv_at hl 2 rfl) ?_
            refine lv_iload_n X.1.1 X.1.2.1 dX5_see_51 rfl (lv_at hl 3 rfl) ?_
            refine lv_iconst (v := (iI 1)) X.1.1 X.1.2.1 dX5_see_52 rfl ?_
            refine lv_icmp_ne (tgt := 60) X.1.1 X.1.2.1 dX5_see_53 (by decide) (fun c_53 => ?_) (fun c_53 => ?_)
            · have hE := ite_f hE c_53
              refine lv_iconst (v := (iI 0)) X.1.1 X.1.2.1 dX5_see_60 rfl ?_
              obtain ⟨u1004, e_u1004, hE⟩ := bd_some hE
              refine callWV (wsC := (wG cI cZ q16 q17 q18 q19 so sf sc ss)) (w1 := (wG cI cZ q16 q17 q18 q19 u1004.1 u1004.2.1 u1004.2.2.1 u1004.2.2.2)) (ws' := (wB cI cZ q0 q1 q2 q3 q4 q5 q6 q7 q8 q9 q10 q11 q12 q13 q14 q15 q16 q17 q18 q19 lt ln ki sp tu wo th st ch ya ow ca hu le tst tch tya tow tca thu tle an sn kp u1004.1 u1004.2.1 u1004.2.2.1 u1004.2.2.2 ai sd)) (As := [.int v1, .int v2, .int (iI 0)]) (rest := []) (ov := none) (st1 := []) (ci := 3) X (c3_add (l := l) e_u1004) o3_add tw492 ⟨rfl, rfl, Nat.le_of_ble_eq_true rfl, Nat.le_of_ble_eq_true rfl⟩ hP hK hD hS hA [16, 17, 18, 19] (by decide) rfl rfl rfl (wB_fst.trans wB_fst.symm) 16 rfl rfl rfl rfl hl rfl (by decide) ⟨Nat.le_refl _, Nat.le_refl _⟩ rfl dX5_see_61 (fun H locs hP hD hS => ?_)
              refine lv_aload_n X.1.1 X.1.2.1 dX5_see_64 rfl (lv_at hl 0 rfl) ?_
              refine gf5_52 X hK hP 0 rfl rfl dX5_see_65 ?_
              refine gf5_230 X hK hP 16 rfl rfl dX5_see_68 ?_
              cases hE
              exact retW X hP hS dX5_see_71
            · have hE := ite_t hE c_53
              refine lv_iconst (v := (iI 1)) X.1.1 X.1.2.1 dX5_see_56 rfl ?_
              refine lv_goto (tgt := 61) X.1.1 X.1.2.1 dX5_see_57 (by decide) ?_
              obtain ⟨u1005, e_u1005, hE⟩ := bd_some hE
              refine callWV (wsC := (wG cI cZ q16 q17 q18 q19 so sf sc ss)) (w1 := (wG cI cZ q16 q17 q18 q19 u1005.1 u1005.2.1 u1005.2.2.1 u1005.2.2.2)) (ws' := (wB cI cZ q0 q1 q2 q3 q4 q5 q6 q7 q8 q9 q10 q11 q12 q13 q14 q15 q16 q17 q18 q19 lt ln ki sp tu wo th st ch ya ow ca hu le tst tch tya tow tca thu tle an sn kp u1005.1 u1005.2.1 u1005.2.2.1 u1005.2.2.2 ai sd)) (As := [.int v1, .int v2, .int (iI 1)]) (rest := []) (ov := none) (st1 := []) (ci := 3) X (c3_add (l := l) e_u1005) o3_add tw492 ⟨rfl, rfl, Nat.le_of_ble_eq_true rfl, Nat.le_of_ble_eq_true rfl⟩ hP hK hD hS hA [16, 17, 18, 19] (by decide) rfl rfl rfl (wB_fst.trans wB_fst.symm) 16 rfl rfl rfl rfl hl rfl (by decide) ⟨Nat.le_refl _, Nat.le_refl _⟩ rfl dX5_see_61 (fun H locs hP hD hS => ?_)
              refine lv_aload_n X.1.1 X.1.2.1 dX5_see_64 rfl (lv_at hl 0 rfl) ?_
              refine gf5_52 X hK hP 0 rfl rfl dX5_see_65 ?_
              refine gf5_230 X hK hP 16 rfl rfl dX5_see_68 ?_
              cases hE
              exact retW X hP hS dX5_see_71
          · have hE := ite_f hE c_39
            refine lv_bipush (v := (iI (-4))) X.1.1 X.1.2.1 dX5_see_42 (by decide) ?_
            cases hE
            exact retW X hP hS dX5_see_44
        · have hE := ite_f hE c_26
          refine lv_bipush (v := (iI (-2))) X.1.1 X.1.2.1 dX5_see_29 (by decide) ?_
          cases hE
          exact retW X hP hS dX5_see_31
  · have hE := ite_t hE c_8
    refine lv_iconst (v := (iI (-1))) X.1.1 X.1.2.1 dX5_see_11 rfl ?_
    cases hE
    exact retW X hP hS dX5_see_12
theorem o5_unsee : oV yX5_unsee RX5 cX5_unsee 2 (some .int) 0 := ⟨tw503, tw501, tw502, tw39, ⟨by decide +kernel, by decide +kernel⟩, by decide +kernel⟩
abbrev rm5_unsee : Room := { frames := 0, cells := 0, slots := 0, locals := 0 }
set_option maxHeartbeats 4000000 in
set_option maxRecDepth 100000 in
theorem c5_unsee {l : Launch} {G : va_G} {cI cZ : ClassId} {q0 q1 q2 q3 q4 q5 q6 q7 q8 q9 q10 q11 q12 q13 q14 q15 q16 q17 q18 q19 : Nat} {lt : Nat → Int32} {ln : Int32} {ki : Nat → Int32} {sp : Nat → Int32} {tu : Nat → Int32} {wo : Int32} {th : Int32} {st : Nat → Int32} {ch : Int32} {ya : Int32} {ow : Int32} {ca : Int32} {hu : Int32} {le : Int32} {tst : Nat → Int32} {tch : Int32} {tya : Int32} {tow : Int32} {tca : Int32} {thu : Int32} {tle : Int32} {an : Nat → Int32} {sn : Nat → Int32} {kp : Nat → Int32} {so : Nat → Int32} {sf : Nat → Int32} {sc : Nat → Int32} {ss : Int32} {ai : Int32} {sd : Int64} {sz : Nat} {u : Int32 × Int32} (hE : f5_unsee ss = some u) : Met l yX5_unsee (Cond.code yX5_unsee cX5_unsee 2 (some .int) :: TB) rm5_unsee (PcW G cI cZ (wB cI cZ q0 q1 q2 q3 q4 q5 q6 q7 q8 q9 q10 q11 q12 q13 q14 q15 q16 q17 q18 q19 lt ln ki sp tu wo th st ch ya ow ca hu le tst tch tya tow tca thu tle an sn kp so sf sc ss ai sd) sz ([.ref q0] : List Value)) (QW G (some (.int u.1)) (wB cI cZ q0 q1 q2 q3 q4 q5 q6 q7 q8 q9 q10 q11 q12 q13 q14 q15 q16 q17 q18 q19 lt ln ki sp tu wo th st ch ya ow ca hu le tst tch tya tow tca thu tle an sn kp so sf sc u.2 ai sd) (va_A (wB cI cZ q0 q1 q2 q3 q4 q5 q6 q7 q8 q9 q10 q11 q12 q13 q14 q15 q16 q17 q18 q19 lt ln ki sp tu wo th st ch ya ow ca hu le tst tch tya tow tca thu tle an sn kp so sf sc ss ai sd) sz)) 0 0 (va_A (wB cI cZ q0 q1 q2 q3 q4 q5 q6 q7 q8 q9 q10 q11 q12 q13 q14 q15 q16 q17 q18 q19 lt ln ki sp tu wo th st ch ya ow ca hu le tst tch tya tow tca thu tle an sn kp so sf sc ss ai sd) sz) := by
  refine metW (own := RX5) (by decide +kernel) rfl (Nat.le_of_ble_eq_true rfl) ?_
  intro p e s m below meth c ls A X hA hP hK hD hl
  have hS : va_S A s.heap s.heap [] := va_S.rf
  have hl : lv_has ls 2 [(0, .ref q0)] := hl
  unfold f5_unsee at hE
  refine lv_aload_n X.1.1 X.1.2.1 dX5_unsee_0 rfl (lv_at hl 0 rfl) ?_
  refine gf5_52 X hK hP 0 rfl rfl dX5_unsee_1 ?_
  refine gf5_230 X hK hP 16 rfl rfl dX5_unsee_4 ?_
  refine lv_istore_n (lv' := [(1, .int ss), (0, .ref q0)]) X.1.1 X.1.2.1 dX5_unsee_7 rfl hl (by decide) rfl (fun ls hl => ?_)
  refine lv_aload_n X.1.1 X.1.2.1 dX5_unsee_8 rfl (lv_at hl 1 rfl) ?_
  refine gf5_52 X hK hP 0 rfl rfl dX5_unsee_9 ?_
  refine lv_iconst (v := (iI 0)) X.1.1 X.1.2.1 dX5_unsee_12 rfl ?_
  refine pf5_230 (ws2 := (wB cI cZ q0 q1 q2 q3 q4 q5 q6 q7 q8 q9 q10 q11 q12 q13 q14 q15 q16 q17 q18 q19 lt ln ki sp tu wo th st ch ya ow ca hu le tst tch tya tow tca thu tle an sn kp so sf sc (iI 0) ai sd)) X hK hP hD hS 16 rfl (Nat.le_of_ble_eq_true rfl) rfl dX5_unsee_13 (fun H locs hP hD hS => ?_)
  refine lv_iload_n X.1.1 X.1.2.1 dX5_unsee_16 rfl (lv_at hl 0 rfl) ?_
  cases hE
  exact retW X hP hS dX5_unsee_17
theorem o5_may : oV yX5_may RX5 cX5_may 4 (some .int) 1 := ⟨tw507, tw505, tw506, tw39, ⟨by decide +kernel, by decide +kernel⟩, by decide +kernel⟩
abbrev rm5_may : Room := { frames := 4, cells := 0, slots := 0, locals := 94 }
set_option maxHeartbeats 4000000 in
set_option maxRecDepth 100000 in
theorem c5_may {l : Launch} {G : va_G} {cI cZ : ClassId} {q0 q1 q2 q3 q4 q5 q6 q7 q8 q9 q10 q11 q12 q13 q14 q15 q16 q17 q18 q19 : Nat} {lt : Nat → Int32} {ln : Int32} {ki : Nat → Int32} {sp : Nat → Int32} {tu : Nat → Int32} {wo : Int32} {th : Int32} {st : Nat → Int32} {ch : Int32} {ya : Int32} {ow : Int32} {ca : Int32} {hu : Int32} {le : Int32} {tst : Nat → Int32} {tch : Int32} {tya : Int32} {tow : Int32} {tca : Int32} {thu : Int32} {tle : Int32} {an : Nat → Int32} {sn : Nat → Int32} {kp : Nat → Int32} {so : Nat → Int32} {sf : Nat → Int32} {sc : Nat → Int32} {ss : Int32} {ai : Int32} {sd : Int64} {v1 : Int32} {u : Int32} (hE : f5_may v1 ki sp tu wo th hu so sf sc ss = some u) : Met l yX5_may (Cond.code yX5_may cX5_may 4 (some .int) :: TB) rm5_may (PcR G cI cZ (wB cI cZ q0 q1 q2 q3 q4 q5 q6 q7 q8 q9 q10 q11 q12 q13 q14 q15 q16 q17 q18 q19 lt ln ki sp tu wo th st ch ya ow ca hu le tst tch tya tow tca thu tle an sn kp so sf sc ss ai sd) ([.ref q0, .int v1] : List Value)) (QcRead u) 0 0 (fun _ => False) := by
  refine metR (own := RX5) (by decide +kernel) rfl (Nat.le_of_ble_eq_true rfl) ?_
  intro p e s m below meth c ls X hP hK hl
  have hl : lv_has ls 4 [(0, .ref q0), (1, .int v1)] := hl
  unfold f5_may at hE
  refine lv_aload_n X.1.1 X.1.2.1 dX5_may_0 rfl (lv_at hl 0 rfl) ?_
  refine gf5_19 X hK hP 0 rfl rfl dX5_may_1 ?_
  refine lv_iload_n X.1.1 X.1.2.1 dX5_may_4 rfl (lv_at hl 1 rfl) ?_
  obtain ⟨u1001, e_u1001, hE⟩ := bd_some hE
  refine callRV (wsC := (wF cI cZ q3 q4 q5 q6 ki sp tu wo th)) (As := [.int v1]) (rest := []) (ci := 1) X (c1_hasWord (l := l) e_u1001) o1_hasWord tw274 ⟨rfl, rfl, Nat.le_of_ble_eq_true rfl, Nat.le_of_ble_eq_true rfl⟩ (hP.sub [3, 4, 5, 6] rfl) hK 0 rfl rfl rfl rfl hl rfl (by decide) ⟨Nat.le_refl _, Nat.le_refl _⟩ dX5_may_5 ?_
  refine lv_if_ne (tgt := 13) X.1.1 X.1.2.1 dX5_may_8 (by decide) (fun c_8 => ?_) (fun c_8 => ?_)
  · have hE := ite_f hE c_8
    refine lv_iconst (v := (iI 0)) X.1.1 X.1.2.1 dX5_may_13 rfl ?_
    refine lv_istore_n (lv' := [(2, .int (iI 0)), (0, .ref q0), (1, .int v1)]) X.1.1 X.1.2.1 dX5_may_14 rfl hl (by decide) rfl (fun ls hl => ?_)
    refine lv_iconst (v := (iI 0)) X.1.1 X.1.2.1 dX5_may_15 rfl ?_
    refine lv_istore_n (lv' := [(3, .int (iI 0)), (2, .int (iI 0)), (0, .ref q0), (1, .int v1)]) X.1.1 X.1.2.1 dX5_may_16 rfl hl (by decide) rfl (fun ls hl => ?_)
    have lp17 : ∀ (k : Int32 → Int32 → Option Int32), (∀ (v2_1002 : Int32) (v3_1002 : Int32) (ls : Array Slot), lv_has ls 4 [(0, .ref q0), (1, .int v1), (2, .int v2_1002), (3, .int v3_1002)] → k v2_1002 v3_1002 = some u → W p l e rm5_may s m ([.ref q0, .int v1] : List Value).toArray below meth c s.heap [] 0 0 (MQ below (QcRead u) ([.ref q0, .int v1] : List Value).toArray s 0 0 (fun _ => False)) (F0 m 58 ls [])) → ∀ (n : Nat) (v2_1002 : Int32) (v3_1002 : Int32) (ls : Array Slot), lv_has ls 4 [(0, .ref q0), (1, .int v1), (2, .int v2_1002), (3, .int v3_1002)] → l5_may_17 k v1 ki sp tu th hu so sf sc ss n v2_1002 v3_1002 = some u → W p l e rm5_may s m ([.ref q0, .int v1] : List Value).toArray below meth c s.heap [] 0 0 (MQ below (QcRead u) ([.ref q0, .int v1] : List Value).toArray s 0 0 (fun _ => False)) (F0 m 17 ls []) := by
      intro k hex n
      induction n with
      | zero =>
        intro v2_1002 v3_1002 ls hl hE
        exact absurd (show (none : Option Int32) = some u from hE) (fun h => by cases h)
      | succ n ih =>
        intro v2_1002 v3_1002 ls hl hE
        rw [l5_may_17] at hE
        refine lv_iload_n X.1.1 X.1.2.1 dX5_may_17 rfl (lv_at hl 3 rfl) ?_
        refine lv_bipush (v := (iI 9)) X.1.1 X.1.2.1 dX5_may_18 (by decide) ?_
        refine lv_icmp_gt (tgt := 58) X.1.1 X.1.2.1 dX5_may_20 (by decide) (fun c_20 => ?_) (fun c_20 => ?_)
        · have hE := ite_t hE c_20
          exact hex v2_1002 v3_1002 ls (lv_sub hl [0, 1, 2, 3] rfl) hE
        · have hE := ite_f hE c_20
          refine lv_aload_n X.1.1 X.1.2.1 dX5_may_23 rfl (lv_at hl 0 rfl) ?_
          refine gf5_52 X hK hP 0 rfl rfl dX5_may_24 ?_
          refine lv_aload_n X.1.1 X.1.2.1 dX5_may_27 rfl (lv_at hl 0 rfl) ?_
          refine gf5_19 X hK hP 0 rfl rfl dX5_may_28 ?_
          refine lv_iload_n X.1.1 X.1.2.1 dX5_may_31 rfl (lv_at hl 1 rfl) ?_
          refine lv_iload_n X.1.1 X.1.2.1 dX5_may_32 rfl (lv_at hl 3 rfl) ?_
          refine lv_aload_n X.1.1 X.1.2.1 dX5_may_33 rfl (lv_at hl 0 rfl) ?_
          refine gf5_26 X hK hP 0 rfl rfl dX5_may_34 ?_
          refine gf5_184 X hK hP 7 rfl rfl dX5_may_37 ?_
          obtain ⟨u1003, e_u1003, hE⟩ := bd_some hE
          refine callRV (wsC := (wGF cI cZ q16 q17 q18 q19 q3 q4 q5 q6 so sf sc ss ki sp tu wo th)) (As := [.ref q3, .int v1, .int v3_1002, .int hu]) (rest := []) (ci := 3) X (c3_agree (l := l) e_u1003) o3_agree tw508 ⟨rfl, rfl, Nat.le_of_ble_eq_true rfl, Nat.le_of_ble_eq_true rfl⟩ (hP.sub [16, 17, 18, 19, 3, 4, 5, 6] rfl) hK 0 rfl rfl rfl rfl hl rfl (by decide) ⟨Nat.le_refl _, Nat.le_refl _⟩ dX5_may_40 ?_
          refine lv_if_eq (tgt := 52) X.1.1 X.1.2.1 dX5_may_43 (by decide) (fun c_43 => ?_) (fun c_43 => ?_)
          · have hE := ite_t hE c_43
            refine lv_iinc (v := (v3_1002 + (iI 1))) (lv' := [(3, .int (v3_1002 + (iI 1))), (0, .ref q0), (1, .int v1), (2, .int v2_1002)]) X.1.1 X.1.2.1 dX5_may_52 hl (k := 3) rfl rfl (by decide) rfl (fun ls hl => ?_)
            refine lv_goto (tgt := 17) X.1.1 X.1.2.1 dX5_may_55 (by decide) ?_
            exact ih v2_1002 (v3_1002 + (iI 1)) ls (lv_sub hl [1, 2, 3, 0] rfl) hE
          · have hE := ite_f hE c_43
            refine lv_iload_n X.1.1 X.1.2.1 dX5_may_46 rfl (lv_at hl 2 rfl) ?_
            refine lv_iconst (v := (iI 1)) X.1.1 X.1.2.1 dX5_may_47 rfl ?_
            refine lv_iload_n X.1.1 X.1.2.1 dX5_may_48 rfl (lv_at hl 3 rfl) ?_
            refine lv_ishl X.1.1 X.1.2.1 dX5_may_49 ?_
            refine lv_ior X.1.1 X.1.2.1 dX5_may_50 ?_
            refine lv_istore_n (lv' := [(2, .int (v2_1002 ||| ((iI 1) <<< (v3_1002 &&& 31)))), (0, .ref q0), (1, .int v1), (3, .int v3_1002)]) X.1.1 X.1.2.1 dX5_may_51 rfl hl (by decide) rfl (fun ls hl => ?_)
            refine lv_iinc (v := (v3_1002 + (iI 1))) (lv' := [(3, .int (v3_1002 + (iI 1))), (2, .int (v2_1002 ||| ((iI 1) <<< (v3_1002 &&& 31)))), (0, .ref q0), (1, .int v1)]) X.1.1 X.1.2.1 dX5_may_52 hl (k := 3) rfl rfl (by decide) rfl (fun ls hl => ?_)
            refine lv_goto (tgt := 17) X.1.1 X.1.2.1 dX5_may_55 (by decide) ?_
            exact ih (v2_1002 ||| ((iI 1) <<< (v3_1002 &&& 31))) (v3_1002 + (iI 1)) ls (lv_sub hl [2, 3, 1, 0] rfl) hE
    refine lp17 _ (fun v2_1002 v3_1002 ls hl hE => ?_) FU (iI 0) (iI 0) ls (lv_sub hl [2, 3, 1, 0] rfl) hE
    refine lv_iload_n X.1.1 X.1.2.1 dX5_may_58 rfl (lv_at hl 2 rfl) ?_
    cases hE
    exact retR X dX5_may_59
  · have hE := ite_t hE c_8
    refine lv_iconst (v := (iI (-1))) X.1.1 X.1.2.1 dX5_may_11 rfl ?_
    cases hE
    exact retR X dX5_may_12
theorem o5_wordsThatBring : oV yX5_wordsThatBring RX5 cX5_wordsThatBring 4 (some .int) 1 := ⟨tw521, tw520, tw10, tw39, ⟨by decide +kernel, by decide +kernel⟩, by decide +kernel⟩
abbrev rm5_wordsThatBring : Room := { frames := 4, cells := 0, slots := 0, locals := 92 }
set_option maxHeartbeats 4000000 in
set_option maxRecDepth 100000 in
theorem c5_wordsThatBring {l : Launch} {G : va_G} {cI cZ : ClassId} {q0 q1 q2 q3 q4 q5 q6 q7 q8 q9 q10 q11 q12 q13 q14 q15 q16 q17 q18 q19 : Nat} {lt : Nat → Int32} {ln : Int32} {ki : Nat → Int32} {sp : Nat → Int32} {tu : Nat → Int32} {wo : Int32} {th : Int32} {st : Nat → Int32} {ch : Int32} {ya : Int32} {ow : Int32} {ca : Int32} {hu : Int32} {le : Int32} {tst : Nat → Int32} {tch : Int32} {tya : Int32} {tow : Int32} {tca : Int32} {thu : Int32} {tle : Int32} {an : Nat → Int32} {sn : Nat → Int32} {kp : Nat → Int32} {so : Nat → Int32} {sf : Nat → Int32} {sc : Nat → Int32} {ss : Int32} {ai : Int32} {sd : Int64} {v1 : Int32} {u : Int32} (hE : f5_wordsThatBring v1 ki sp tu wo th st hu = some u) : Met l yX5_wordsThatBring (Cond.code yX5_wordsThatBring cX5_wordsThatBring 4 (some .int) :: TB) rm5_wordsThatBring (PcR G cI cZ (wB cI cZ q0 q1 q2 q3 q4 q5 q6 q7 q8 q9 q10 q11 q12 q13 q14 q15 q16 q17 q18 q19 lt ln ki sp tu wo th st ch ya ow ca hu le tst tch tya tow tca thu tle an sn kp so sf sc ss ai sd) ([.ref q0, .int v1] : List Value)) (QcRead u) 0 0 (fun _ => False) := by
  refine metR (own := RX5) (by decide +kernel) rfl (Nat.le_of_ble_eq_true rfl) ?_
  intro p e s m below meth c ls X hP hK hl
  have hl : lv_has ls 4 [(0, .ref q0), (1, .int v1)] := hl
  unfold f5_wordsThatBring at hE
  refine lv_iconst (v := (iI 0)) X.1.1 X.1.2.1 dX5_wordsThatBring_0 rfl ?_
  refine lv_istore_n (lv' := [(2, .int (iI 0)), (0, .ref q0), (1, .int v1)]) X.1.1 X.1.2.1 dX5_wordsThatBring_1 rfl hl (by decide) rfl (fun ls hl => ?_)
  refine lv_iconst (v := (iI 0)) X.1.1 X.1.2.1 dX5_wordsThatBring_2 rfl ?_
  refine lv_istore_n (lv' := [(3, .int (iI 0)), (2, .int (iI 0)), (0, .ref q0), (1, .int v1)]) X.1.1 X.1.2.1 dX5_wordsThatBring_3 rfl hl (by decide) rfl (fun ls hl => ?_)
  have lp4 : ∀ (k : Int32 → Int32 → Option Int32), (∀ (v2_1001 : Int32) (v3_1001 : Int32) (ls : Array Slot), lv_has ls 4 [(0, .ref q0), (1, .int v1), (2, .int v2_1001), (3, .int v3_1001)] → k v2_1001 v3_1001 = some u → W p l e rm5_wordsThatBring s m ([.ref q0, .int v1] : List Value).toArray below meth c s.heap [] 0 0 (MQ below (QcRead u) ([.ref q0, .int v1] : List Value).toArray s 0 0 (fun _ => False)) (F0 m 40 ls [])) → ∀ (n : Nat) (v2_1001 : Int32) (v3_1001 : Int32) (ls : Array Slot), lv_has ls 4 [(0, .ref q0), (1, .int v1), (2, .int v2_1001), (3, .int v3_1001)] → l5_wordsThatBring_4 k v1 ki sp tu wo th st hu n v2_1001 v3_1001 = some u → W p l e rm5_wordsThatBring s m ([.ref q0, .int v1] : List Value).toArray below meth c s.heap [] 0 0 (MQ below (QcRead u) ([.ref q0, .int v1] : List Value).toArray s 0 0 (fun _ => False)) (F0 m 4 ls []) := by
    intro k hex n
    induction n with
    | zero =>
      intro v2_1001 v3_1001 ls hl hE
      exact absurd (show (none : Option Int32) = some u from hE) (fun h => by cases h)
    | succ n ih =>
      intro v2_1001 v3_1001 ls hl hE
      rw [l5_wordsThatBring_4] at hE
      refine lv_iload_n X.1.1 X.1.2.1 dX5_wordsThatBring_4 rfl (lv_at hl 3 rfl) ?_
      refine lv_aload_n X.1.1 X.1.2.1 dX5_wordsThatBring_5 rfl (lv_at hl 0 rfl) ?_
      refine gf5_19 X hK hP 0 rfl rfl dX5_wordsThatBring_6 ?_
      refine gf5_92 X hK hP 3 rfl rfl dX5_wordsThatBring_9 ?_
      refine lv_icmp_ge (tgt := 40) X.1.1 X.1.2.1 dX5_wordsThatBring_12 (by decide) (fun c_12 => ?_) (fun c_12 => ?_)
      · have hE := ite_t hE c_12
        exact hex v2_1001 v3_1001 ls (lv_sub hl [0, 1, 2, 3] rfl) hE
      · have hE := ite_f hE c_12
        refine lv_aload_n X.1.1 X.1.2.1 dX5_wordsThatBring_15 rfl (lv_at hl 0 rfl) ?_
        refine gf5_19 X hK hP 0 rfl rfl dX5_wordsThatBring_16 ?_
        refine lv_aload_n X.1.1 X.1.2.1 dX5_wordsThatBring_19 rfl (lv_at hl 0 rfl) ?_
        refine gf5_26 X hK hP 0 rfl rfl dX5_wordsThatBring_20 ?_
        refine lv_iload_n X.1.1 X.1.2.1 dX5_wordsThatBring_23 rfl (lv_at hl 3 rfl) ?_
        refine lv_iload_n X.1.1 X.1.2.1 dX5_wordsThatBring_24 rfl (lv_at hl 1 rfl) ?_
        obtain ⟨u1002, e_u1002, hE⟩ := bd_some hE
        refine callRV (wsC := (wFD cI cZ q3 q4 q5 q6 q7 q8 ki sp tu wo th st ch ya ow ca hu le)) (As := [.ref q7, .int v3_1001, .int v1]) (rest := []) (ci := 1) X (c1_brings (l := l) e_u1002) o1_brings tw296 ⟨rfl, rfl, Nat.le_of_ble_eq_true rfl, Nat.le_of_ble_eq_true rfl⟩ (hP.sub [3, 4, 5, 6, 7, 8] rfl) hK 0 rfl rfl rfl rfl hl rfl (by decide) ⟨Nat.le_refl _, Nat.le_refl _⟩ dX5_wordsThatBring_25 ?_
        refine lv_if_eq (tgt := 34) X.1.1 X.1.2.1 dX5_wordsThatBring_28 (by decide) (fun c_28 => ?_) (fun c_28 => ?_)
        · have hE := ite_t hE c_28
          refine lv_iinc (v := (v3_1001 + (iI 1))) (lv' := [(3, .int (v3_1001 + (iI 1))), (0, .ref q0), (1, .int v1), (2, .int v2_1001)]) X.1.1 X.1.2.1 dX5_wordsThatBring_34 hl (k := 3) rfl rfl (by decide) rfl (fun ls hl => ?_)
          refine lv_goto (tgt := 4) X.1.1 X.1.2.1 dX5_wordsThatBring_37 (by decide) ?_
          exact ih v2_1001 (v3_1001 + (iI 1)) ls (lv_sub hl [1, 2, 3, 0] rfl) hE
        · have hE := ite_f hE c_28
          refine lv_iinc (v := (v2_1001 + (iI 1))) (lv' := [(2, .int (v2_1001 + (iI 1))), (0, .ref q0), (1, .int v1), (3, .int v3_1001)]) X.1.1 X.1.2.1 dX5_wordsThatBring_31 hl (k := 2) rfl rfl (by decide) rfl (fun ls hl => ?_)
          refine lv_iinc (v := (v3_1001 + (iI 1))) (lv' := [(3, .int (v3_1001 + (iI 1))), (2, .int (v2_1001 + (iI 1))), (0, .ref q0), (1, .int v1)]) X.1.1 X.1.2.1 dX5_wordsThatBring_34 hl (k := 3) rfl rfl (by decide) rfl (fun ls hl => ?_)
          refine lv_goto (tgt := 4) X.1.1 X.1.2.1 dX5_wordsThatBring_37 (by decide) ?_
          exact ih (v2_1001 + (iI 1)) (v3_1001 + (iI 1)) ls (lv_sub hl [2, 3, 1, 0] rfl) hE
  refine lp4 _ (fun v2_1001 v3_1001 ls hl hE => ?_) FU (iI 0) (iI 0) ls (lv_sub hl [2, 3, 1, 0] rfl) hE
  refine lv_iload_n X.1.1 X.1.2.1 dX5_wordsThatBring_40 rfl (lv_at hl 2 rfl) ?_
  cases hE
  exact retR X dX5_wordsThatBring_41
theorem o5_greatestDivisor : oS yX5_greatestDivisor cX5_greatestDivisor 6 (some .int) 2 := ⟨tw527, tw526, tw39, ⟨by decide +kernel, by decide +kernel⟩, by decide +kernel⟩
abbrev rm5_greatestDivisor : Room := { frames := 0, cells := 0, slots := 0, locals := 0 }
set_option maxHeartbeats 4000000 in
set_option maxRecDepth 100000 in
theorem c5_greatestDivisor {l : Launch} {G : va_G} {cI cZ : ClassId} {v0 : Int32} {v1 : Int32} {u : Int32} (hE : f5_greatestDivisor v0 v1 = some u) : Met l yX5_greatestDivisor (Cond.code yX5_greatestDivisor cX5_greatestDivisor 6 (some .int) :: TB) rm5_greatestDivisor (PcR G cI cZ [] ([.int v0, .int v1] : List Value)) (QcRead u) 0 0 (fun _ => False) := by
  refine metR (own := RX5) (by decide +kernel) rfl (Nat.le_of_ble_eq_true rfl) ?_
  intro p e s m below meth c ls X hP hK hl
  have hl : lv_has ls 6 [(0, .int v0), (1, .int v1)] := hl
  unfold f5_greatestDivisor at hE
  refine lv_iload_n X.1.1 X.1.2.1 dX5_greatestDivisor_0 rfl (lv_at hl 0 rfl) ?_
  refine lv_istore_n (lv' := [(2, .int v0), (0, .int v0), (1, .int v1)]) X.1.1 X.1.2.1 dX5_greatestDivisor_1 rfl hl (by decide) rfl (fun ls hl => ?_)
  refine lv_iload_n X.1.1 X.1.2.1 dX5_greatestDivisor_2 rfl (lv_at hl 2 rfl) ?_
  refine lv_istore_n (lv' := [(3, .int v1), (2, .int v0), (0, .int v0), (1, .int v1)]) X.1.1 X.1.2.1 dX5_greatestDivisor_3 rfl hl (by decide) rfl (fun ls hl => ?_)
  refine lv_iconst (v := (iI 0)) X.1.1 X.1.2.1 dX5_greatestDivisor_4 rfl ?_
  refine lv_istore (lv' := [(4, .int (iI 0)), (3, .int v1), (2, .int v0), (0, .int v0), (1, .int v1)]) X.1.1 X.1.2.1 dX5_greatestDivisor_5 hl (by decide) rfl (fun ls hl => ?_)
  have lp7 : ∀ (k : Int32 → Int32 → Int32 → Option Int32), (∀ (v2_1001 : Int32) (v3_1001 : Int32) (v4_1001 : Int32) (ls : Array Slot), lv_has ls 6 [(0, .int v0), (1, .int v1), (2, .int v2_1001), (3, .int v3_1001), (4, .int v4_1001)] → k v2_1001 v3_1001 v4_1001 = some u → W p l e rm5_greatestDivisor s m ([.int v0, .int v1] : List Value).toArray below meth c s.heap [] 0 0 (MQ below (QcRead u) ([.int v0, .int v1] : List Value).toArray s 0 0 (fun _ => False)) (F0 m 34 ls [])) → ∀ (n : Nat) (v2_1001 : Int32) (v3_1001 : Int32) (v4_1001 : Int32) (ls : Array Slot), lv_has ls 6 [(0, .int v0), (1, .int v1), (2, .int v2_1001), (3, .int v3_1001), (4, .int v4_1001)] → l5_greatestDivisor_7 k n v2_1001 v3_1001 v4_1001 = some u → W p l e rm5_greatestDivisor s m ([.int v0, .int v1] : List Value).toArray below meth c s.heap [] 0 0 (MQ below (QcRead u) ([.int v0, .int v1] : List Value).toArray s 0 0 (fun _ => False)) (F0 m 7 ls []) := by
    intro k hex n
    induction n with
    | zero =>
      intro v2_1001 v3_1001 v4_1001 ls hl hE
      exact absurd (show (none : Option Int32) = some u from hE) (fun h => by cases h)
    | succ n ih =>
      intro v2_1001 v3_1001 v4_1001 ls hl hE
      rw [l5_greatestDivisor_7] at hE
      refine lv_iload X.1.1 X.1.2.1 dX5_greatestDivisor_7 (lv_at hl 4 rfl) ?_
      refine lv_bipush (v := (iI 64)) X.1.1 X.1.2.1 dX5_greatestDivisor_9 (by decide) ?_
      refine lv_icmp_ge (tgt := 34) X.1.1 X.1.2.1 dX5_greatestDivisor_11 (by decide) (fun c_11 => ?_) (fun c_11 => ?_)
      · have hE := ite_t hE c_11
        exact hex v2_1001 v3_1001 v4_1001 ls (lv_sub hl [0, 1, 2, 3, 4] rfl) hE
      · have hE := ite_f hE c_11
        refine lv_iload_n X.1.1 X.1.2.1 dX5_greatestDivisor_14 rfl (lv_at hl 3 rfl) ?_
        refine lv_if_eq (tgt := 34) X.1.1 X.1.2.1 dX5_greatestDivisor_15 (by decide) (fun c_15 => ?_) (fun c_15 => ?_)
        · have hE := ite_t hE c_15
          exact hex v2_1001 v3_1001 v4_1001 ls (lv_sub hl [0, 1, 2, 3, 4] rfl) hE
        · have hE := ite_f hE c_15
          refine lv_iload_n X.1.1 X.1.2.1 dX5_greatestDivisor_18 rfl (lv_at hl 2 rfl) ?_
          refine lv_iload_n X.1.1 X.1.2.1 dX5_greatestDivisor_19 rfl (lv_at hl 3 rfl) ?_
          obtain ⟨g_20, hE⟩ := nz_some hE
          refine r_irem X.1.1 X.1.2.1 dX5_greatestDivisor_20 g_20 ?_
          refine lv_istore (lv' := [(5, .int (rmI v2_1001 v3_1001)), (0, .int v0), (1, .int v1), (2, .int v2_1001), (3, .int v3_1001), (4, .int v4_1001)]) X.1.1 X.1.2.1 dX5_greatestDivisor_21 hl (by decide) rfl (fun ls hl => ?_)
          refine lv_iload_n X.1.1 X.1.2.1 dX5_greatestDivisor_23 rfl (lv_at hl 4 rfl) ?_
          refine lv_istore_n (lv' := [(2, .int v3_1001), (5, .int (rmI v2_1001 v3_1001)), (0, .int v0), (1, .int v1), (3, .int v3_1001), (4, .int v4_1001)]) X.1.1 X.1.2.1 dX5_greatestDivisor_24 rfl hl (by decide) rfl (fun ls hl => ?_)
          refine lv_iload X.1.1 X.1.2.1 dX5_greatestDivisor_25 (lv_at hl 1 rfl) ?_
          refine lv_istore_n (lv' := [(3, .int (rmI v2_1001 v3_1001)), (2, .int v3_1001), (5, .int (rmI v2_1001 v3_1001)), (0, .int v0), (1, .int v1), (4, .int v4_1001)]) X.1.1 X.1.2.1 dX5_greatestDivisor_27 rfl hl (by decide) rfl (fun ls hl => ?_)
          refine lv_iinc (v := (v4_1001 + (iI 1))) (lv' := [(4, .int (v4_1001 + (iI 1))), (3, .int (rmI v2_1001 v3_1001)), (2, .int v3_1001), (5, .int (rmI v2_1001 v3_1001)), (0, .int v0), (1, .int v1)]) X.1.1 X.1.2.1 dX5_greatestDivisor_28 hl (k := 5) rfl rfl (by decide) rfl (fun ls hl => ?_)
          refine lv_goto (tgt := 7) X.1.1 X.1.2.1 dX5_greatestDivisor_31 (by decide) ?_
          exact ih v3_1001 (rmI v2_1001 v3_1001) (v4_1001 + (iI 1)) ls (lv_sub hl [4, 5, 2, 1, 0] rfl) hE
  refine lp7 _ (fun v2_1001 v3_1001 v4_1001 ls hl hE => ?_) FU v0 v1 (iI 0) ls (lv_sub hl [3, 4, 2, 1, 0] rfl) hE
  refine lv_iload_n X.1.1 X.1.2.1 dX5_greatestDivisor_34 rfl (lv_at hl 2 rfl) ?_
  cases hE
  exact retR X dX5_greatestDivisor_35
theorem o5_fraction : oS yX5_fraction cX5_fraction 4 (some .int) 3 := ⟨tw524, tw523, tw39, ⟨by decide +kernel, by decide +kernel⟩, by decide +kernel⟩
abbrev rm5_fraction : Room := { frames := 1, cells := 0, slots := 0, locals := 25 }
set_option maxHeartbeats 4000000 in
set_option maxRecDepth 100000 in
theorem c5_fraction {l : Launch} {G : va_G} {cI cZ : ClassId} {v0 : Int32} {v1 : Int32} {v2 : Int32} {u : Int32} (hE : f5_fraction v0 v1 v2 = some u) : Met l yX5_fraction (Cond.code yX5_fraction cX5_fraction 4 (some .int) :: TB) rm5_fraction (PcR G cI cZ [] ([.int v0, .int v1, .int v2] : List Value)) (QcRead u) 0 0 (fun _ => False) := by
  refine metR (own := RX5) (by decide +kernel) rfl (Nat.le_of_ble_eq_true rfl) ?_
  intro p e s m below meth c ls X hP hK hl
  have hl : lv_has ls 4 [(0, .int v0), (1, .int v1), (2, .int v2)] := hl
  unfold f5_fraction at hE
  refine lv_iload_n X.1.1 X.1.2.1 dX5_fraction_0 rfl (lv_at hl 0 rfl) ?_
  refine lv_iload_n X.1.1 X.1.2.1 dX5_fraction_1 rfl (lv_at hl 1 rfl) ?_
  obtain ⟨u1001, e_u1001, hE⟩ := bd_some hE
  refine callRS (wsC := []) (As := [.int v0, .int v1]) (rest := []) (cI := cI) (cZ := cZ) X (c5_greatestDivisor (l := l) (G := G) (cI := cI) (cZ := cZ) e_u1001) o5_greatestDivisor tw525 ⟨rfl, rfl, Nat.le_of_ble_eq_true rfl, Nat.le_of_ble_eq_true rfl⟩ va_P_nil hK rfl hl rfl (by decide) ⟨Nat.le_refl _, Nat.le_refl _⟩ dX5_fraction_2 ?_
  refine lv_istore_n (lv' := [(3, .int u1001), (0, .int v0), (1, .int v1), (2, .int v2)]) X.1.1 X.1.2.1 dX5_fraction_5 rfl hl (by decide) rfl (fun ls hl => ?_)
  refine lv_iload_n X.1.1 X.1.2.1 dX5_fraction_6 rfl (lv_at hl 0 rfl) ?_
  refine lv_iconst (v := (iI 1)) X.1.1 X.1.2.1 dX5_fraction_7 rfl ?_
  refine lv_icmp_ge (tgt := 21) X.1.1 X.1.2.1 dX5_fraction_8 (by decide) (fun c_8 => ?_) (fun c_8 => ?_)
  · have hE := ite_t hE c_8
    refine lv_iload_n X.1.1 X.1.2.1 dX5_fraction_21 rfl (lv_at hl 3 rfl) ?_
    refine lv_if_eq (tgt := 31) X.1.1 X.1.2.1 dX5_fraction_22 (by decide) (fun c_22 => ?_) (fun c_22 => ?_)
    · have hE := ite_t hE c_22
      refine lv_iload_n X.1.1 X.1.2.1 dX5_fraction_31 rfl (lv_at hl 2 rfl) ?_
      refine lv_iload_n X.1.1 X.1.2.1 dX5_fraction_32 rfl (lv_at hl 0 rfl) ?_
      obtain ⟨g_33, hE⟩ := nz_some hE
      refine lv_idiv X.1.1 X.1.2.1 dX5_fraction_33 g_33 ?_
      cases hE
      exact retR X dX5_fraction_34
    · have hE := ite_f hE c_22
      refine lv_iload_n X.1.1 X.1.2.1 dX5_fraction_25 rfl (lv_at hl 1 rfl) ?_
      refine lv_iload_n X.1.1 X.1.2.1 dX5_fraction_26 rfl (lv_at hl 0 rfl) ?_
      obtain ⟨g_27, hE⟩ := nz_some hE
      refine lv_idiv X.1.1 X.1.2.1 dX5_fraction_27 g_27 ?_
      refine lv_goto (tgt := 34) X.1.1 X.1.2.1 dX5_fraction_28 (by decide) ?_
      cases hE
      exact retR X dX5_fraction_34
  · have hE := ite_f hE c_8
    refine lv_iload_n X.1.1 X.1.2.1 dX5_fraction_11 rfl (lv_at hl 3 rfl) ?_
    refine lv_if_eq (tgt := 19) X.1.1 X.1.2.1 dX5_fraction_12 (by decide) (fun c_12 => ?_) (fun c_12 => ?_)
    · have hE := ite_t hE c_12
      refine lv_iload_n X.1.1 X.1.2.1 dX5_fraction_19 rfl (lv_at hl 2 rfl) ?_
      cases hE
      exact retR X dX5_fraction_20
    · have hE := ite_f hE c_12
      refine lv_iload_n X.1.1 X.1.2.1 dX5_fraction_15 rfl (lv_at hl 1 rfl) ?_
      refine lv_goto (tgt := 20) X.1.1 X.1.2.1 dX5_fraction_16 (by decide) ?_
      cases hE
      exact retR X dX5_fraction_20
theorem o5_share : oV yX5_share RX5 cX5_share 6 (some .int) 2 := ⟨tw517, tw515, tw516, tw39, ⟨by decide +kernel, by decide +kernel⟩, by decide +kernel⟩
abbrev rm5_share : Room := { frames := 5, cells := 0, slots := 0, locals := 115 }
set_option maxHeartbeats 4000000 in
set_option maxRecDepth 100000 in
theorem c5_share {l : Launch} {G : va_G} {cI cZ : ClassId} {q0 q1 q2 q3 q4 q5 q6 q7 q8 q9 q10 q11 q12 q13 q14 q15 q16 q17 q18 q19 : Nat} {lt : Nat → Int32} {ln : Int32} {ki : Nat → Int32} {sp : Nat → Int32} {tu : Nat → Int32} {wo : Int32} {th : Int32} {st : Nat → Int32} {ch : Int32} {ya : Int32} {ow : Int32} {ca : Int32} {hu : Int32} {le : Int32} {tst : Nat → Int32} {tch : Int32} {tya : Int32} {tow : Int32} {tca : Int32} {thu : Int32} {tle : Int32} {an : Nat → Int32} {sn : Nat → Int32} {kp : Nat → Int32} {so : Nat → Int32} {sf : Nat → Int32} {sc : Nat → Int32} {ss : Int32} {ai : Int32} {sd : Int64} {v1 : Int32} {v2 : Int32} {u : Int32} (hE : f5_share v1 v2 ki sp tu wo th st hu = some u) : Met l yX5_share (Cond.code yX5_share cX5_share 6 (some .int) :: TB) rm5_share (PcR G cI cZ (wB cI cZ q0 q1 q2 q3 q4 q5 q6 q7 q8 q9 q10 q11 q12 q13 q14 q15 q16 q17 q18 q19 lt ln ki sp tu wo th st ch ya ow ca hu le tst tch tya tow tca thu tle an sn kp so sf sc ss ai sd) ([.ref q0, .int v1, .int v2] : List Value)) (QcRead u) 0 0 (fun _ => False) := by
  refine metR (own := RX5) (by decide +kernel) rfl (Nat.le_of_ble_eq_true rfl) ?_
  intro p e s m below meth c ls X hP hK hl
  have hl : lv_has ls 6 [(0, .ref q0), (1, .int v1), (2, .int v2)] := hl
  unfold f5_share at hE
  refine lv_aload_n X.1.1 X.1.2.1 dX5_share_0 rfl (lv_at hl 0 rfl) ?_
  refine gf5_19 X hK hP 0 rfl rfl dX5_share_1 ?_
  refine lv_iload_n X.1.1 X.1.2.1 dX5_share_4 rfl (lv_at hl 1 rfl) ?_
  obtain ⟨u1001, e_u1001, hE⟩ := bd_some hE
  refine callRV (wsC := (wF cI cZ q3 q4 q5 q6 ki sp tu wo th)) (As := [.int v1]) (rest := []) (ci := 1) X (c1_hasWord (l := l) e_u1001) o1_hasWord tw274 ⟨rfl, rfl, Nat.le_of_ble_eq_true rfl, Nat.le_of_ble_eq_true rfl⟩ (hP.sub [3, 4, 5, 6] rfl) hK 0 rfl rfl rfl rfl hl rfl (by decide) ⟨Nat.le_refl _, Nat.le_refl _⟩ dX5_share_5 ?_
  refine lv_if_ne (tgt := 13) X.1.1 X.1.2.1 dX5_share_8 (by decide) (fun c_8 => ?_) (fun c_8 => ?_)
  · have hE := ite_f hE c_8
    refine lv_iconst (v := (iI 0)) X.1.1 X.1.2.1 dX5_share_13 rfl ?_
    refine lv_istore_n (lv' := [(3, .int (iI 0)), (0, .ref q0), (1, .int v1), (2, .int v2)]) X.1.1 X.1.2.1 dX5_share_14 rfl hl (by decide) rfl (fun ls hl => ?_)
    refine lv_iconst (v := (iI 0)) X.1.1 X.1.2.1 dX5_share_15 rfl ?_
    refine lv_istore (lv' := [(4, .int (iI 0)), (3, .int (iI 0)), (0, .ref q0), (1, .int v1), (2, .int v2)]) X.1.1 X.1.2.1 dX5_share_16 hl (by decide) rfl (fun ls hl => ?_)
    have lp18 : ∀ (k : Int32 → Int32 → Option Int32), (∀ (v3_1002 : Int32) (v4_1002 : Int32) (ls : Array Slot), lv_has ls 6 [(0, .ref q0), (1, .int v1), (2, .int v2), (3, .int v3_1002), (4, .int v4_1002)] → k v3_1002 v4_1002 = some u → W p l e rm5_share s m ([.ref q0, .int v1, .int v2] : List Value).toArray below meth c s.heap [] 0 0 (MQ below (QcRead u) ([.ref q0, .int v1, .int v2] : List Value).toArray s 0 0 (fun _ => False)) (F0 m 69 ls [])) → ∀ (n : Nat) (v3_1002 : Int32) (v4_1002 : Int32) (ls : Array Slot), lv_has ls 6 [(0, .ref q0), (1, .int v1), (2, .int v2), (3, .int v3_1002), (4, .int v4_1002)] → l5_share_18 k v1 ki sp tu wo th st hu n v3_1002 v4_1002 = some u → W p l e rm5_share s m ([.ref q0, .int v1, .int v2] : List Value).toArray below meth c s.heap [] 0 0 (MQ below (QcRead u) ([.ref q0, .int v1, .int v2] : List Value).toArray s 0 0 (fun _ => False)) (F0 m 18 ls []) := by
      intro k hex n
      induction n with
      | zero =>
        intro v3_1002 v4_1002 ls hl hE
        exact absurd (show (none : Option Int32) = some u from hE) (fun h => by cases h)
      | succ n ih =>
        intro v3_1002 v4_1002 ls hl hE
        rw [l5_share_18] at hE
        refine lv_iload X.1.1 X.1.2.1 dX5_share_18 (lv_at hl 4 rfl) ?_
        refine lv_bipush (v := (iI 9)) X.1.1 X.1.2.1 dX5_share_20 (by decide) ?_
        refine lv_icmp_gt (tgt := 69) X.1.1 X.1.2.1 dX5_share_22 (by decide) (fun c_22 => ?_) (fun c_22 => ?_)
        · have hE := ite_t hE c_22
          exact hex v3_1002 v4_1002 ls (lv_sub hl [0, 1, 2, 3, 4] rfl) hE
        · have hE := ite_f hE c_22
          refine lv_aload_n X.1.1 X.1.2.1 dX5_share_25 rfl (lv_at hl 0 rfl) ?_
          refine lv_iload X.1.1 X.1.2.1 dX5_share_26 (lv_at hl 4 rfl) ?_
          obtain ⟨u1003, e_u1003, hE⟩ := bd_some hE
          refine callRV (wsC := (wB cI cZ q0 q1 q2 q3 q4 q5 q6 q7 q8 q9 q10 q11 q12 q13 q14 q15 q16 q17 q18 q19 lt ln ki sp tu wo th st ch ya ow ca hu le tst tch tya tow tca thu tle an sn kp so sf sc ss ai sd)) (As := [.int v4_1002]) (rest := []) (ci := 5) X (c5_wordsThatBring (l := l) e_u1003) o5_wordsThatBring tw518 ⟨rfl, rfl, Nat.le_of_ble_eq_true rfl, Nat.le_of_ble_eq_true rfl⟩ hP hK 0 rfl rfl rfl rfl hl rfl (by decide) ⟨Nat.le_refl _, Nat.le_refl _⟩ dX5_share_28 ?_
          refine lv_istore (lv' := [(5, .int u1003), (0, .ref q0), (1, .int v1), (2, .int v2), (3, .int v3_1002), (4, .int v4_1002)]) X.1.1 X.1.2.1 dX5_share_31 hl (by decide) rfl (fun ls hl => ?_)
          refine lv_iload X.1.1 X.1.2.1 dX5_share_33 (lv_at hl 0 rfl) ?_
          refine lv_if_le (tgt := 63) X.1.1 X.1.2.1 dX5_share_35 (by decide) (fun c_35 => ?_) (fun c_35 => ?_)
          · have hE := ite_t hE c_35
            refine lv_iinc (v := (v4_1002 + (iI 1))) (lv' := [(4, .int (v4_1002 + (iI 1))), (5, .int u1003), (0, .ref q0), (1, .int v1), (2, .int v2), (3, .int v3_1002)]) X.1.1 X.1.2.1 dX5_share_63 hl (k := 5) rfl rfl (by decide) rfl (fun ls hl => ?_)
            refine lv_goto (tgt := 18) X.1.1 X.1.2.1 dX5_share_66 (by decide) ?_
            exact ih v3_1002 (v4_1002 + (iI 1)) ls (lv_sub hl [2, 3, 4, 5, 0] rfl) hE
          · have hE := ite_f hE c_35
            refine lv_aload_n X.1.1 X.1.2.1 dX5_share_38 rfl (lv_at hl 1 rfl) ?_
            refine gf5_19 X hK hP 0 rfl rfl dX5_share_39 ?_
            refine lv_aload_n X.1.1 X.1.2.1 dX5_share_42 rfl (lv_at hl 1 rfl) ?_
            refine gf5_26 X hK hP 0 rfl rfl dX5_share_43 ?_
            refine lv_iload_n X.1.1 X.1.2.1 dX5_share_46 rfl (lv_at hl 2 rfl) ?_
            refine lv_iload X.1.1 X.1.2.1 dX5_share_47 (lv_at hl 5 rfl) ?_
            obtain ⟨u1004, e_u1004, hE⟩ := bd_some hE
            refine callRV (wsC := (wFD cI cZ q3 q4 q5 q6 q7 q8 ki sp tu wo th st ch ya ow ca hu le)) (As := [.ref q7, .int v1, .int v4_1002]) (rest := []) (ci := 1) X (c1_brings (l := l) e_u1004) o1_brings tw296 ⟨rfl, rfl, Nat.le_of_ble_eq_true rfl, Nat.le_of_ble_eq_true rfl⟩ (hP.sub [3, 4, 5, 6, 7, 8] rfl) hK 0 rfl rfl rfl rfl hl rfl (by decide) ⟨Nat.le_refl _, Nat.le_refl _⟩ dX5_share_49 ?_
            refine lv_if_eq (tgt := 63) X.1.1 X.1.2.1 dX5_share_52 (by decide) (fun c_52 => ?_) (fun c_52 => ?_)
            · have hE := ite_t hE c_52
              refine lv_iinc (v := (v4_1002 + (iI 1))) (lv' := [(4, .int (v4_1002 + (iI 1))), (5, .int u1003), (0, .ref q0), (1, .int v1), (2, .int v2), (3, .int v3_1002)]) X.1.1 X.1.2.1 dX5_share_63 hl (k := 5) rfl rfl (by decide) rfl (fun ls hl => ?_)
              refine lv_goto (tgt := 18) X.1.1 X.1.2.1 dX5_share_66 (by decide) ?_
              exact ih v3_1002 (v4_1002 + (iI 1)) ls (lv_sub hl [2, 3, 4, 5, 0] rfl) hE
            · have hE := ite_f hE c_52
              refine lv_iload_n X.1.1 X.1.2.1 dX5_share_55 rfl (lv_at hl 4 rfl) ?_
              refine lv_bipush (v := (iI 12)) X.1.1 X.1.2.1 dX5_share_56 (by decide) ?_
              refine lv_iload X.1.1 X.1.2.1 dX5_share_58 (lv_at hl 0 rfl) ?_
              obtain ⟨g_60, hE⟩ := nz_some hE
              refine lv_idiv X.1.1 X.1.2.1 dX5_share_60 g_60 ?_
              refine lv_iadd X.1.1 X.1.2.1 dX5_share_61 ?_
              refine lv_istore_n (lv' := [(3, .int (v3_1002 + ((iI 12) / u1003))), (5, .int u1003), (0, .ref q0), (1, .int v1), (2, .int v2), (4, .int v4_1002)]) X.1.1 X.1.2.1 dX5_share_62 rfl hl (by decide) rfl (fun ls hl => ?_)
              refine lv_iinc (v := (v4_1002 + (iI 1))) (lv' := [(4, .int (v4_1002 + (iI 1))), (3, .int (v3_1002 + ((iI 12) / u1003))), (5, .int u1003), (0, .ref q0), (1, .int v1), (2, .int v2)]) X.1.1 X.1.2.1 dX5_share_63 hl (k := 5) rfl rfl (by decide) rfl (fun ls hl => ?_)
              refine lv_goto (tgt := 18) X.1.1 X.1.2.1 dX5_share_66 (by decide) ?_
              exact ih (v3_1002 + ((iI 12) / u1003)) (v4_1002 + (iI 1)) ls (lv_sub hl [3, 4, 5, 1, 0] rfl) hE
    refine lp18 _ (fun v3_1002 v4_1002 ls hl hE => ?_) FU (iI 0) (iI 0) ls (lv_sub hl [2, 3, 4, 1, 0] rfl) hE
    refine lv_iload_n X.1.1 X.1.2.1 dX5_share_69 rfl (lv_at hl 3 rfl) ?_
    refine lv_bipush (v := (iI 12)) X.1.1 X.1.2.1 dX5_share_70 (by decide) ?_
    refine lv_iload_n X.1.1 X.1.2.1 dX5_share_72 rfl (lv_at hl 2 rfl) ?_
    obtain ⟨u1005, e_u1005, hE⟩ := bd_some hE
    refine callRS (wsC := []) (As := [.int v3_1002, .int (iI 12), .int v2]) (rest := []) (cI := cI) (cZ := cZ) X (c5_fraction (l := l) (G := G) (cI := cI) (cZ := cZ) e_u1005) o5_fraction tw522 ⟨rfl, rfl, Nat.le_of_ble_eq_true rfl, Nat.le_of_ble_eq_true rfl⟩ va_P_nil hK rfl hl rfl (by decide) ⟨Nat.le_refl _, Nat.le_refl _⟩ dX5_share_73 ?_
    cases hE
    exact retR X dX5_share_76
  · have hE := ite_t hE c_8
    refine lv_iconst (v := (iI (-1))) X.1.1 X.1.2.1 dX5_share_11 rfl ?_
    cases hE
    exact retR X dX5_share_12
theorem o5_gainOf : oV yX5_gainOf RX5 cX5_gainOf 5 (some .int) 3 := ⟨tw539, tw538, tw12, tw39, ⟨by decide +kernel, by decide +kernel⟩, by decide +kernel⟩
abbrev rm5_gainOf : Room := { frames := 3, cells := 0, slots := 0, locals := 69 }
set_option maxHeartbeats 4000000 in
set_option maxRecDepth 100000 in
theorem c5_gainOf {l : Launch} {G : va_G} {cI cZ : ClassId} {q0 q1 q2 q3 q4 q5 q6 q7 q8 q9 q10 q11 q12 q13 q14 q15 q16 q17 q18 q19 : Nat} {lt : Nat → Int32} {ln : Int32} {ki : Nat → Int32} {sp : Nat → Int32} {tu : Nat → Int32} {wo : Int32} {th : Int32} {st : Nat → Int32} {ch : Int32} {ya : Int32} {ow : Int32} {ca : Int32} {hu : Int32} {le : Int32} {tst : Nat → Int32} {tch : Int32} {tya : Int32} {tow : Int32} {tca : Int32} {thu : Int32} {tle : Int32} {an : Nat → Int32} {sn : Nat → Int32} {kp : Nat → Int32} {so : Nat → Int32} {sf : Nat → Int32} {sc : Nat → Int32} {ss : Int32} {ai : Int32} {sd : Int64} {v1 : Int32} {v2 : Int32} {v3 : Int32} {u : Int32} (hE : f5_gainOf v1 v2 v3 ki sp tu th st ya hu = some u) : Met l yX5_gainOf (Cond.code yX5_gainOf cX5_gainOf 5 (some .int) :: TB) rm5_gainOf (PcR G cI cZ (wB cI cZ q0 q1 q2 q3 q4 q5 q6 q7 q8 q9 q10 q11 q12 q13 q14 q15 q16 q17 q18 q19 lt ln ki sp tu wo th st ch ya ow ca hu le tst tch tya tow tca thu tle an sn kp so sf sc ss ai sd) ([.ref q0, .int v1, .int v2, .int v3] : List Value)) (QcRead u) 0 0 (fun _ => False) := by
  refine metR (own := RX5) (by decide +kernel) rfl (Nat.le_of_ble_eq_true rfl) ?_
  intro p e s m below meth c ls X hP hK hl
  have hl : lv_has ls 5 [(0, .ref q0), (1, .int v1), (2, .int v2), (3, .int v3)] := hl
  unfold f5_gainOf at hE
  refine lv_iload_n X.1.1 X.1.2.1 dX5_gainOf_0 rfl (lv_at hl 2 rfl) ?_
  refine lv_if_ne (tgt := 6) X.1.1 X.1.2.1 dX5_gainOf_1 (by decide) (fun c_1 => ?_) (fun c_1 => ?_)
  · have hE := ite_f hE c_1
    refine lv_aload_n X.1.1 X.1.2.1 dX5_gainOf_6 rfl (lv_at hl 0 rfl) ?_
    refine gf5_19 X hK hP 0 rfl rfl dX5_gainOf_7 ?_
    refine lv_aload_n X.1.1 X.1.2.1 dX5_gainOf_10 rfl (lv_at hl 0 rfl) ?_
    refine gf5_26 X hK hP 0 rfl rfl dX5_gainOf_11 ?_
    refine lv_iload_n X.1.1 X.1.2.1 dX5_gainOf_14 rfl (lv_at hl 1 rfl) ?_
    refine lv_aload_n X.1.1 X.1.2.1 dX5_gainOf_15 rfl (lv_at hl 0 rfl) ?_
    refine gf5_26 X hK hP 0 rfl rfl dX5_gainOf_16 ?_
    refine gf5_117 X hK hP 7 rfl rfl dX5_gainOf_19 ?_
    obtain ⟨u1001, e_u1001, hE⟩ := bd_some hE
    refine callRV (wsC := (wFD cI cZ q3 q4 q5 q6 q7 q8 ki sp tu wo th st ch ya ow ca hu le)) (As := [.ref q7, .int v1, .int ya]) (rest := []) (ci := 1) X (c1_powerOf (l := l) e_u1001) o1_powerOf tw286 ⟨rfl, rfl, Nat.le_of_ble_eq_true rfl, Nat.le_of_ble_eq_true rfl⟩ (hP.sub [3, 4, 5, 6, 7, 8] rfl) hK 0 rfl rfl rfl rfl hl rfl (by decide) ⟨Nat.le_refl _, Nat.le_refl _⟩ dX5_gainOf_22 ?_
    refine lv_iconst (v := (iI 2)) X.1.1 X.1.2.1 dX5_gainOf_25 rfl ?_
    refine lv_iload_n X.1.1 X.1.2.1 dX5_gainOf_26 rfl (lv_at hl 3 rfl) ?_
    refine lv_imul X.1.1 X.1.2.1 dX5_gainOf_27 ?_
    refine lv_isub X.1.1 X.1.2.1 dX5_gainOf_28 ?_
    refine lv_istore (lv' := [(4, .int (u1001 - ((iI 2) * v3))), (0, .ref q0), (1, .int v1), (2, .int v2), (3, .int v3)]) X.1.1 X.1.2.1 dX5_gainOf_29 hl (by decide) rfl (fun ls hl => ?_)
    refine lv_aload_n X.1.1 X.1.2.1 dX5_gainOf_31 rfl (lv_at hl 1 rfl) ?_
    refine gf5_19 X hK hP 0 rfl rfl dX5_gainOf_32 ?_
    refine lv_iload X.1.1 X.1.2.1 dX5_gainOf_35 (lv_at hl 0 rfl) ?_
    refine lv_aload_n X.1.1 X.1.2.1 dX5_gainOf_37 rfl (lv_at hl 1 rfl) ?_
    refine gf5_26 X hK hP 0 rfl rfl dX5_gainOf_38 ?_
    refine gf5_117 X hK hP 7 rfl rfl dX5_gainOf_41 ?_
    refine lv_bipush (v := (iI 15)) X.1.1 X.1.2.1 dX5_gainOf_44 (by decide) ?_
    obtain ⟨u1002, e_u1002, hE⟩ := bd_some hE
    refine callRV (wsC := (wF cI cZ q3 q4 q5 q6 ki sp tu wo th)) (As := [.int (u1001 - ((iI 2) * v3)), .int ya, .int (iI 15)]) (rest := []) (ci := 1) X (c1_isEnough (l := l) e_u1002) o1_isEnough tw472 ⟨rfl, rfl, Nat.le_of_ble_eq_true rfl, Nat.le_of_ble_eq_true rfl⟩ (hP.sub [3, 4, 5, 6] rfl) hK 0 rfl rfl rfl rfl hl rfl (by decide) ⟨Nat.le_refl _, Nat.le_refl _⟩ dX5_gainOf_46 ?_
    refine lv_if_eq (tgt := 58) X.1.1 X.1.2.1 dX5_gainOf_49 (by decide) (fun c_49 => ?_) (fun c_49 => ?_)
    · have hE := ite_t hE c_49
      refine lv_iconst (v := (iI (-1))) X.1.1 X.1.2.1 dX5_gainOf_58 rfl ?_
      cases hE
      exact retR X dX5_gainOf_59
    · have hE := ite_f hE c_49
      refine lv_iconst (v := (iI 3)) X.1.1 X.1.2.1 dX5_gainOf_52 rfl ?_
      refine lv_iload_n X.1.1 X.1.2.1 dX5_gainOf_53 rfl (lv_at hl 4 rfl) ?_
      refine lv_isub X.1.1 X.1.2.1 dX5_gainOf_54 ?_
      refine lv_goto (tgt := 59) X.1.1 X.1.2.1 dX5_gainOf_55 (by decide) ?_
      cases hE
      exact retR X dX5_gainOf_59
  · have hE := ite_t hE c_1
    refine lv_iconst (v := (iI 0)) X.1.1 X.1.2.1 dX5_gainOf_4 rfl ?_
    cases hE
    exact retR X dX5_gainOf_5
theorem o5_isContent : oV yX5_isContent RX5 cX5_isContent 4 (some .boolean) 3 := ⟨tw535, tw534, tw11, tw39, ⟨by decide +kernel, by decide +kernel⟩, by decide +kernel⟩
abbrev rm5_isContent : Room := { frames := 4, cells := 0, slots := 0, locals := 93 }
set_option maxHeartbeats 4000000 in
set_option maxRecDepth 100000 in
theorem c5_isContent {l : Launch} {G : va_G} {cI cZ : ClassId} {q0 q1 q2 q3 q4 q5 q6 q7 q8 q9 q10 q11 q12 q13 q14 q15 q16 q17 q18 q19 : Nat} {lt : Nat → Int32} {ln : Int32} {ki : Nat → Int32} {sp : Nat → Int32} {tu : Nat → Int32} {wo : Int32} {th : Int32} {st : Nat → Int32} {ch : Int32} {ya : Int32} {ow : Int32} {ca : Int32} {hu : Int32} {le : Int32} {tst : Nat → Int32} {tch : Int32} {tya : Int32} {tow : Int32} {tca : Int32} {thu : Int32} {tle : Int32} {an : Nat → Int32} {sn : Nat → Int32} {kp : Nat → Int32} {so : Nat → Int32} {sf : Nat → Int32} {sc : Nat → Int32} {ss : Int32} {ai : Int32} {sd : Int64} {v1 : Int32} {v2 : Int32} {v3 : Int32} {u : Int32} (hE : f5_isContent v1 v2 v3 ki sp tu th st ya hu = some u) : Met l yX5_isContent (Cond.code yX5_isContent cX5_isContent 4 (some .boolean) :: TB) rm5_isContent (PcR G cI cZ (wB cI cZ q0 q1 q2 q3 q4 q5 q6 q7 q8 q9 q10 q11 q12 q13 q14 q15 q16 q17 q18 q19 lt ln ki sp tu wo th st ch ya ow ca hu le tst tch tya tow tca thu tle an sn kp so sf sc ss ai sd) ([.ref q0, .int v1, .int v2, .int v3] : List Value)) (QcRead u) 0 0 (fun _ => False) := by
  refine metR (own := RX5) (by decide +kernel) rfl (Nat.le_of_ble_eq_true rfl) ?_
  intro p e s m below meth c ls X hP hK hl
  have hl : lv_has ls 4 [(0, .ref q0), (1, .int v1), (2, .int v2), (3, .int v3)] := hl
  unfold f5_isContent at hE
  refine lv_aload_n X.1.1 X.1.2.1 dX5_isContent_0 rfl (lv_at hl 0 rfl) ?_
  refine lv_iload_n X.1.1 X.1.2.1 dX5_isContent_1 rfl (lv_at hl 1 rfl) ?_
  refine lv_iload_n X.1.1 X.1.2.1 dX5_isContent_2 rfl (lv_at hl 2 rfl) ?_
  refine lv_iload_n X.1.1 X.1.2.1 dX5_isContent_3 rfl (lv_at hl 3 rfl) ?_
  obtain ⟨u1001, e_u1001, hE⟩ := bd_some hE
  refine callRV (wsC := (wB cI cZ q0 q1 q2 q3 q4 q5 q6 q7 q8 q9 q10 q11 q12 q13 q14 q15 q16 q17 q18 q19 lt ln ki sp tu wo th st ch ya ow ca hu le tst tch tya tow tca thu tle an sn kp so sf sc ss ai sd)) (As := [.int v1, .int v2, .int v3]) (rest := []) (ci := 5) X (c5_gainOf (l := l) e_u1001) o5_gainOf tw536 ⟨rfl, rfl, Nat.le_of_ble_eq_true rfl, Nat.le_of_ble_eq_true rfl⟩ hP hK 0 rfl rfl rfl rfl hl rfl (by decide) ⟨Nat.le_refl _, Nat.le_refl _⟩ dX5_isContent_4 ?_
  refine lv_aload_n X.1.1 X.1.2.1 dX5_isContent_7 rfl (lv_at hl 0 rfl) ?_
  refine lv_iload_n X.1.1 X.1.2.1 dX5_isContent_8 rfl (lv_at hl 1 rfl) ?_
  refine lv_iconst (v := (iI 1)) X.1.1 X.1.2.1 dX5_isContent_9 rfl ?_
  refine lv_iload_n X.1.1 X.1.2.1 dX5_isContent_10 rfl (lv_at hl 2 rfl) ?_
  refine lv_isub X.1.1 X.1.2.1 dX5_isContent_11 ?_
  refine lv_iload_n X.1.1 X.1.2.1 dX5_isContent_12 rfl (lv_at hl 3 rfl) ?_
  obtain ⟨u1002, e_u1002, hE⟩ := bd_some hE
  refine callRV (wsC := (wB cI cZ q0 q1 q2 q3 q4 q5 q6 q7 q8 q9 q10 q11 q12 q13 q14 q15 q16 q17 q18 q19 lt ln ki sp tu wo th st ch ya ow ca hu le tst tch tya tow tca thu tle an sn kp so sf sc ss ai sd)) (As := [.int v1, .int ((iI 1) - v2), .int v3]) (rest := [.int u1001]) (ci := 5) X (c5_gainOf (l := l) e_u1002) o5_gainOf tw536 ⟨rfl, rfl, Nat.le_of_ble_eq_true rfl, Nat.le_of_ble_eq_true rfl⟩ hP hK 0 rfl rfl rfl rfl hl rfl (Nat.le_of_ble_eq_true rfl) ⟨Nat.le_refl _, Nat.le_refl _⟩ dX5_isContent_13 ?_
  refine lv_icmp_lt (tgt := 23) X.1.1 X.1.2.1 dX5_isContent_16 (by decide) (fun c_16 => ?_) (fun c_16 => ?_)
  · have hE := ite_t hE c_16
    refine lv_iconst (v := (iI 0)) X.1.1 X.1.2.1 dX5_isContent_23 rfl ?_
    cases hE
    exact retRZ X okB_0 dX5_isContent_24
  · have hE := ite_f hE c_16
    refine lv_iconst (v := (iI 1)) X.1.1 X.1.2.1 dX5_isContent_19 rfl ?_
    refine lv_goto (tgt := 24) X.1.1 X.1.2.1 dX5_isContent_20 (by decide) ?_
    cases hE
    exact retRZ X okB_1 dX5_isContent_24
theorem o5_rests : oV yX5_rests RX5 cX5_rests 8 (some .int) 3 := ⟨tw531, tw529, tw530, tw39, ⟨by decide +kernel, by decide +kernel⟩, by decide +kernel⟩
abbrev rm5_rests : Room := { frames := 5, cells := 0, slots := 0, locals := 116 }
set_option maxHeartbeats 4000000 in
set_option maxRecDepth 100000 in
theorem c5_rests {l : Launch} {G : va_G} {cI cZ : ClassId} {q0 q1 q2 q3 q4 q5 q6 q7 q8 q9 q10 q11 q12 q13 q14 q15 q16 q17 q18 q19 : Nat} {lt : Nat → Int32} {ln : Int32} {ki : Nat → Int32} {sp : Nat → Int32} {tu : Nat → Int32} {wo : Int32} {th : Int32} {st : Nat → Int32} {ch : Int32} {ya : Int32} {ow : Int32} {ca : Int32} {hu : Int32} {le : Int32} {tst : Nat → Int32} {tch : Int32} {tya : Int32} {tow : Int32} {tca : Int32} {thu : Int32} {tle : Int32} {an : Nat → Int32} {sn : Nat → Int32} {kp : Nat → Int32} {so : Nat → Int32} {sf : Nat → Int32} {sc : Nat → Int32} {ss : Int32} {ai : Int32} {sd : Int64} {v1 : Int32} {v2 : Int32} {v3 : Int32} {u : Int32} (hE : f5_rests v1 v2 v3 ki sp tu wo th st ya hu = some u) : Met l yX5_rests (Cond.code yX5_rests cX5_rests 8 (some .int) :: TB) rm5_rests (PcR G cI cZ (wB cI cZ q0 q1 q2 q3 q4 q5 q6 q7 q8 q9 q10 q11 q12 q13 q14 q15 q16 q17 q18 q19 lt ln ki sp tu wo th st ch ya ow ca hu le tst tch tya tow tca thu tle an sn kp so sf sc ss ai sd) ([.ref q0, .int v1, .int v2, .int v3] : List Value)) (QcRead u) 0 0 (fun _ => False) := by
  refine metR (own := RX5) (by decide +kernel) rfl (Nat.le_of_ble_eq_true rfl) ?_
  intro p e s m below meth c ls X hP hK hl
  have hl : lv_has ls 8 [(0, .ref q0), (1, .int v1), (2, .int v2), (3, .int v3)] := hl
  unfold f5_rests at hE
  refine lv_aload_n X.1.1 X.1.2.1 dX5_rests_0 rfl (lv_at hl 0 rfl) ?_
  refine gf5_19 X hK hP 0 rfl rfl dX5_rests_1 ?_
  refine lv_iload_n X.1.1 X.1.2.1 dX5_rests_4 rfl (lv_at hl 1 rfl) ?_
  obtain ⟨u1001, e_u1001, hE⟩ := bd_some hE
  refine callRV (wsC := (wF cI cZ q3 q4 q5 q6 ki sp tu wo th)) (As := [.int v1]) (rest := []) (ci := 1) X (c1_hasWord (l := l) e_u1001) o1_hasWord tw274 ⟨rfl, rfl, Nat.le_of_ble_eq_true rfl, Nat.le_of_ble_eq_true rfl⟩ (hP.sub [3, 4, 5, 6] rfl) hK 0 rfl rfl rfl rfl hl rfl (by decide) ⟨Nat.le_refl _, Nat.le_refl _⟩ dX5_rests_5 ?_
  refine lv_if_eq (tgt := 22) X.1.1 X.1.2.1 dX5_rests_8 (by decide) (fun c_8 => ?_) (fun c_8 => ?_)
  · have hE := ite_t hE c_8
    refine lv_iconst (v := (iI (-1))) X.1.1 X.1.2.1 dX5_rests_22 rfl ?_
    cases hE
    exact retR X dX5_rests_23
  · have hE := ite_f hE c_8
    refine lv_aload_n X.1.1 X.1.2.1 dX5_rests_11 rfl (lv_at hl 0 rfl) ?_
    refine gf5_19 X hK hP 0 rfl rfl dX5_rests_12 ?_
    refine lv_iload_n X.1.1 X.1.2.1 dX5_rests_15 rfl (lv_at hl 2 rfl) ?_
    obtain ⟨u1002, e_u1002, hE⟩ := bd_some hE
    refine callRV (wsC := (wF cI cZ q3 q4 q5 q6 ki sp tu wo th)) (As := [.int v2]) (rest := []) (ci := 1) X (c1_hasWord (l := l) e_u1002) o1_hasWord tw274 ⟨rfl, rfl, Nat.le_of_ble_eq_true rfl, Nat.le_of_ble_eq_true rfl⟩ (hP.sub [3, 4, 5, 6] rfl) hK 0 rfl rfl rfl rfl hl rfl (by decide) ⟨Nat.le_refl _, Nat.le_refl _⟩ dX5_rests_16 ?_
    refine lv_if_ne (tgt := 24) X.1.1 X.1.2.1 dX5_rests_19 (by decide) (fun c_19 => ?_) (fun c_19 => ?_)
    · have hE := ite_f hE c_19
      refine lv_iload_n X.1.1 X.1.2.1 dX5_rests_24 rfl (lv_at hl 3 rfl) ?_
      refine lv_if_lt (tgt := 33) X.1.1 X.1.2.1 dX5_rests_25 (by decide) (fun c_25 => ?_) (fun c_25 => ?_)
      · have hE := ite_t hE c_25
        refine lv_bipush (v := (iI (-2))) X.1.1 X.1.2.1 dX5_rests_33 (by decide) ?_
        cases hE
        exact retR X dX5_rests_35
      · have hE := ite_f hE c_25
        refine lv_iload_n X.1.1 X.1.2.1 dX5_rests_28 rfl (lv_at hl 3 rfl) ?_
        refine lv_iconst (v := (iI 1)) X.1.1 X.1.2.1 dX5_rests_29 rfl ?_
        refine lv_icmp_le (tgt := 36) X.1.1 X.1.2.1 dX5_rests_30 (by decide) (fun c_30 => ?_) (fun c_30 => ?_)
        · have hE := ite_t hE c_30
          refine lv_iconst (v := (iI 0)) X.1.1 X.1.2.1 dX5_rests_36 rfl ?_
          refine lv_istore (lv' := [(4, .int (iI 0)), (0, .ref q0), (1, .int v1), (2, .int v2), (3, .int v3)]) X.1.1 X.1.2.1 dX5_rests_37 hl (by decide) rfl (fun ls hl => ?_)
          refine lv_bipush (v := (iI (-9))) X.1.1 X.1.2.1 dX5_rests_39 (by decide) ?_
          refine lv_istore (lv' := [(5, .int (iI (-9))), (4, .int (iI 0)), (0, .ref q0), (1, .int v1), (2, .int v2), (3, .int v3)]) X.1.1 X.1.2.1 dX5_rests_41 hl (by decide) rfl (fun ls hl => ?_)
          refine lv_iconst (v := (iI 0)) X.1.1 X.1.2.1 dX5_rests_43 rfl ?_
          refine lv_istore (lv' := [(6, .int (iI 0)), (5, .int (iI (-9))), (4, .int (iI 0)), (0, .ref q0), (1, .int v1), (2, .int v2), (3, .int v3)]) X.1.1 X.1.2.1 dX5_rests_44 hl (by decide) rfl (fun ls hl => ?_)
          have lp46 : ∀ (k : Int32 → Int32 → Int32 → Option Int32), (∀ (v4_1003 : Int32) (v5_1003 : Int32) (v6_1003 : Int32) (ls : Array Slot), lv_has ls 8 [(0, .ref q0), (1, .int v1), (2, .int v2), (3, .int v3), (4, .int v4_1003), (5, .int v5_1003), (6, .int v6_1003)] → k v4_1003 v5_1003 v6_1003 = some u → W p l e rm5_rests s m ([.ref q0, .int v1, .int v2, .int v3] : List Value).toArray below meth c s.heap [] 0 0 (MQ below (QcRead u) ([.ref q0, .int v1, .int v2, .int v3] : List Value).toArray s 0 0 (fun _ => False)) (F0 m 118 ls [])) → ∀ (n : Nat) (v4_1003 : Int32) (v5_1003 : Int32) (v6_1003 : Int32) (ls : Array Slot), lv_has ls 8 [(0, .ref q0), (1, .int v1), (2, .int v2), (3, .int v3), (4, .int v4_1003), (5, .int v5_1003), (6, .int v6_1003)] → l5_rests_46 k v1 v2 ki sp tu th st ya hu n v4_1003 v5_1003 v6_1003 = some u → W p l e rm5_rests s m ([.ref q0, .int v1, .int v2, .int v3] : List Value).toArray below meth c s.heap [] 0 0 (MQ below (QcRead u) ([.ref q0, .int v1, .int v2, .int v3] : List Value).toArray s 0 0 (fun _ => False)) (F0 m 46 ls []) := by
            intro k hex n
            induction n with
            | zero =>
              intro v4_1003 v5_1003 v6_1003 ls hl hE
              exact absurd (show (none : Option Int32) = some u from hE) (fun h => by cases h)
            | succ n ih =>
              intro v4_1003 v5_1003 v6_1003 ls hl hE
              rw [l5_rests_46] at hE
              refine lv_iload X.1.1 X.1.2.1 dX5_rests_46 (lv_at hl 6 rfl) ?_
              refine lv_iconst (v := (iI 1)) X.1.1 X.1.2.1 dX5_rests_48 rfl ?_
              refine lv_icmp_gt (tgt := 118) X.1.1 X.1.2.1 dX5_rests_49 (by decide) (fun c_49 => ?_) (fun c_49 => ?_)
              · have hE := ite_t hE c_49
                exact hex v4_1003 v5_1003 v6_1003 ls (lv_sub hl [0, 1, 2, 3, 4, 5, 6] rfl) hE
              · have hE := ite_f hE c_49
                refine lv_iconst (v := (iI 0)) X.1.1 X.1.2.1 dX5_rests_52 rfl ?_
                refine lv_istore (lv' := [(7, .int (iI 0)), (0, .ref q0), (1, .int v1), (2, .int v2), (3, .int v3), (4, .int v4_1003), (5, .int v5_1003), (6, .int v6_1003)]) X.1.1 X.1.2.1 dX5_rests_53 hl (by decide) rfl (fun ls hl => ?_)
                have lp55 : ∀ (k : Int32 → Int32 → Int32 → Option Int32), (∀ (v4_1004 : Int32) (v5_1004 : Int32) (v7_1004 : Int32) (ls : Array Slot), lv_has ls 8 [(0, .ref q0), (1, .int v1), (2, .int v2), (3, .int v3), (4, .int v4_1004), (5, .int v5_1004), (6, .int v6_1003), (7, .int v7_1004)] → k v4_1004 v5_1004 v7_1004 = some u → W p l e rm5_rests s m ([.ref q0, .int v1, .int v2, .int v3] : List Value).toArray below meth c s.heap [] 0 0 (MQ below (QcRead u) ([.ref q0, .int v1, .int v2, .int v3] : List Value).toArray s 0 0 (fun _ => False)) (F0 m 112 ls [])) → ∀ (n : Nat) (v4_1004 : Int32) (v5_1004 : Int32) (v7_1004 : Int32) (ls : Array Slot), lv_has ls 8 [(0, .ref q0), (1, .int v1), (2, .int v2), (3, .int v3), (4, .int v4_1004), (5, .int v5_1004), (6, .int v6_1003), (7, .int v7_1004)] → l5_rests_55 k v1 v2 v6_1003 ki sp tu th st ya hu n v4_1004 v5_1004 v7_1004 = some u → W p l e rm5_rests s m ([.ref q0, .int v1, .int v2, .int v3] : List Value).toArray below meth c s.heap [] 0 0 (MQ below (QcRead u) ([.ref q0, .int v1, .int v2, .int v3] : List Value).toArray s 0 0 (fun _ => False)) (F0 m 55 ls []) := by
                  intro k hex n
                  induction n with
                  | zero =>
                    intro v4_1004 v5_1004 v7_1004 ls hl hE
                    exact absurd (show (none : Option Int32) = some u from hE) (fun h => by cases h)
                  | succ n ih =>
                    intro v4_1004 v5_1004 v7_1004 ls hl hE
                    rw [l5_rests_55] at hE
                    refine lv_iload X.1.1 X.1.2.1 dX5_rests_55 (lv_at hl 7 rfl) ?_
                    refine lv_iconst (v := (iI 1)) X.1.1 X.1.2.1 dX5_rests_57 rfl ?_
                    refine lv_icmp_gt (tgt := 112) X.1.1 X.1.2.1 dX5_rests_58 (by decide) (fun c_58 => ?_) (fun c_58 => ?_)
                    · have hE := ite_t hE c_58
                      exact hex v4_1004 v5_1004 v7_1004 ls (lv_sub hl [0, 1, 2, 3, 4, 5, 6, 7] rfl) hE
                    · have hE := ite_f hE c_58
                      refine lv_aload_n X.1.1 X.1.2.1 dX5_rests_61 rfl (lv_at hl 0 rfl) ?_
                      refine lv_iload_n X.1.1 X.1.2.1 dX5_rests_62 rfl (lv_at hl 1 rfl) ?_
                      refine lv_iload X.1.1 X.1.2.1 dX5_rests_63 (lv_at hl 6 rfl) ?_
                      refine lv_iload X.1.1 X.1.2.1 dX5_rests_65 (lv_at hl 7 rfl) ?_
                      obtain ⟨u1005, e_u1005, hE⟩ := bd_some hE
                      refine callRV (wsC := (wB cI cZ q0 q1 q2 q3 q4 q5 q6 q7 q8 q9 q10 q11 q12 q13 q14 q15 q16 q17 q18 q19 lt ln ki sp tu wo th st ch ya ow ca hu le tst tch tya tow tca thu tle an sn kp so sf sc ss ai sd)) (As := [.int v1, .int v6_1003, .int v7_1004]) (rest := []) (ci := 5) X (c5_isContent (l := l) e_u1005) o5_isContent tw532 ⟨rfl, rfl, Nat.le_of_ble_eq_true rfl, Nat.le_of_ble_eq_true rfl⟩ hP hK 0 rfl rfl rfl rfl hl rfl (by decide) ⟨Nat.le_refl _, Nat.le_refl _⟩ dX5_rests_67 ?_
                      refine lv_if_eq (tgt := 106) X.1.1 X.1.2.1 dX5_rests_70 (by decide) (fun c_70 => ?_) (fun c_70 => ?_)
                      · have hE := ite_t hE c_70
                        refine lv_iinc (v := (v7_1004 + (iI 1))) (lv' := [(7, .int (v7_1004 + (iI 1))), (0, .ref q0), (1, .int v1), (2, .int v2), (3, .int v3), (4, .int v4_1004), (5, .int v5_1004), (6, .int v6_1003)]) X.1.1 X.1.2.1 dX5_rests_106 hl (k := 7) rfl rfl (by decide) rfl (fun ls hl => ?_)
                        refine lv_goto (tgt := 55) X.1.1 X.1.2.1 dX5_rests_109 (by decide) ?_
                        exact ih v4_1004 v5_1004 (v7_1004 + (iI 1)) ls (lv_sub hl [1, 2, 3, 4, 5, 6, 7, 0] rfl) hE
                      · have hE := ite_f hE c_70
                        refine lv_aload_n X.1.1 X.1.2.1 dX5_rests_73 rfl (lv_at hl 0 rfl) ?_
                        refine lv_iload_n X.1.1 X.1.2.1 dX5_rests_74 rfl (lv_at hl 2 rfl) ?_
                        refine lv_iload X.1.1 X.1.2.1 dX5_rests_75 (lv_at hl 7 rfl) ?_
                        refine lv_iload X.1.1 X.1.2.1 dX5_rests_77 (lv_at hl 6 rfl) ?_
                        obtain ⟨u1006, e_u1006, hE⟩ := bd_some hE
                        refine callRV (wsC := (wB cI cZ q0 q1 q2 q3 q4 q5 q6 q7 q8 q9 q10 q11 q12 q13 q14 q15 q16 q17 q18 q19 lt ln ki sp tu wo th st ch ya ow ca hu le tst tch tya tow tca thu tle an sn kp so sf sc ss ai sd)) (As := [.int v2, .int v7_1004, .int v6_1003]) (rest := []) (ci := 5) X (c5_isContent (l := l) e_u1006) o5_isContent tw532 ⟨rfl, rfl, Nat.le_of_ble_eq_true rfl, Nat.le_of_ble_eq_true rfl⟩ hP hK 0 rfl rfl rfl rfl hl rfl (by decide) ⟨Nat.le_refl _, Nat.le_refl _⟩ dX5_rests_79 ?_
                        refine lv_if_ne (tgt := 88) X.1.1 X.1.2.1 dX5_rests_82 (by decide) (fun c_82 => ?_) (fun c_82 => ?_)
                        · have hE := ite_f hE c_82
                          refine lv_iload X.1.1 X.1.2.1 dX5_rests_88 (lv_at hl 4 rfl) ?_
                          refine lv_if_ne (tgt := 103) X.1.1 X.1.2.1 dX5_rests_90 (by decide) (fun c_90 => ?_) (fun c_90 => ?_)
                          · have hE := ite_f hE c_90
                            refine lv_iinc (v := (v4_1004 + (iI 1))) (lv' := [(4, .int (v4_1004 + (iI 1))), (0, .ref q0), (1, .int v1), (2, .int v2), (3, .int v3), (5, .int v5_1004), (6, .int v6_1003), (7, .int v7_1004)]) X.1.1 X.1.2.1 dX5_rests_103 hl (k := 4) rfl rfl (by decide) rfl (fun ls hl => ?_)
                            refine lv_iinc (v := (v7_1004 + (iI 1))) (lv' := [(7, .int (v7_1004 + (iI 1))), (4, .int (v4_1004 + (iI 1))), (0, .ref q0), (1, .int v1), (2, .int v2), (3, .int v3), (5, .int v5_1004), (6, .int v6_1003)]) X.1.1 X.1.2.1 dX5_rests_106 hl (k := 7) rfl rfl (by decide) rfl (fun ls hl => ?_)
                            refine lv_goto (tgt := 55) X.1.1 X.1.2.1 dX5_rests_109 (by decide) ?_
                            exact ih (v4_1004 + (iI 1)) v5_1004 (v7_1004 + (iI 1)) ls (lv_sub hl [2, 3, 4, 5, 1, 6, 7, 0] rfl) hE
                          · have hE := ite_t hE c_90
                            refine lv_bipush (v := (iI 10)) X.1.1 X.1.2.1 dX5_rests_93 (by decide) ?_
                            refine lv_iload X.1.1 X.1.2.1 dX5_rests_95 (lv_at hl 6 rfl) ?_
                            refine lv_imul X.1.1 X.1.2.1 dX5_rests_97 ?_
                            refine lv_iload X.1.1 X.1.2.1 dX5_rests_98 (lv_at hl 7 rfl) ?_
                            refine lv_iadd X.1.1 X.1.2.1 dX5_rests_100 ?_
                            refine lv_istore (lv' := [(5, .int (((iI 10) * v6_1003) + v7_1004)), (0, .ref q0), (1, .int v1), (2, .int v2), (3, .int v3), (4, .int v4_1004), (6, .int v6_1003), (7, .int v7_1004)]) X.1.1 X.1.2.1 dX5_rests_101 hl (by decide) rfl (fun ls hl => ?_)
                            refine lv_iinc (v := (v4_1004 + (iI 1))) (lv' := [(4, .int (v4_1004 + (iI 1))), (5, .int (((iI 10) * v6_1003) + v7_1004)), (0, .ref q0), (1, .int v1), (2, .int v2), (3, .int v3), (6, .int v6_1003), (7, .int v7_1004)]) X.1.1 X.1.2.1 dX5_rests_103 hl (k := 5) rfl rfl (by decide) rfl (fun ls hl => ?_)
                            refine lv_iinc (v := (v7_1004 + (iI 1))) (lv' := [(7, .int (v7_1004 + (iI 1))), (4, .int (v4_1004 + (iI 1))), (5, .int (((iI 10) * v6_1003) + v7_1004)), (0, .ref q0), (1, .int v1), (2, .int v2), (3, .int v3), (6, .int v6_1003)]) X.1.1 X.1.2.1 dX5_rests_106 hl (k := 7) rfl rfl (by decide) rfl (fun ls hl => ?_)
                            refine lv_goto (tgt := 55) X.1.1 X.1.2.1 dX5_rests_109 (by decide) ?_
                            exact ih (v4_1004 + (iI 1)) (((iI 10) * v6_1003) + v7_1004) (v7_1004 + (iI 1)) ls (lv_sub hl [3, 4, 5, 6, 1, 2, 7, 0] rfl) hE
                        · have hE := ite_t hE c_82
                          refine lv_goto (tgt := 106) X.1.1 X.1.2.1 dX5_rests_85 (by decide) ?_
                          refine lv_iinc (v := (v7_1004 + (iI 1))) (lv' := [(7, .int (v7_1004 + (iI 1))), (0, .ref q0), (1, .int v1), (2, .int v2), (3, .int v3), (4, .int v4_1004), (5, .int v5_1004), (6, .int v6_1003)]) X.1.1 X.1.2.1 dX5_rests_106 hl (k := 7) rfl rfl (by decide) rfl (fun ls hl => ?_)
                          refine lv_goto (tgt := 55) X.1.1 X.1.2.1 dX5_rests_109 (by decide) ?_
                          exact ih v4_1004 v5_1004 (v7_1004 + (iI 1)) ls (lv_sub hl [1, 2, 3, 4, 5, 6, 7, 0] rfl) hE
                refine lp55 _ (fun v4_1004 v5_1004 v7_1004 ls hl hE => ?_) FU v4_1003 v5_1003 (iI 0) ls (lv_sub hl [1, 2, 3, 4, 5, 6, 7, 0] rfl) hE
                refine lv_iinc (v := (v6_1003 + (iI 1))) (lv' := [(6, .int (v6_1003 + (iI 1))), (0, .ref q0), (1, .int v1), (2, .int v2), (3, .int v3), (4, .int v4_1004), (5, .int v5_1004), (7, .int v7_1004)]) X.1.1 X.1.2.1 dX5_rests_112 hl (k := 6) rfl rfl (by decide) rfl (fun ls hl => ?_)
                refine lv_goto (tgt := 46) X.1.1 X.1.2.1 dX5_rests_115 (by decide) ?_
                exact ih v4_1004 v5_1004 (v6_1003 + (iI 1)) ls (lv_sub hl [1, 2, 3, 4, 5, 6, 0] rfl) hE
          refine lp46 _ (fun v4_1003 v5_1003 v6_1003 ls hl hE => ?_) FU (iI 0) (iI (-9)) (iI 0) ls (lv_sub hl [3, 4, 5, 6, 2, 1, 0] rfl) hE
          refine lv_iload_n X.1.1 X.1.2.1 dX5_rests_118 rfl (lv_at hl 3 rfl) ?_
          refine lv_if_ne (tgt := 127) X.1.1 X.1.2.1 dX5_rests_119 (by decide) (fun c_119 => ?_) (fun c_119 => ?_)
          · have hE := ite_f hE c_119
            refine lv_iload X.1.1 X.1.2.1 dX5_rests_127 (lv_at hl 5 rfl) ?_
            cases hE
            exact retR X dX5_rests_129
          · have hE := ite_t hE c_119
            refine lv_iload X.1.1 X.1.2.1 dX5_rests_122 (lv_at hl 4 rfl) ?_
            refine lv_goto (tgt := 129) X.1.1 X.1.2.1 dX5_rests_124 (by decide) ?_
            cases hE
            exact retR X dX5_rests_129
        · have hE := ite_f hE c_30
          refine lv_bipush (v := (iI (-2))) X.1.1 X.1.2.1 dX5_rests_33 (by decide) ?_
          cases hE
          exact retR X dX5_rests_35
    · have hE := ite_t hE c_19
      refine lv_iconst (v := (iI (-1))) X.1.1 X.1.2.1 dX5_rests_22 rfl ?_
      cases hE
      exact retR X dX5_rests_23
theorem o5_weightOf : oV yX5_weightOf RX5 cX5_weightOf 5 (some .int) 2 := ⟨tw547, tw546, tw13, tw39, ⟨by decide +kernel, by decide +kernel⟩, by decide +kernel⟩
abbrev rm5_weightOf : Room := { frames := 0, cells := 0, slots := 0, locals := 0 }
set_option maxHeartbeats 4000000 in
set_option maxRecDepth 100000 in
theorem c5_weightOf {l : Launch} {G : va_G} {cI cZ : ClassId} {q0 q1 q2 q3 q4 q5 q6 q7 q8 q9 q10 q11 q12 q13 q14 q15 q16 q17 q18 q19 : Nat} {lt : Nat → Int32} {ln : Int32} {ki : Nat → Int32} {sp : Nat → Int32} {tu : Nat → Int32} {wo : Int32} {th : Int32} {st : Nat → Int32} {ch : Int32} {ya : Int32} {ow : Int32} {ca : Int32} {hu : Int32} {le : Int32} {tst : Nat → Int32} {tch : Int32} {tya : Int32} {tow : Int32} {tca : Int32} {thu : Int32} {tle : Int32} {an : Nat → Int32} {sn : Nat → Int32} {kp : Nat → Int32} {so : Nat → Int32} {sf : Nat → Int32} {sc : Nat → Int32} {ss : Int32} {ai : Int32} {sd : Int64} {v1 : Int32} {v2 : Int32} {u : Int32} (hE : f5_weightOf v1 v2 th = some u) : Met l yX5_weightOf (Cond.code yX5_weightOf cX5_weightOf 5 (some .int) :: TB) rm5_weightOf (PcR G cI cZ (wB cI cZ q0 q1 q2 q3 q4 q5 q6 q7 q8 q9 q10 q11 q12 q13 q14 q15 q16 q17 q18 q19 lt ln ki sp tu wo th st ch ya ow ca hu le tst tch tya tow tca thu tle an sn kp so sf sc ss ai sd) ([.ref q0, .int v1, .int v2] : List Value)) (QcRead u) 0 0 (fun _ => False) := by
  refine metR (own := RX5) (by decide +kernel) rfl (Nat.le_of_ble_eq_true rfl) ?_
  intro p e s m below meth c ls X hP hK hl
  have hl : lv_has ls 5 [(0, .ref q0), (1, .int v1), (2, .int v2)] := hl
  unfold f5_weightOf at hE
  refine lv_iconst (v := (iI 1)) X.1.1 X.1.2.1 dX5_weightOf_0 rfl ?_
  refine lv_istore_n (lv' := [(3, .int (iI 1)), (0, .ref q0), (1, .int v1), (2, .int v2)]) X.1.1 X.1.2.1 dX5_weightOf_1 rfl hl (by decide) rfl (fun ls hl => ?_)
  refine lv_iconst (v := (iI 0)) X.1.1 X.1.2.1 dX5_weightOf_2 rfl ?_
  refine lv_istore (lv' := [(4, .int (iI 0)), (3, .int (iI 1)), (0, .ref q0), (1, .int v1), (2, .int v2)]) X.1.1 X.1.2.1 dX5_weightOf_3 hl (by decide) rfl (fun ls hl => ?_)
  have lp5 : ∀ (k : Int32 → Int32 → Option Int32), (∀ (v3_1001 : Int32) (v4_1001 : Int32) (ls : Array Slot), lv_has ls 5 [(0, .ref q0), (1, .int v1), (2, .int v2), (3, .int v3_1001), (4, .int v4_1001)] → k v3_1001 v4_1001 = some u → W p l e rm5_weightOf s m ([.ref q0, .int v1, .int v2] : List Value).toArray below meth c s.heap [] 0 0 (MQ below (QcRead u) ([.ref q0, .int v1, .int v2] : List Value).toArray s 0 0 (fun _ => False)) (F0 m 44 ls [])) → ∀ (n : Nat) (v3_1001 : Int32) (v4_1001 : Int32) (ls : Array Slot), lv_has ls 5 [(0, .ref q0), (1, .int v1), (2, .int v2), (3, .int v3_1001), (4, .int v4_1001)] → l5_weightOf_5 k v1 v2 th n v3_1001 v4_1001 = some u → W p l e rm5_weightOf s m ([.ref q0, .int v1, .int v2] : List Value).toArray below meth c s.heap [] 0 0 (MQ below (QcRead u) ([.ref q0, .int v1, .int v2] : List Value).toArray s 0 0 (fun _ => False)) (F0 m 5 ls []) := by
    intro k hex n
    induction n with
    | zero =>
      intro v3_1001 v4_1001 ls hl hE
      exact absurd (show (none : Option Int32) = some u from hE) (fun h => by cases h)
    | succ n ih =>
      intro v3_1001 v4_1001 ls hl hE
      rw [l5_weightOf_5] at hE
      refine lv_iload X.1.1 X.1.2.1 dX5_weightOf_5 (lv_at hl 4 rfl) ?_
      refine lv_aload_n X.1.1 X.1.2.1 dX5_weightOf_7 rfl (lv_at hl 0 rfl) ?_
      refine gf5_19 X hK hP 0 rfl rfl dX5_weightOf_8 ?_
      refine gf5_95 X hK hP 3 rfl rfl dX5_weightOf_11 ?_
      refine lv_icmp_ge (tgt := 44) X.1.1 X.1.2.1 dX5_weightOf_14 (by decide) (fun c_14 => ?_) (fun c_14 => ?_)
      · have hE := ite_t hE c_14
        exact hex v3_1001 v4_1001 ls (lv_sub hl [0, 1, 2, 3, 4] rfl) hE
      · have hE := ite_f hE c_14
        refine lv_iload_n X.1.1 X.1.2.1 dX5_weightOf_17 rfl (lv_at hl 3 rfl) ?_
        refine lv_iload_n X.1.1 X.1.2.1 dX5_weightOf_18 rfl (lv_at hl 1 rfl) ?_
        refine lv_iload X.1.1 X.1.2.1 dX5_weightOf_19 (lv_at hl 4 rfl) ?_
        refine lv_ishr X.1.1 X.1.2.1 dX5_weightOf_21 ?_
        refine lv_iconst (v := (iI 1)) X.1.1 X.1.2.1 dX5_weightOf_22 rfl ?_
        refine lv_iand X.1.1 X.1.2.1 dX5_weightOf_23 ?_
        refine lv_iconst (v := (iI 1)) X.1.1 X.1.2.1 dX5_weightOf_24 rfl ?_
        refine lv_icmp_ne (tgt := 32) X.1.1 X.1.2.1 dX5_weightOf_25 (by decide) (fun c_25 => ?_) (fun c_25 => ?_)
        · have hE := ite_f hE c_25
          refine lv_bipush (v := (iI 10)) X.1.1 X.1.2.1 dX5_weightOf_32 (by decide) ?_
          refine lv_iload_n X.1.1 X.1.2.1 dX5_weightOf_34 rfl (lv_at hl 2 rfl) ?_
          refine lv_isub X.1.1 X.1.2.1 dX5_weightOf_35 ?_
          refine lv_imul X.1.1 X.1.2.1 dX5_weightOf_36 ?_
          refine lv_istore_n (lv' := [(3, .int (v3_1001 * ((iI 10) - v2))), (0, .ref q0), (1, .int v1), (2, .int v2), (4, .int v4_1001)]) X.1.1 X.1.2.1 dX5_weightOf_37 rfl hl (by decide) rfl (fun ls hl => ?_)
          refine lv_iinc (v := (v4_1001 + (iI 1))) (lv' := [(4, .int (v4_1001 + (iI 1))), (3, .int (v3_1001 * ((iI 10) - v2))), (0, .ref q0), (1, .int v1), (2, .int v2)]) X.1.1 X.1.2.1 dX5_weightOf_38 hl (k := 4) rfl rfl (by decide) rfl (fun ls hl => ?_)
          refine lv_goto (tgt := 5) X.1.1 X.1.2.1 dX5_weightOf_41 (by decide) ?_
          exact ih (v3_1001 * ((iI 10) - v2)) (v4_1001 + (iI 1)) ls (lv_sub hl [2, 3, 4, 1, 0] rfl) hE
        · have hE := ite_t hE c_25
          refine lv_iload_n X.1.1 X.1.2.1 dX5_weightOf_28 rfl (lv_at hl 2 rfl) ?_
          refine lv_goto (tgt := 36) X.1.1 X.1.2.1 dX5_weightOf_29 (by decide) ?_
          refine lv_imul X.1.1 X.1.2.1 dX5_weightOf_36 ?_
          refine lv_istore_n (lv' := [(3, .int (v3_1001 * v2)), (0, .ref q0), (1, .int v1), (2, .int v2), (4, .int v4_1001)]) X.1.1 X.1.2.1 dX5_weightOf_37 rfl hl (by decide) rfl (fun ls hl => ?_)
          refine lv_iinc (v := (v4_1001 + (iI 1))) (lv' := [(4, .int (v4_1001 + (iI 1))), (3, .int (v3_1001 * v2)), (0, .ref q0), (1, .int v1), (2, .int v2)]) X.1.1 X.1.2.1 dX5_weightOf_38 hl (k := 4) rfl rfl (by decide) rfl (fun ls hl => ?_)
          refine lv_goto (tgt := 5) X.1.1 X.1.2.1 dX5_weightOf_41 (by decide) ?_
          exact ih (v3_1001 * v2) (v4_1001 + (iI 1)) ls (lv_sub hl [2, 3, 4, 1, 0] rfl) hE
  refine lp5 _ (fun v3_1001 v4_1001 ls hl hE => ?_) FU (iI 1) (iI 0) ls (lv_sub hl [2, 3, 4, 1, 0] rfl) hE
  refine lv_iload_n X.1.1 X.1.2.1 dX5_weightOf_44 rfl (lv_at hl 3 rfl) ?_
  cases hE
  exact retR X dX5_weightOf_45
theorem o5_there : oV yX5_there RX5 cX5_there 7 (some .int) 3 := ⟨tw543, tw541, tw542, tw39, ⟨by decide +kernel, by decide +kernel⟩, by decide +kernel⟩
abbrev rm5_there : Room := { frames := 3, cells := 0, slots := 0, locals := 69 }
set_option maxHeartbeats 4000000 in
set_option maxRecDepth 100000 in
theorem c5_there {l : Launch} {G : va_G} {cI cZ : ClassId} {q0 q1 q2 q3 q4 q5 q6 q7 q8 q9 q10 q11 q12 q13 q14 q15 q16 q17 q18 q19 : Nat} {lt : Nat → Int32} {ln : Int32} {ki : Nat → Int32} {sp : Nat → Int32} {tu : Nat → Int32} {wo : Int32} {th : Int32} {st : Nat → Int32} {ch : Int32} {ya : Int32} {ow : Int32} {ca : Int32} {hu : Int32} {le : Int32} {tst : Nat → Int32} {tch : Int32} {tya : Int32} {tow : Int32} {tca : Int32} {thu : Int32} {tle : Int32} {an : Nat → Int32} {sn : Nat → Int32} {kp : Nat → Int32} {so : Nat → Int32} {sf : Nat → Int32} {sc : Nat → Int32} {ss : Int32} {ai : Int32} {sd : Int64} {v1 : Int32} {v2 : Int32} {v3 : Int32} {u : Int32} (hE : f5_there v1 v2 v3 ki sp tu wo th st ya hu = some u) : Met l yX5_there (Cond.code yX5_there cX5_there 7 (some .int) :: TB) rm5_there (PcR G cI cZ (wB cI cZ q0 q1 q2 q3 q4 q5 q6 q7 q8 q9 q10 q11 q12 q13 q14 q15 q16 q17 q18 q19 lt ln ki sp tu wo th st ch ya ow ca hu le tst tch tya tow tca thu tle an sn kp so sf sc ss ai sd) ([.ref q0, .int v1, .int v2, .int v3] : List Value)) (QcRead u) 0 0 (fun _ => False) := by
  refine metR (own := RX5) (by decide +kernel) rfl (Nat.le_of_ble_eq_true rfl) ?_
  intro p e s m below meth c ls X hP hK hl
  have hl : lv_has ls 7 [(0, .ref q0), (1, .int v1), (2, .int v2), (3, .int v3)] := hl
  unfold f5_there at hE
  refine lv_aload_n X.1.1 X.1.2.1 dX5_there_0 rfl (lv_at hl 0 rfl) ?_
  refine gf5_19 X hK hP 0 rfl rfl dX5_there_1 ?_
  refine lv_iload_n X.1.1 X.1.2.1 dX5_there_4 rfl (lv_at hl 1 rfl) ?_
  obtain ⟨u1001, e_u1001, hE⟩ := bd_some hE
  refine callRV (wsC := (wF cI cZ q3 q4 q5 q6 ki sp tu wo th)) (As := [.int v1]) (rest := []) (ci := 1) X (c1_hasWord (l := l) e_u1001) o1_hasWord tw274 ⟨rfl, rfl, Nat.le_of_ble_eq_true rfl, Nat.le_of_ble_eq_true rfl⟩ (hP.sub [3, 4, 5, 6] rfl) hK 0 rfl rfl rfl rfl hl rfl (by decide) ⟨Nat.le_refl _, Nat.le_refl _⟩ dX5_there_5 ?_
  refine lv_if_ne (tgt := 13) X.1.1 X.1.2.1 dX5_there_8 (by decide) (fun c_8 => ?_) (fun c_8 => ?_)
  · have hE := ite_f hE c_8
    refine lv_iload_n X.1.1 X.1.2.1 dX5_there_13 rfl (lv_at hl 2 rfl) ?_
    refine lv_if_lt (tgt := 23) X.1.1 X.1.2.1 dX5_there_14 (by decide) (fun c_14 => ?_) (fun c_14 => ?_)
    · have hE := ite_t hE c_14
      refine lv_bipush (v := (iI (-2))) X.1.1 X.1.2.1 dX5_there_23 (by decide) ?_
      cases hE
      exact retR X dX5_there_25
    · have hE := ite_f hE c_14
      refine lv_iload_n X.1.1 X.1.2.1 dX5_there_17 rfl (lv_at hl 2 rfl) ?_
      refine lv_bipush (v := (iI 10)) X.1.1 X.1.2.1 dX5_there_18 (by decide) ?_
      refine lv_icmp_le (tgt := 26) X.1.1 X.1.2.1 dX5_there_20 (by decide) (fun c_20 => ?_) (fun c_20 => ?_)
      · have hE := ite_t hE c_20
        refine lv_aload_n X.1.1 X.1.2.1 dX5_there_26 rfl (lv_at hl 0 rfl) ?_
        refine gf5_19 X hK hP 0 rfl rfl dX5_there_27 ?_
        refine lv_aload_n X.1.1 X.1.2.1 dX5_there_30 rfl (lv_at hl 0 rfl) ?_
        refine gf5_26 X hK hP 0 rfl rfl dX5_there_31 ?_
        refine lv_iload_n X.1.1 X.1.2.1 dX5_there_34 rfl (lv_at hl 1 rfl) ?_
        refine lv_aload_n X.1.1 X.1.2.1 dX5_there_35 rfl (lv_at hl 0 rfl) ?_
        refine gf5_26 X hK hP 0 rfl rfl dX5_there_36 ?_
        refine gf5_117 X hK hP 7 rfl rfl dX5_there_39 ?_
        obtain ⟨u1002, e_u1002, hE⟩ := bd_some hE
        refine callRV (wsC := (wFD cI cZ q3 q4 q5 q6 q7 q8 ki sp tu wo th st ch ya ow ca hu le)) (As := [.ref q7, .int v1, .int ya]) (rest := []) (ci := 1) X (c1_powerOf (l := l) e_u1002) o1_powerOf tw286 ⟨rfl, rfl, Nat.le_of_ble_eq_true rfl, Nat.le_of_ble_eq_true rfl⟩ (hP.sub [3, 4, 5, 6, 7, 8] rfl) hK 0 rfl rfl rfl rfl hl rfl (by decide) ⟨Nat.le_refl _, Nat.le_refl _⟩ dX5_there_42 ?_
        refine lv_istore (lv' := [(4, .int u1002), (0, .ref q0), (1, .int v1), (2, .int v2), (3, .int v3)]) X.1.1 X.1.2.1 dX5_there_45 hl (by decide) rfl (fun ls hl => ?_)
        refine lv_iconst (v := (iI 0)) X.1.1 X.1.2.1 dX5_there_47 rfl ?_
        refine lv_istore (lv' := [(5, .int (iI 0)), (4, .int u1002), (0, .ref q0), (1, .int v1), (2, .int v2), (3, .int v3)]) X.1.1 X.1.2.1 dX5_there_48 hl (by decide) rfl (fun ls hl => ?_)
        refine lv_iconst (v := (iI 0)) X.1.1 X.1.2.1 dX5_there_50 rfl ?_
        refine lv_istore (lv' := [(6, .int (iI 0)), (5, .int (iI 0)), (4, .int u1002), (0, .ref q0), (1, .int v1), (2, .int v2), (3, .int v3)]) X.1.1 X.1.2.1 dX5_there_51 hl (by decide) rfl (fun ls hl => ?_)
        have lp53 : ∀ (k : Int32 → Int32 → Option Int32), (∀ (v5_1003 : Int32) (v6_1003 : Int32) (ls : Array Slot), lv_has ls 7 [(0, .ref q0), (1, .int v1), (2, .int v2), (3, .int v3), (4, .int u1002), (5, .int v5_1003), (6, .int v6_1003)] → k v5_1003 v6_1003 = some u → W p l e rm5_there s m ([.ref q0, .int v1, .int v2, .int v3] : List Value).toArray below meth c s.heap [] 0 0 (MQ below (QcRead u) ([.ref q0, .int v1, .int v2, .int v3] : List Value).toArray s 0 0 (fun _ => False)) (F0 m 106 ls [])) → ∀ (n : Nat) (v5_1003 : Int32) (v6_1003 : Int32) (ls : Array Slot), lv_has ls 7 [(0, .ref q0), (1, .int v1), (2, .int v2), (3, .int v3), (4, .int u1002), (5, .int v5_1003), (6, .int v6_1003)] → l5_there_53 k v2 u1002 sp tu th ya n v5_1003 v6_1003 = some u → W p l e rm5_there s m ([.ref q0, .int v1, .int v2, .int v3] : List Value).toArray below meth c s.heap [] 0 0 (MQ below (QcRead u) ([.ref q0, .int v1, .int v2, .int v3] : List Value).toArray s 0 0 (fun _ => False)) (F0 m 53 ls []) := by
          intro k hex n
          induction n with
          | zero =>
            intro v5_1003 v6_1003 ls hl hE
            exact absurd (show (none : Option Int32) = some u from hE) (fun h => by cases h)
          | succ n ih =>
            intro v5_1003 v6_1003 ls hl hE
            rw [l5_there_53] at hE
            refine lv_iload X.1.1 X.1.2.1 dX5_there_53 (lv_at hl 6 rfl) ?_
            refine lv_iconst (v := (iI 1)) X.1.1 X.1.2.1 dX5_there_55 rfl ?_
            refine lv_aload_n X.1.1 X.1.2.1 dX5_there_56 rfl (lv_at hl 0 rfl) ?_
            refine gf5_19 X hK hP 0 rfl rfl dX5_there_57 ?_
            refine gf5_95 X hK hP 3 rfl rfl dX5_there_60 ?_
            refine lv_ishl X.1.1 X.1.2.1 dX5_there_63 ?_
            refine lv_icmp_ge (tgt := 106) X.1.1 X.1.2.1 dX5_there_64 (by decide) (fun c_64 => ?_) (fun c_64 => ?_)
            · have hE := ite_t hE c_64
              exact hex v5_1003 v6_1003 ls (lv_sub hl [0, 1, 2, 3, 4, 5, 6] rfl) hE
            · have hE := ite_f hE c_64
              refine lv_aload_n X.1.1 X.1.2.1 dX5_there_67 rfl (lv_at hl 0 rfl) ?_
              refine gf5_19 X hK hP 0 rfl rfl dX5_there_68 ?_
              refine lv_iload X.1.1 X.1.2.1 dX5_there_71 (lv_at hl 4 rfl) ?_
              refine lv_aload_n X.1.1 X.1.2.1 dX5_there_73 rfl (lv_at hl 0 rfl) ?_
              refine gf5_26 X hK hP 0 rfl rfl dX5_there_74 ?_
              refine gf5_117 X hK hP 7 rfl rfl dX5_there_77 ?_
              refine lv_iload X.1.1 X.1.2.1 dX5_there_80 (lv_at hl 6 rfl) ?_
              obtain ⟨u1004, e_u1004, hE⟩ := bd_some hE
              refine callRV (wsC := (wF cI cZ q3 q4 q5 q6 ki sp tu wo th)) (As := [.int u1002, .int ya, .int v6_1003]) (rest := []) (ci := 1) X (c1_isEnough (l := l) e_u1004) o1_isEnough tw472 ⟨rfl, rfl, Nat.le_of_ble_eq_true rfl, Nat.le_of_ble_eq_true rfl⟩ (hP.sub [3, 4, 5, 6] rfl) hK 0 rfl rfl rfl rfl hl rfl (by decide) ⟨Nat.le_refl _, Nat.le_refl _⟩ dX5_there_82 ?_
              refine lv_if_eq (tgt := 100) X.1.1 X.1.2.1 dX5_there_85 (by decide) (fun c_85 => ?_) (fun c_85 => ?_)
              · have hE := ite_t hE c_85
                refine lv_iinc (v := (v6_1003 + (iI 1))) (lv' := [(6, .int (v6_1003 + (iI 1))), (0, .ref q0), (1, .int v1), (2, .int v2), (3, .int v3), (4, .int u1002), (5, .int v5_1003)]) X.1.1 X.1.2.1 dX5_there_100 hl (k := 6) rfl rfl (by decide) rfl (fun ls hl => ?_)
                refine lv_goto (tgt := 53) X.1.1 X.1.2.1 dX5_there_103 (by decide) ?_
                exact ih v5_1003 (v6_1003 + (iI 1)) ls (lv_sub hl [1, 2, 3, 4, 5, 6, 0] rfl) hE
              · have hE := ite_f hE c_85
                refine lv_iload X.1.1 X.1.2.1 dX5_there_88 (lv_at hl 5 rfl) ?_
                refine lv_aload_n X.1.1 X.1.2.1 dX5_there_90 rfl (lv_at hl 0 rfl) ?_
                refine lv_iload X.1.1 X.1.2.1 dX5_there_91 (lv_at hl 6 rfl) ?_
                refine lv_iload_n X.1.1 X.1.2.1 dX5_there_93 rfl (lv_at hl 2 rfl) ?_
                obtain ⟨u1005, e_u1005, hE⟩ := bd_some hE
                refine callRV (wsC := (wB cI cZ q0 q1 q2 q3 q4 q5 q6 q7 q8 q9 q10 q11 q12 q13 q14 q15 q16 q17 q18 q19 lt ln ki sp tu wo th st ch ya ow ca hu le tst tch tya tow tca thu tle an sn kp so sf sc ss ai sd)) (As := [.int v6_1003, .int v2]) (rest := [.int v5_1003]) (ci := 5) X (c5_weightOf (l := l) e_u1005) o5_weightOf tw544 ⟨rfl, rfl, Nat.le_of_ble_eq_true rfl, Nat.le_of_ble_eq_true rfl⟩ hP hK 0 rfl rfl rfl rfl hl rfl (Nat.le_of_ble_eq_true rfl) ⟨Nat.le_refl _, Nat.le_refl _⟩ dX5_there_94 ?_
                refine lv_iadd X.1.1 X.1.2.1 dX5_there_97 ?_
                refine lv_istore (lv' := [(5, .int (v5_1003 + u1005)), (0, .ref q0), (1, .int v1), (2, .int v2), (3, .int v3), (4, .int u1002), (6, .int v6_1003)]) X.1.1 X.1.2.1 dX5_there_98 hl (by decide) rfl (fun ls hl => ?_)
                refine lv_iinc (v := (v6_1003 + (iI 1))) (lv' := [(6, .int (v6_1003 + (iI 1))), (5, .int (v5_1003 + u1005)), (0, .ref q0), (1, .int v1), (2, .int v2), (3, .int v3), (4, .int u1002)]) X.1.1 X.1.2.1 dX5_there_100 hl (k := 6) rfl rfl (by decide) rfl (fun ls hl => ?_)
                refine lv_goto (tgt := 53) X.1.1 X.1.2.1 dX5_there_103 (by decide) ?_
                exact ih (v5_1003 + u1005) (v6_1003 + (iI 1)) ls (lv_sub hl [2, 3, 4, 5, 6, 1, 0] rfl) hE
        refine lp53 _ (fun v5_1003 v6_1003 ls hl hE => ?_) FU (iI 0) (iI 0) ls (lv_sub hl [3, 4, 5, 6, 2, 1, 0] rfl) hE
        refine lv_iload X.1.1 X.1.2.1 dX5_there_106 (lv_at hl 5 rfl) ?_
        refine lv_aload_n X.1.1 X.1.2.1 dX5_there_108 rfl (lv_at hl 0 rfl) ?_
        refine gf5_19 X hK hP 0 rfl rfl dX5_there_109 ?_
        refine gf5_95 X hK hP 3 rfl rfl dX5_there_112 ?_
        obtain ⟨u1006, e_u1006, hE⟩ := bd_some hE
        refine callRS (wsC := []) (As := [.int th]) (rest := [.int v5_1003]) (cI := cI) (cZ := cZ) X (c5_tenTo (l := l) (G := G) (cI := cI) (cZ := cZ) e_u1006) o5_tenTo tw477 ⟨rfl, rfl, Nat.le_of_ble_eq_true rfl, Nat.le_of_ble_eq_true rfl⟩ va_P_nil hK rfl hl rfl (Nat.le_of_ble_eq_true rfl) ⟨Nat.le_refl _, Nat.le_refl _⟩ dX5_there_115 ?_
        refine lv_iload_n X.1.1 X.1.2.1 dX5_there_118 rfl (lv_at hl 3 rfl) ?_
        obtain ⟨u1007, e_u1007, hE⟩ := bd_some hE
        refine callRS (wsC := []) (As := [.int v5_1003, .int u1006, .int v3]) (rest := []) (cI := cI) (cZ := cZ) X (c5_fraction (l := l) (G := G) (cI := cI) (cZ := cZ) e_u1007) o5_fraction tw522 ⟨rfl, rfl, Nat.le_of_ble_eq_true rfl, Nat.le_of_ble_eq_true rfl⟩ va_P_nil hK rfl hl rfl (by decide) ⟨Nat.le_refl _, Nat.le_refl _⟩ dX5_there_119 ?_
        cases hE
        exact retR X dX5_there_122
      · have hE := ite_f hE c_20
        refine lv_bipush (v := (iI (-2))) X.1.1 X.1.2.1 dX5_there_23 (by decide) ?_
        cases hE
        exact retR X dX5_there_25
  · have hE := ite_t hE c_8
    refine lv_iconst (v := (iI (-1))) X.1.1 X.1.2.1 dX5_there_11 rfl ?_
    cases hE
    exact retR X dX5_there_12
theorem o5_seed : oV yX5_seed RX5 cX5_seed 5 (some .long) 1 := ⟨tw551, tw549, tw550, tw39, ⟨by decide +kernel, by decide +kernel⟩, by decide +kernel⟩
abbrev rm5_seed : Room := { frames := 0, cells := 0, slots := 0, locals := 0 }
set_option maxHeartbeats 4000000 in
set_option maxRecDepth 100000 in
theorem c5_seed {l : Launch} {G : va_G} {cI cZ : ClassId} {q0 q1 q2 q3 q4 q5 q6 q7 q8 q9 q10 q11 q12 q13 q14 q15 q16 q17 q18 q19 : Nat} {lt : Nat → Int32} {ln : Int32} {ki : Nat → Int32} {sp : Nat → Int32} {tu : Nat → Int32} {wo : Int32} {th : Int32} {st : Nat → Int32} {ch : Int32} {ya : Int32} {ow : Int32} {ca : Int32} {hu : Int32} {le : Int32} {tst : Nat → Int32} {tch : Int32} {tya : Int32} {tow : Int32} {tca : Int32} {thu : Int32} {tle : Int32} {an : Nat → Int32} {sn : Nat → Int32} {kp : Nat → Int32} {so : Nat → Int32} {sf : Nat → Int32} {sc : Nat → Int32} {ss : Int32} {ai : Int32} {sd : Int64} {v1 : Int64} {sz : Nat} {u : Int64 × Int64} (hE : f5_seed v1 sd = some u) : Met l yX5_seed (Cond.code yX5_seed cX5_seed 5 (some .long) :: TB) rm5_seed (PcW G cI cZ (wB cI cZ q0 q1 q2 q3 q4 q5 q6 q7 q8 q9 q10 q11 q12 q13 q14 q15 q16 q17 q18 q19 lt ln ki sp tu wo th st ch ya ow ca hu le tst tch tya tow tca thu tle an sn kp so sf sc ss ai sd) sz ([.ref q0, .long v1] : List Value)) (QW G (some (.long u.1)) (wB cI cZ q0 q1 q2 q3 q4 q5 q6 q7 q8 q9 q10 q11 q12 q13 q14 q15 q16 q17 q18 q19 lt ln ki sp tu wo th st ch ya ow ca hu le tst tch tya tow tca thu tle an sn kp so sf sc ss ai u.2) (va_A (wB cI cZ q0 q1 q2 q3 q4 q5 q6 q7 q8 q9 q10 q11 q12 q13 q14 q15 q16 q17 q18 q19 lt ln ki sp tu wo th st ch ya ow ca hu le tst tch tya tow tca thu tle an sn kp so sf sc ss ai sd) sz)) 0 0 (va_A (wB cI cZ q0 q1 q2 q3 q4 q5 q6 q7 q8 q9 q10 q11 q12 q13 q14 q15 q16 q17 q18 q19 lt ln ki sp tu wo th st ch ya ow ca hu le tst tch tya tow tca thu tle an sn kp so sf sc ss ai sd) sz) := by
  refine metW (own := RX5) (by decide +kernel) rfl (Nat.le_of_ble_eq_true rfl) ?_
  intro p e s m below meth c ls A X hA hP hK hD hl
  have hS : va_S A s.heap s.heap [] := va_S.rf
  have hl : lv_has ls 5 [(0, .ref q0), (1, .long v1)] := hl
  unfold f5_seed at hE
  refine lv_aload_n X.1.1 X.1.2.1 dX5_seed_0 rfl (lv_at hl 0 rfl) ?_
  refine gf5_251 X hK hP 0 rfl rfl dX5_seed_1 ?_
  refine lv_lstore_n (lv' := [(3, .long sd), (0, .ref q0), (1, .long v1)]) X.1.1 X.1.2.1 dX5_seed_4 rfl hl (by decide) rfl (fun ls hl => ?_)
  refine lv_aload_n X.1.1 X.1.2.1 dX5_seed_5 rfl (lv_at hl 1 rfl) ?_
  refine lv_lload_n X.1.1 X.1.2.1 dX5_seed_6 rfl (lv_at hl 2 rfl) ?_
  refine pf5_251 (ws2 := (wB cI cZ q0 q1 q2 q3 q4 q5 q6 q7 q8 q9 q10 q11 q12 q13 q14 q15 q16 q17 q18 q19 lt ln ki sp tu wo th st ch ya ow ca hu le tst tch tya tow tca thu tle an sn kp so sf sc ss ai v1)) X hK hP hD hS 0 rfl (Nat.le_of_ble_eq_true rfl) rfl dX5_seed_7 (fun H locs hP hD hS => ?_)
  refine lv_lload_n X.1.1 X.1.2.1 dX5_seed_10 rfl (lv_at hl 0 rfl) ?_
  cases hE
  exact retWL X hP hS dX5_seed_11
theorem o5_returnsFrom : oV yX5_returnsFrom RX5 cX5_returnsFrom 4 (some .boolean) 2 := ⟨tw562, tw561, tw14, tw39, ⟨by decide +kernel, by decide +kernel⟩, by decide +kernel⟩
abbrev rm5_returnsFrom : Room := { frames := 5, cells := 0, slots := 0, locals := 115 }
set_option maxHeartbeats 4000000 in
set_option maxRecDepth 100000 in
theorem c5_returnsFrom {l : Launch} {G : va_G} {cI cZ : ClassId} {q0 q1 q2 q3 q4 q5 q6 q7 q8 q9 q10 q11 q12 q13 q14 q15 q16 q17 q18 q19 : Nat} {lt : Nat → Int32} {ln : Int32} {ki : Nat → Int32} {sp : Nat → Int32} {tu : Nat → Int32} {wo : Int32} {th : Int32} {st : Nat → Int32} {ch : Int32} {ya : Int32} {ow : Int32} {ca : Int32} {hu : Int32} {le : Int32} {tst : Nat → Int32} {tch : Int32} {tya : Int32} {tow : Int32} {tca : Int32} {thu : Int32} {tle : Int32} {an : Nat → Int32} {sn : Nat → Int32} {kp : Nat → Int32} {so : Nat → Int32} {sf : Nat → Int32} {sc : Nat → Int32} {ss : Int32} {ai : Int32} {sd : Int64} {v2 : Int32} {sz : Nat} {u : Int32 × (Nat → Int32) × Int32 × Int32 × Int32 × Int32} (hE : f5_returnsFrom v2 ki sp tu wo th tst tch tya tca thu = some u) : Met l yX5_returnsFrom (Cond.code yX5_returnsFrom cX5_returnsFrom 4 (some .boolean) :: TB) rm5_returnsFrom (PcW G cI cZ (wB cI cZ q0 q1 q2 q3 q4 q5 q6 q7 q8 q9 q10 q11 q12 q13 q14 q15 q16 q17 q18 q19 lt ln ki sp tu wo th st ch ya ow ca hu le tst tch tya tow tca thu tle an sn kp so sf sc ss ai sd) sz ([.ref q0, .ref q9, .int v2] : List Value)) (QW G (some (.int u.1)) (wB cI cZ q0 q1 q2 q3 q4 q5 q6 q7 q8 q9 q10 q11 q12 q13 q14 q15 q16 q17 q18 q19 lt ln ki sp tu wo th st ch ya ow ca hu le u.2.1 u.2.2.1 u.2.2.2.1 u.2.2.2.2.1 u.2.2.2.2.2 thu tle an sn kp so sf sc ss ai sd) (va_A (wB cI cZ q0 q1 q2 q3 q4 q5 q6 q7 q8 q9 q10 q11 q12 q13 q14 q15 q16 q17 q18 q19 lt ln ki sp tu wo th st ch ya ow ca hu le tst tch tya tow tca thu tle an sn kp so sf sc ss ai sd) sz)) 0 0 (va_A (wB cI cZ q0 q1 q2 q3 q4 q5 q6 q7 q8 q9 q10 q11 q12 q13 q14 q15 q16 q17 q18 q19 lt ln ki sp tu wo th st ch ya ow ca hu le tst tch tya tow tca thu tle an sn kp so sf sc ss ai sd) sz) := by
  refine metW (own := RX5) (by decide +kernel) rfl (Nat.le_of_ble_eq_true rfl) ?_
  intro p e s m below meth c ls A X hA hP hK hD hl
  have hS : va_S A s.heap s.heap [] := va_S.rf
  have hl : lv_has ls 4 [(0, .ref q0), (1, .ref q9), (2, .int v2)] := hl
  unfold f5_returnsFrom at hE
  refine lv_aload_n X.1.1 X.1.2.1 dX5_returnsFrom_0 rfl (lv_at hl 1 rfl) ?_
  refine lv_iload_n X.1.1 X.1.2.1 dX5_returnsFrom_1 rfl (lv_at hl 2 rfl) ?_
  refine lv_iconst (v := (iI 5)) X.1.1 X.1.2.1 dX5_returnsFrom_2 rfl ?_
  refine r_irem X.1.1 X.1.2.1 dX5_returnsFrom_3 (by decide) ?_
  obtain ⟨u1001, e_u1001, hE⟩ := bd_some hE
  refine callWV (wsC := (wD cI cZ q9 q10 tst tch tya tow tca thu tle)) (w1 := (wD cI cZ q9 q10 tst tch u1001.1 u1001.2 tca thu tle)) (ws' := (wB cI cZ q0 q1 q2 q3 q4 q5 q6 q7 q8 q9 q10 q11 q12 q13 q14 q15 q16 q17 q18 q19 lt ln ki sp tu wo th st ch ya ow ca hu le tst tch u1001.1 u1001.2 tca thu tle an sn kp so sf sc ss ai sd)) (As := [.int (rmI v2 (iI 5))]) (rest := []) (ov := none) (st1 := []) (ci := 0) X (c0_runOff (l := l) e_u1001) o0_runOff tw410 ⟨rfl, rfl, Nat.le_of_ble_eq_true rfl, Nat.le_of_ble_eq_true rfl⟩ hP hK hD hS hA [9, 10] (by decide) rfl rfl rfl (wB_fst.trans wB_fst.symm) 9 rfl rfl rfl rfl hl rfl (by decide) ⟨Nat.le_refl _, Nat.le_refl _⟩ rfl dX5_returnsFrom_4 (fun H locs hP hD hS => ?_)
  refine lv_iload_n X.1.1 X.1.2.1 dX5_returnsFrom_7 rfl (lv_at hl 2 rfl) ?_
  refine lv_iconst (v := (iI 5)) X.1.1 X.1.2.1 dX5_returnsFrom_8 rfl ?_
  refine lv_idiv X.1.1 X.1.2.1 dX5_returnsFrom_9 (by decide) ?_
  refine lv_istore_n (lv' := [(3, .int (v2 / (iI 5))), (0, .ref q0), (1, .ref q9), (2, .int v2)]) X.1.1 X.1.2.1 dX5_returnsFrom_10 rfl hl (by decide) rfl (fun ls hl => ?_)
  refine lv_aload_n X.1.1 X.1.2.1 dX5_returnsFrom_11 rfl (lv_at hl 1 rfl) ?_
  refine gf5_19 X hK hP 0 rfl rfl dX5_returnsFrom_12 ?_
  refine lv_iload_n X.1.1 X.1.2.1 dX5_returnsFrom_15 rfl (lv_at hl 0 rfl) ?_
  obtain ⟨u1002, e_u1002, hE⟩ := bd_some hE
  refine callRV (wsC := (wF cI cZ q3 q4 q5 q6 ki sp tu wo th)) (As := [.int (v2 / (iI 5))]) (rest := []) (ci := 1) X (c1_hasWord (l := l) e_u1002) o1_hasWord tw274 ⟨rfl, rfl, Nat.le_of_ble_eq_true rfl, Nat.le_of_ble_eq_true rfl⟩ (hP.sub [3, 4, 5, 6] rfl) hK 0 rfl rfl rfl rfl hl rfl (by decide) ⟨Nat.le_refl _, Nat.le_refl _⟩ dX5_returnsFrom_16 ?_
  refine lv_if_eq (tgt := 34) X.1.1 X.1.2.1 dX5_returnsFrom_19 (by decide) (fun c_19 => ?_) (fun c_19 => ?_)
  · have hE := ite_t hE c_19
    refine lv_iconst (v := (iI 0)) X.1.1 X.1.2.1 dX5_returnsFrom_34 rfl ?_
    cases hE
    exact retWZ X hP hS okB_0 dX5_returnsFrom_35
  · have hE := ite_f hE c_19
    refine lv_aload_n X.1.1 X.1.2.1 dX5_returnsFrom_22 rfl (lv_at hl 1 rfl) ?_
    refine gf5_19 X hK hP 0 rfl rfl dX5_returnsFrom_23 ?_
    refine lv_aload_n X.1.1 X.1.2.1 dX5_returnsFrom_26 rfl (lv_at hl 2 rfl) ?_
    refine lv_iload_n X.1.1 X.1.2.1 dX5_returnsFrom_27 rfl (lv_at hl 0 rfl) ?_
    obtain ⟨u1003, e_u1003, hE⟩ := bd_some hE
    refine callWV (wsC := (wFD cI cZ q3 q4 q5 q6 q9 q10 ki sp tu wo th tst tch u1001.1 u1001.2 tca thu tle)) (w1 := (wFD cI cZ q3 q4 q5 q6 q9 q10 ki sp tu wo th u1003.2.1 tch u1003.2.2.1 u1003.2.2.2.1 u1003.2.2.2.2 thu tle)) (ws' := (wB cI cZ q0 q1 q2 q3 q4 q5 q6 q7 q8 q9 q10 q11 q12 q13 q14 q15 q16 q17 q18 q19 lt ln ki sp tu wo th st ch ya ow ca hu le u1003.2.1 tch u1003.2.2.1 u1003.2.2.2.1 u1003.2.2.2.2 thu tle an sn kp so sf sc ss ai sd)) (As := [.ref q9, .int (v2 / (iI 5))]) (rest := []) (ov := (some (.int u1003.1))) (st1 := [.int u1003.1]) (ci := 1) X (c1_callHim (l := l) e_u1003) o1_callHim tw374 ⟨rfl, rfl, Nat.le_of_ble_eq_true rfl, Nat.le_of_ble_eq_true rfl⟩ hP hK hD hS hA [3, 4, 5, 6, 9, 10] (by decide) rfl rfl rfl (wB_fst.trans wB_fst.symm) 3 rfl rfl rfl rfl hl rfl (by decide) ⟨Nat.le_refl _, Nat.le_refl _⟩ rfl dX5_returnsFrom_28 (fun H locs hP hD hS => ?_)
    refine lv_if_ne (tgt := 36) X.1.1 X.1.2.1 dX5_returnsFrom_31 (by decide) (fun c_31 => ?_) (fun c_31 => ?_)
    · have hE := ite_f hE c_31
      refine lv_aload_n X.1.1 X.1.2.1 dX5_returnsFrom_36 rfl (lv_at hl 2 rfl) ?_
      obtain ⟨u1004, e_u1004, hE⟩ := bd_some hE
      refine callRV (wsC := (wD cI cZ q9 q10 u1003.2.1 tch u1003.2.2.1 u1003.2.2.2.1 u1003.2.2.2.2 thu tle)) (As := []) (rest := []) (ci := 0) X (c0_canBePaid (l := l) e_u1004) o0_canBePaid tw397 ⟨rfl, rfl, Nat.le_of_ble_eq_true rfl, Nat.le_of_ble_eq_true rfl⟩ (hP.sub [9, 10] rfl) hK 0 rfl rfl rfl rfl hl rfl (by decide) ⟨Nat.le_refl _, Nat.le_refl _⟩ dX5_returnsFrom_37 ?_
      refine lv_if_eq (tgt := 47) X.1.1 X.1.2.1 dX5_returnsFrom_40 (by decide) (fun c_40 => ?_) (fun c_40 => ?_)
      · have hE := ite_t hE c_40
        refine lv_iconst (v := (iI 1)) X.1.1 X.1.2.1 dX5_returnsFrom_47 rfl ?_
        cases hE
        exact retWZ X hP hS okB_1 dX5_returnsFrom_48
      · have hE := ite_f hE c_40
        refine lv_aload_n X.1.1 X.1.2.1 dX5_returnsFrom_43 rfl (lv_at hl 2 rfl) ?_
        obtain ⟨u1005, e_u1005, hE⟩ := bd_some hE
        refine callWV (wsC := (wD cI cZ q9 q10 u1003.2.1 tch u1003.2.2.1 u1003.2.2.2.1 u1003.2.2.2.2 thu tle)) (w1 := (wD cI cZ q9 q10 u1005.1 u1005.2.1 u1003.2.2.1 u1005.2.2 u1003.2.2.2.2 thu tle)) (ws' := (wB cI cZ q0 q1 q2 q3 q4 q5 q6 q7 q8 q9 q10 q11 q12 q13 q14 q15 q16 q17 q18 q19 lt ln ki sp tu wo th st ch ya ow ca hu le u1005.1 u1005.2.1 u1003.2.2.1 u1005.2.2 u1003.2.2.2.2 thu tle an sn kp so sf sc ss ai sd)) (As := []) (rest := []) (ov := none) (st1 := []) (ci := 0) X (c0_bePaid (l := l) e_u1005) o0_bePaid tw401 ⟨rfl, rfl, Nat.le_of_ble_eq_true rfl, Nat.le_of_ble_eq_true rfl⟩ hP hK hD hS hA [9, 10] (by decide) rfl rfl rfl (wB_fst.trans wB_fst.symm) 9 rfl rfl rfl rfl hl rfl (by decide) ⟨Nat.le_refl _, Nat.le_refl _⟩ rfl dX5_returnsFrom_44 (fun H locs hP hD hS => ?_)
        refine lv_iconst (v := (iI 1)) X.1.1 X.1.2.1 dX5_returnsFrom_47 rfl ?_
        cases hE
        exact retWZ X hP hS okB_1 dX5_returnsFrom_48
    · have hE := ite_t hE c_31
      refine lv_iconst (v := (iI 0)) X.1.1 X.1.2.1 dX5_returnsFrom_34 rfl ?_
      cases hE
      exact retWZ X hP hS okB_0 dX5_returnsFrom_35
theorem o5_walks : oV yX5_walks RX5 cX5_walks 5 (some .int) 1 := ⟨tw555, tw553, tw554, tw39, ⟨by decide +kernel, by decide +kernel⟩, by decide +kernel⟩
abbrev rm5_walks : Room := { frames := 6, cells := 0, slots := 0, locals := 138 }
set_option maxHeartbeats 4000000 in
set_option maxRecDepth 100000 in
theorem c5_walks {l : Launch} {G : va_G} {cI cZ : ClassId} {q0 q1 q2 q3 q4 q5 q6 q7 q8 q9 q10 q11 q12 q13 q14 q15 q16 q17 q18 q19 : Nat} {lt : Nat → Int32} {ln : Int32} {ki : Nat → Int32} {sp : Nat → Int32} {tu : Nat → Int32} {wo : Int32} {th : Int32} {st : Nat → Int32} {ch : Int32} {ya : Int32} {ow : Int32} {ca : Int32} {hu : Int32} {le : Int32} {tst : Nat → Int32} {tch : Int32} {tya : Int32} {tow : Int32} {tca : Int32} {thu : Int32} {tle : Int32} {an : Nat → Int32} {sn : Nat → Int32} {kp : Nat → Int32} {so : Nat → Int32} {sf : Nat → Int32} {sc : Nat → Int32} {ss : Int32} {ai : Int32} {sd : Int64} {v1 : Int32} {sz : Nat} {u : Int32 × (Nat → Int32) × Int32 × Int32 × Int32 × Int32 × Int32 × Int32 × Int64} (hE : f5_walks v1 ki sp tu wo th st ch ya ow ca hu le tst tch tya tow tca thu tle sd = some u) : Met l yX5_walks (Cond.code yX5_walks cX5_walks 5 (some .int) :: TB) rm5_walks (PcW G cI cZ (wB cI cZ q0 q1 q2 q3 q4 q5 q6 q7 q8 q9 q10 q11 q12 q13 q14 q15 q16 q17 q18 q19 lt ln ki sp tu wo th st ch ya ow ca hu le tst tch tya tow tca thu tle an sn kp so sf sc ss ai sd) sz ([.ref q0, .int v1] : List Value)) (QW G (some (.int u.1)) (wB cI cZ q0 q1 q2 q3 q4 q5 q6 q7 q8 q9 q10 q11 q12 q13 q14 q15 q16 q17 q18 q19 lt ln ki sp tu wo th st ch ya ow ca hu le u.2.1 u.2.2.1 u.2.2.2.1 u.2.2.2.2.1 u.2.2.2.2.2.1 u.2.2.2.2.2.2.1 u.2.2.2.2.2.2.2.1 an sn kp so sf sc ss ai u.2.2.2.2.2.2.2.2) (va_A (wB cI cZ q0 q1 q2 q3 q4 q5 q6 q7 q8 q9 q10 q11 q12 q13 q14 q15 q16 q17 q18 q19 lt ln ki sp tu wo th st ch ya ow ca hu le tst tch tya tow tca thu tle an sn kp so sf sc ss ai sd) sz)) 0 0 (va_A (wB cI cZ q0 q1 q2 q3 q4 q5 q6 q7 q8 q9 q10 q11 q12 q13 q14 q15 q16 q17 q18 q19 lt ln ki sp tu wo th st ch ya ow ca hu le tst tch tya tow tca thu tle an sn kp so sf sc ss ai sd) sz) := by
  refine metW (own := RX5) (by decide +kernel) rfl (Nat.le_of_ble_eq_true rfl) ?_
  intro p e s m below meth c ls A X hA hP hK hD hl
  have hS : va_S A s.heap s.heap [] := va_S.rf
  have hl : lv_has ls 5 [(0, .ref q0), (1, .int v1)] := hl
  unfold f5_walks at hE
  refine lv_iload_n X.1.1 X.1.2.1 dX5_walks_0 rfl (lv_at hl 1 rfl) ?_
  refine lv_iconst (v := (iI 1)) X.1.1 X.1.2.1 dX5_walks_1 rfl ?_
  refine lv_icmp_lt (tgt := 11) X.1.1 X.1.2.1 dX5_walks_2 (by decide) (fun c_2 => ?_) (fun c_2 => ?_)
  · have hE := ite_t hE c_2
    refine lv_bipush (v := (iI (-2))) X.1.1 X.1.2.1 dX5_walks_11 (by decide) ?_
    cases hE
    exact retW X hP hS dX5_walks_13
  · have hE := ite_f hE c_2
    refine lv_iload_n X.1.1 X.1.2.1 dX5_walks_5 rfl (lv_at hl 1 rfl) ?_
    refine lv_bipush (v := (iI 30)) X.1.1 X.1.2.1 dX5_walks_6 (by decide) ?_
    refine lv_icmp_le (tgt := 14) X.1.1 X.1.2.1 dX5_walks_8 (by decide) (fun c_8 => ?_) (fun c_8 => ?_)
    · have hE := ite_t hE c_8
      refine lv_aload_n X.1.1 X.1.2.1 dX5_walks_14 rfl (lv_at hl 0 rfl) ?_
      refine gf5_30 X hK hP 0 rfl rfl dX5_walks_15 ?_
      refine lv_aload_n X.1.1 X.1.2.1 dX5_walks_18 rfl (lv_at hl 0 rfl) ?_
      refine gf5_26 X hK hP 0 rfl rfl dX5_walks_19 ?_
      obtain ⟨u1001, e_u1001, hE⟩ := bd_some hE
      refine callWV (wsC := (wDD cI cZ q9 q10 q7 q8 tst tch tya tow tca thu tle st ch ya ow ca hu le)) (w1 := (wDD cI cZ q9 q10 q7 q8 u1001.1 u1001.2.1 u1001.2.2.1 u1001.2.2.2.1 u1001.2.2.2.2.1 u1001.2.2.2.2.2.1 u1001.2.2.2.2.2.2 st ch ya ow ca hu le)) (ws' := (wB cI cZ q0 q1 q2 q3 q4 q5 q6 q7 q8 q9 q10 q11 q12 q13 q14 q15 q16 q17 q18 q19 lt ln ki sp tu wo th st ch ya ow ca hu le u1001.1 u1001.2.1 u1001.2.2.1 u1001.2.2.2.1 u1001.2.2.2.2.1 u1001.2.2.2.2.2.1 u1001.2.2.2.2.2.2 an sn kp so sf sc ss ai sd)) (As := [.ref q7]) (rest := []) (ov := none) (st1 := []) (ci := 0) X (c0_copyFrom (l := l) e_u1001) o0_copyFrom tw460 ⟨rfl, rfl, Nat.le_of_ble_eq_true rfl, Nat.le_of_ble_eq_true rfl⟩ hP hK hD hS hA [9, 10, 7, 8] (by decide) rfl rfl rfl (wB_fst.trans wB_fst.symm) 9 rfl rfl rfl rfl hl rfl (by decide) ⟨Nat.le_refl _, Nat.le_refl _⟩ rfl dX5_walks_22 (fun H locs hP hD hS => ?_)
      refine lv_iconst (v := (iI 0)) X.1.1 X.1.2.1 dX5_walks_25 rfl ?_
      refine lv_istore_n (lv' := [(2, .int (iI 0)), (0, .ref q0), (1, .int v1)]) X.1.1 X.1.2.1 dX5_walks_26 rfl hl (by decide) rfl (fun ls hl => ?_)
      refine lv_iconst (v := (iI 0)) X.1.1 X.1.2.1 dX5_walks_27 rfl ?_
      refine lv_istore_n (lv' := [(3, .int (iI 0)), (2, .int (iI 0)), (0, .ref q0), (1, .int v1)]) X.1.1 X.1.2.1 dX5_walks_28 rfl hl (by decide) rfl (fun ls hl => ?_)
      have lp29 : ∀ (k : Int32 → Int32 → (Nat → Int32) → Int32 → Int32 → Int32 → Int32 → Int64 → Option (Int32 × (Nat → Int32) × Int32 × Int32 × Int32 × Int32 × Int32 × Int32 × Int64)), (∀ (v2_1002 : Int32) (v3_1002 : Int32) (tst_1002 : Nat → Int32) (tch_1002 : Int32) (tya_1002 : Int32) (tow_1002 : Int32) (tca_1002 : Int32) (sd_1002 : Int64) (H : Heap) (locs : List Loc) (ls : Array Slot), va_P G vwCl (wB cI cZ q0 q1 q2 q3 q4 q5 q6 q7 q8 q9 q10 q11 q12 q13 q14 q15 q16 q17 q18 q19 lt ln ki sp tu wo th st ch ya ow ca hu le tst_1002 tch_1002 tya_1002 tow_1002 tca_1002 u1001.2.2.2.2.2.1 u1001.2.2.2.2.2.2 an sn kp so sf sc ss ai sd_1002) H → va_D A (wB cI cZ q0 q1 q2 q3 q4 q5 q6 q7 q8 q9 q10 q11 q12 q13 q14 q15 q16 q17 q18 q19 lt ln ki sp tu wo th st ch ya ow ca hu le tst_1002 tch_1002 tya_1002 tow_1002 tca_1002 u1001.2.2.2.2.2.1 u1001.2.2.2.2.2.2 an sn kp so sf sc ss ai sd_1002) → va_S A s.heap H locs → lv_has ls 5 [(0, .ref q0), (1, .int v1), (2, .int v2_1002), (3, .int v3_1002)] → k v2_1002 v3_1002 tst_1002 tch_1002 tya_1002 tow_1002 tca_1002 sd_1002 = some u → W p l e rm5_walks s m ([.ref q0, .int v1] : List Value).toArray below meth c H locs 0 0 (MQ below (QW G (some (.int u.1)) (wB cI cZ q0 q1 q2 q3 q4 q5 q6 q7 q8 q9 q10 q11 q12 q13 q14 q15 q16 q17 q18 q19 lt ln ki sp tu wo th st ch ya ow ca hu le u.2.1 u.2.2.1 u.2.2.2.1 u.2.2.2.2.1 u.2.2.2.2.2.1 u.2.2.2.2.2.2.1 u.2.2.2.2.2.2.2.1 an sn kp so sf sc ss ai u.2.2.2.2.2.2.2.2) A) ([.ref q0, .int v1] : List Value).toArray s 0 0 A) (F0 m 96 ls [])) → ∀ (n : Nat) (v2_1002 : Int32) (v3_1002 : Int32) (tst_1002 : Nat → Int32) (tch_1002 : Int32) (tya_1002 : Int32) (tow_1002 : Int32) (tca_1002 : Int32) (sd_1002 : Int64) (H : Heap) (locs : List Loc) (ls : Array Slot), va_P G vwCl (wB cI cZ q0 q1 q2 q3 q4 q5 q6 q7 q8 q9 q10 q11 q12 q13 q14 q15 q16 q17 q18 q19 lt ln ki sp tu wo th st ch ya ow ca hu le tst_1002 tch_1002 tya_1002 tow_1002 tca_1002 u1001.2.2.2.2.2.1 u1001.2.2.2.2.2.2 an sn kp so sf sc ss ai sd_1002) H → va_D A (wB cI cZ q0 q1 q2 q3 q4 q5 q6 q7 q8 q9 q10 q11 q12 q13 q14 q15 q16 q17 q18 q19 lt ln ki sp tu wo th st ch ya ow ca hu le tst_1002 tch_1002 tya_1002 tow_1002 tca_1002 u1001.2.2.2.2.2.1 u1001.2.2.2.2.2.2 an sn kp so sf sc ss ai sd_1002) → va_S A s.heap H locs → lv_has ls 5 [(0, .ref q0), (1, .int v1), (2, .int v2_1002), (3, .int v3_1002)] → l5_walks_29 k v1 ki sp tu wo th u1001.2.2.2.2.2.1 u1001.2.2.2.2.2.2 n v2_1002 v3_1002 tst_1002 tch_1002 tya_1002 tow_1002 tca_1002 sd_1002 = some u → W p l e rm5_walks s m ([.ref q0, .int v1] : List Value).toArray below meth c H locs 0 0 (MQ below (QW G (some (.int u.1)) (wB cI cZ q0 q1 q2 q3 q4 q5 q6 q7 q8 q9 q10 q11 q12 q13 q14 q15 q16 q17 q18 q19 lt ln ki sp tu wo th st ch ya ow ca hu le u.2.1 u.2.2.1 u.2.2.2.1 u.2.2.2.2.1 u.2.2.2.2.2.1 u.2.2.2.2.2.2.1 u.2.2.2.2.2.2.2.1 an sn kp so sf sc ss ai u.2.2.2.2.2.2.2.2) A) ([.ref q0, .int v1] : List Value).toArray s 0 0 A) (F0 m 29 ls []) := by
        intro k hex n
        induction n with
        | zero =>
          intro v2_1002 v3_1002 tst_1002 tch_1002 tya_1002 tow_1002 tca_1002 sd_1002 H locs ls hP hD hS hl hE
          exact absurd (show (none : Option (Int32 × (Nat → Int32) × Int32 × Int32 × Int32 × Int32 × Int32 × Int32 × Int64)) = some u from hE) (fun h => by cases h)
        | succ n ih =>
          intro v2_1002 v3_1002 tst_1002 tch_1002 tya_1002 tow_1002 tca_1002 sd_1002 H locs ls hP hD hS hl hE
          rw [l5_walks_29] at hE
          refine lv_iload_n X.1.1 X.1.2.1 dX5_walks_29 rfl (lv_at hl 3 rfl) ?_
          refine lv_iload_n X.1.1 X.1.2.1 dX5_walks_30 rfl (lv_at hl 1 rfl) ?_
          refine lv_icmp_ge (tgt := 96) X.1.1 X.1.2.1 dX5_walks_31 (by decide) (fun c_31 => ?_) (fun c_31 => ?_)
          · have hE := ite_t hE c_31
            exact hex v2_1002 v3_1002 tst_1002 tch_1002 tya_1002 tow_1002 tca_1002 sd_1002 H locs ls hP hD hS (lv_sub hl [0, 1, 2, 3] rfl) hE
          · have hE := ite_f hE c_31
            refine lv_aload_n X.1.1 X.1.2.1 dX5_walks_34 rfl (lv_at hl 0 rfl) ?_
            refine lv_aload_n X.1.1 X.1.2.1 dX5_walks_35 rfl (lv_at hl 0 rfl) ?_
            refine gf5_251 X hK hP 0 rfl rfl dX5_walks_36 ?_
            refine lv_ldc2 X.1.1 X.1.2.1 X.1.2.2.2.1 (X.1.2.2.2.2 _ tw556) dX5_walks_39 ?_
            refine lv_lmul X.1.1 X.1.2.1 dX5_walks_42 ?_
            refine lv_ldc2 X.1.1 X.1.2.1 X.1.2.2.2.1 (X.1.2.2.2.2 _ tw557) dX5_walks_43 ?_
            refine lv_ladd X.1.1 X.1.2.1 dX5_walks_46 ?_
            refine pf5_251 (ws2 := (wB cI cZ q0 q1 q2 q3 q4 q5 q6 q7 q8 q9 q10 q11 q12 q13 q14 q15 q16 q17 q18 q19 lt ln ki sp tu wo th st ch ya ow ca hu le tst_1002 tch_1002 tya_1002 tow_1002 tca_1002 u1001.2.2.2.2.2.1 u1001.2.2.2.2.2.2 an sn kp so sf sc ss ai ((sd_1002 * (6364136223846793005 : Int64)) + (1442695040888963407 : Int64)))) X hK hP hD hS 0 rfl (Nat.le_of_ble_eq_true rfl) rfl dX5_walks_47 (fun H locs hP hD hS => ?_)
            refine lv_aload_n X.1.1 X.1.2.1 dX5_walks_50 rfl (lv_at hl 0 rfl) ?_
            refine gf5_251 X hK hP 0 rfl rfl dX5_walks_51 ?_
            refine lv_bipush (v := (iI 33)) X.1.1 X.1.2.1 dX5_walks_54 (by decide) ?_
            refine lv_lushr (v := (((sd_1002 * (6364136223846793005 : Int64)) + (1442695040888963407 : Int64)).toUInt64 >>> ((iI 33).toInt64.toUInt64 &&& Int64.toUInt64 63)).toInt64) X.1.1 X.1.2.1 dX5_walks_56 rfl ?_
            refine lv_ldc2 X.1.1 X.1.2.1 X.1.2.2.2.1 (X.1.2.2.2.2 _ tw558) dX5_walks_57 ?_
            refine r_lrem X.1.1 X.1.2.1 dX5_walks_60 (by decide) ?_
            refine lv_l2i (v := (rmL ((((sd_1002 * (6364136223846793005 : Int64)) + (1442695040888963407 : Int64)).toUInt64 >>> ((iI 33).toInt64.toUInt64 &&& Int64.toUInt64 63)).toInt64) (20 : Int64)).toInt32) X.1.1 X.1.2.1 dX5_walks_61 rfl ?_
            refine lv_istore (lv' := [(4, .int ((rmL ((((sd_1002 * (6364136223846793005 : Int64)) + (1442695040888963407 : Int64)).toUInt64 >>> ((iI 33).toInt64.toUInt64 &&& Int64.toUInt64 63)).toInt64) (20 : Int64)).toInt32)), (0, .ref q0), (1, .int v1), (2, .int v2_1002), (3, .int v3_1002)]) X.1.1 X.1.2.1 dX5_walks_62 hl (by decide) rfl (fun ls hl => ?_)
            refine lv_aload_n X.1.1 X.1.2.1 dX5_walks_64 rfl (lv_at hl 1 rfl) ?_
            refine gf5_30 X hK hP 0 rfl rfl dX5_walks_65 ?_
            refine gf5_154 X hK hP 9 rfl rfl dX5_walks_68 ?_
            refine lv_if_ne (tgt := 90) X.1.1 X.1.2.1 dX5_walks_71 (by decide) (fun c_71 => ?_) (fun c_71 => ?_)
            · have hE := ite_f hE c_71
              refine lv_iinc (v := (v3_1002 + (iI 1))) (lv' := [(3, .int (v3_1002 + (iI 1))), (4, .int ((rmL ((((sd_1002 * (6364136223846793005 : Int64)) + (1442695040888963407 : Int64)).toUInt64 >>> ((iI 33).toInt64.toUInt64 &&& Int64.toUInt64 63)).toInt64) (20 : Int64)).toInt32)), (0, .ref q0), (1, .int v1), (2, .int v2_1002)]) X.1.1 X.1.2.1 dX5_walks_90 hl (k := 4) rfl rfl (by decide) rfl (fun ls hl => ?_)
              refine lv_goto (tgt := 29) X.1.1 X.1.2.1 dX5_walks_93 (by decide) ?_
              exact ih v2_1002 (v3_1002 + (iI 1)) tst_1002 tch_1002 tya_1002 tow_1002 tca_1002 ((sd_1002 * (6364136223846793005 : Int64)) + (1442695040888963407 : Int64)) H locs ls hP hD hS (lv_sub hl [2, 3, 4, 0] rfl) hE
            · have hE := ite_t hE c_71
              refine lv_aload_n X.1.1 X.1.2.1 dX5_walks_74 rfl (lv_at hl 1 rfl) ?_
              refine lv_aload_n X.1.1 X.1.2.1 dX5_walks_75 rfl (lv_at hl 1 rfl) ?_
              refine gf5_30 X hK hP 0 rfl rfl dX5_walks_76 ?_
              refine lv_iload X.1.1 X.1.2.1 dX5_walks_79 (lv_at hl 0 rfl) ?_
              obtain ⟨u1003, e_u1003, hE⟩ := bd_some hE
              refine callWF (ws := (wB cI cZ q0 q1 q2 q3 q4 q5 q6 q7 q8 q9 q10 q11 q12 q13 q14 q15 q16 q17 q18 q19 lt ln ki sp tu wo th st ch ya ow ca hu le tst_1002 tch_1002 tya_1002 tow_1002 tca_1002 u1001.2.2.2.2.2.1 u1001.2.2.2.2.2.2 an sn kp so sf sc ss ai ((sd_1002 * (6364136223846793005 : Int64)) + (1442695040888963407 : Int64)))) (ws' := (wB cI cZ q0 q1 q2 q3 q4 q5 q6 q7 q8 q9 q10 q11 q12 q13 q14 q15 q16 q17 q18 q19 lt ln ki sp tu wo th st ch ya ow ca hu le u1003.2.1 u1003.2.2.1 u1003.2.2.2.1 u1003.2.2.2.2.1 u1003.2.2.2.2.2 u1001.2.2.2.2.2.1 u1001.2.2.2.2.2.2 an sn kp so sf sc ss ai ((sd_1002 * (6364136223846793005 : Int64)) + (1442695040888963407 : Int64)))) (As := [.ref q9, .int ((rmL ((((sd_1002 * (6364136223846793005 : Int64)) + (1442695040888963407 : Int64)).toUInt64 >>> ((iI 33).toInt64.toUInt64 &&& Int64.toUInt64 63)).toInt64) (20 : Int64)).toInt32)]) (rest := []) (ov := (some (.int u1003.1))) (st1 := [.int u1003.1]) (ci := 5) X (c5_returnsFrom (l := l) e_u1003) o5_returnsFrom tw559 ⟨rfl, rfl, Nat.le_of_ble_eq_true rfl, Nat.le_of_ble_eq_true rfl⟩ hP hK hD hS hA (wB_fst.trans wB_fst.symm) 0 rfl rfl rfl rfl hl rfl (by decide) ⟨Nat.le_refl _, Nat.le_refl _⟩ rfl dX5_walks_81 (fun H locs hP hD hS => ?_)
              refine lv_if_eq (tgt := 90) X.1.1 X.1.2.1 dX5_walks_84 (by decide) (fun c_84 => ?_) (fun c_84 => ?_)
              · have hE := ite_t hE c_84
                refine lv_iinc (v := (v3_1002 + (iI 1))) (lv' := [(3, .int (v3_1002 + (iI 1))), (4, .int ((rmL ((((sd_1002 * (6364136223846793005 : Int64)) + (1442695040888963407 : Int64)).toUInt64 >>> ((iI 33).toInt64.toUInt64 &&& Int64.toUInt64 63)).toInt64) (20 : Int64)).toInt32)), (0, .ref q0), (1, .int v1), (2, .int v2_1002)]) X.1.1 X.1.2.1 dX5_walks_90 hl (k := 4) rfl rfl (by decide) rfl (fun ls hl => ?_)
                refine lv_goto (tgt := 29) X.1.1 X.1.2.1 dX5_walks_93 (by decide) ?_
                exact ih v2_1002 (v3_1002 + (iI 1)) u1003.2.1 u1003.2.2.1 u1003.2.2.2.1 u1003.2.2.2.2.1 u1003.2.2.2.2.2 ((sd_1002 * (6364136223846793005 : Int64)) + (1442695040888963407 : Int64)) H locs ls hP hD hS (lv_sub hl [2, 3, 4, 0] rfl) hE
              · have hE := ite_f hE c_84
                refine lv_iinc (v := (v2_1002 + (iI 1))) (lv' := [(2, .int (v2_1002 + (iI 1))), (4, .int ((rmL ((((sd_1002 * (6364136223846793005 : Int64)) + (1442695040888963407 : Int64)).toUInt64 >>> ((iI 33).toInt64.toUInt64 &&& Int64.toUInt64 63)).toInt64) (20 : Int64)).toInt32)), (0, .ref q0), (1, .int v1), (3, .int v3_1002)]) X.1.1 X.1.2.1 dX5_walks_87 hl (k := 3) rfl rfl (by decide) rfl (fun ls hl => ?_)
                refine lv_iinc (v := (v3_1002 + (iI 1))) (lv' := [(3, .int (v3_1002 + (iI 1))), (2, .int (v2_1002 + (iI 1))), (4, .int ((rmL ((((sd_1002 * (6364136223846793005 : Int64)) + (1442695040888963407 : Int64)).toUInt64 >>> ((iI 33).toInt64.toUInt64 &&& Int64.toUInt64 63)).toInt64) (20 : Int64)).toInt32)), (0, .ref q0), (1, .int v1)]) X.1.1 X.1.2.1 dX5_walks_90 hl (k := 4) rfl rfl (by decide) rfl (fun ls hl => ?_)
                refine lv_goto (tgt := 29) X.1.1 X.1.2.1 dX5_walks_93 (by decide) ?_
                exact ih (v2_1002 + (iI 1)) (v3_1002 + (iI 1)) u1003.2.1 u1003.2.2.1 u1003.2.2.2.1 u1003.2.2.2.2.1 u1003.2.2.2.2.2 ((sd_1002 * (6364136223846793005 : Int64)) + (1442695040888963407 : Int64)) H locs ls hP hD hS (lv_sub hl [3, 4, 1, 0] rfl) hE
      refine lp29 _ (fun v2_1002 v3_1002 tst_1002 tch_1002 tya_1002 tow_1002 tca_1002 sd_1002 H locs ls hP hD hS hl hE => ?_) FU (iI 0) (iI 0) u1001.1 u1001.2.1 u1001.2.2.1 u1001.2.2.2.1 u1001.2.2.2.2.1 sd _ _ ls hP hD hS (lv_sub hl [2, 3, 1, 0] rfl) hE
      refine lv_iload_n X.1.1 X.1.2.1 dX5_walks_96 rfl (lv_at hl 2 rfl) ?_
      cases hE
      exact retW X hP hS dX5_walks_97
    · have hE := ite_f hE c_8
      refine lv_bipush (v := (iI (-2))) X.1.1 X.1.2.1 dX5_walks_11 (by decide) ?_
      cases hE
      exact retW X hP hS dX5_walks_13
theorem o5_isNoSlot : oV yX5_isNoSlot RX5 cX5_isNoSlot 2 (some .boolean) 1 := ⟨tw570, tw569, tw15, tw39, ⟨by decide +kernel, by decide +kernel⟩, by decide +kernel⟩
abbrev rm5_isNoSlot : Room := { frames := 0, cells := 0, slots := 0, locals := 0 }
set_option maxHeartbeats 4000000 in
set_option maxRecDepth 100000 in
theorem c5_isNoSlot {l : Launch} {G : va_G} {cI cZ : ClassId} {q0 q1 q2 q3 q4 q5 q6 q7 q8 q9 q10 q11 q12 q13 q14 q15 q16 q17 q18 q19 : Nat} {lt : Nat → Int32} {ln : Int32} {ki : Nat → Int32} {sp : Nat → Int32} {tu : Nat → Int32} {wo : Int32} {th : Int32} {st : Nat → Int32} {ch : Int32} {ya : Int32} {ow : Int32} {ca : Int32} {hu : Int32} {le : Int32} {tst : Nat → Int32} {tch : Int32} {tya : Int32} {tow : Int32} {tca : Int32} {thu : Int32} {tle : Int32} {an : Nat → Int32} {sn : Nat → Int32} {kp : Nat → Int32} {so : Nat → Int32} {sf : Nat → Int32} {sc : Nat → Int32} {ss : Int32} {ai : Int32} {sd : Int64} {v1 : Int32} {u : Int32} (hE : f5_isNoSlot v1 = some u) : Met l yX5_isNoSlot (Cond.code yX5_isNoSlot cX5_isNoSlot 2 (some .boolean) :: TB) rm5_isNoSlot (PcR G cI cZ (wB cI cZ q0 q1 q2 q3 q4 q5 q6 q7 q8 q9 q10 q11 q12 q13 q14 q15 q16 q17 q18 q19 lt ln ki sp tu wo th st ch ya ow ca hu le tst tch tya tow tca thu tle an sn kp so sf sc ss ai sd) ([.ref q0, .int v1] : List Value)) (QcRead u) 0 0 (fun _ => False) := by
  refine metR (own := RX5) (by decide +kernel) rfl (Nat.le_of_ble_eq_true rfl) ?_
  intro p e s m below meth c ls X hP hK hl
  have hl : lv_has ls 2 [(0, .ref q0), (1, .int v1)] := hl
  unfold f5_isNoSlot at hE
  refine lv_iload_n X.1.1 X.1.2.1 dX5_isNoSlot_0 rfl (lv_at hl 1 rfl) ?_
  refine lv_if_lt (tgt := 13) X.1.1 X.1.2.1 dX5_isNoSlot_1 (by decide) (fun c_1 => ?_) (fun c_1 => ?_)
  · have hE := ite_t hE c_1
    refine lv_iconst (v := (iI 1)) X.1.1 X.1.2.1 dX5_isNoSlot_13 rfl ?_
    refine lv_goto (tgt := 18) X.1.1 X.1.2.1 dX5_isNoSlot_14 (by decide) ?_
    cases hE
    exact retRZ X okB_1 dX5_isNoSlot_18
  · have hE := ite_f hE c_1
    refine lv_iload_n X.1.1 X.1.2.1 dX5_isNoSlot_4 rfl (lv_at hl 1 rfl) ?_
    refine lv_aload_n X.1.1 X.1.2.1 dX5_isNoSlot_5 rfl (lv_at hl 0 rfl) ?_
    refine gf5_45 X hK hP 0 rfl rfl dX5_isNoSlot_6 ?_
    refine va_alen (v := (Int32.ofNat 2)) X.1.1 X.1.2.1 hK hP 15 1 rfl rfl rfl dX5_isNoSlot_9 ?_
    refine lv_icmp_lt (tgt := 17) X.1.1 X.1.2.1 dX5_isNoSlot_10 (by decide) (fun c_10 => ?_) (fun c_10 => ?_)
    · have hE := ite_t hE c_10
      refine lv_iconst (v := (iI 0)) X.1.1 X.1.2.1 dX5_isNoSlot_17 rfl ?_
      cases hE
      exact retRZ X okB_0 dX5_isNoSlot_18
    · have hE := ite_f hE c_10
      refine lv_iconst (v := (iI 1)) X.1.1 X.1.2.1 dX5_isNoSlot_13 rfl ?_
      refine lv_goto (tgt := 18) X.1.1 X.1.2.1 dX5_isNoSlot_14 (by decide) ?_
      cases hE
      exact retRZ X okB_1 dX5_isNoSlot_18
theorem o5_keep : oV yX5_keep RX5 cX5_keep 2 (some .int) 1 := ⟨tw566, tw564, tw565, tw39, ⟨by decide +kernel, by decide +kernel⟩, by decide +kernel⟩
abbrev rm5_keep : Room := { frames := 2, cells := 0, slots := 0, locals := 46 }
set_option maxHeartbeats 4000000 in
set_option maxRecDepth 100000 in
theorem c5_keep {l : Launch} {G : va_G} {cI cZ : ClassId} {q0 q1 q2 q3 q4 q5 q6 q7 q8 q9 q10 q11 q12 q13 q14 q15 q16 q17 q18 q19 : Nat} {lt : Nat → Int32} {ln : Int32} {ki : Nat → Int32} {sp : Nat → Int32} {tu : Nat → Int32} {wo : Int32} {th : Int32} {st : Nat → Int32} {ch : Int32} {ya : Int32} {ow : Int32} {ca : Int32} {hu : Int32} {le : Int32} {tst : Nat → Int32} {tch : Int32} {tya : Int32} {tow : Int32} {tca : Int32} {thu : Int32} {tle : Int32} {an : Nat → Int32} {sn : Nat → Int32} {kp : Nat → Int32} {so : Nat → Int32} {sf : Nat → Int32} {sc : Nat → Int32} {ss : Int32} {ai : Int32} {sd : Int64} {v1 : Int32} {sz : Nat} {u : Int32 × (Nat → Int32) × (Nat → Int32)} (hE : f5_keep v1 st ch ya ow ca hu le sn kp = some u) : Met l yX5_keep (Cond.code yX5_keep cX5_keep 2 (some .int) :: TB) rm5_keep (PcW G cI cZ (wB cI cZ q0 q1 q2 q3 q4 q5 q6 q7 q8 q9 q10 q11 q12 q13 q14 q15 q16 q17 q18 q19 lt ln ki sp tu wo th st ch ya ow ca hu le tst tch tya tow tca thu tle an sn kp so sf sc ss ai sd) sz ([.ref q0, .int v1] : List Value)) (QW G (some (.int u.1)) (wB cI cZ q0 q1 q2 q3 q4 q5 q6 q7 q8 q9 q10 q11 q12 q13 q14 q15 q16 q17 q18 q19 lt ln ki sp tu wo th st ch ya ow ca hu le tst tch tya tow tca thu tle an u.2.1 u.2.2 so sf sc ss ai sd) (va_A (wB cI cZ q0 q1 q2 q3 q4 q5 q6 q7 q8 q9 q10 q11 q12 q13 q14 q15 q16 q17 q18 q19 lt ln ki sp tu wo th st ch ya ow ca hu le tst tch tya tow tca thu tle an sn kp so sf sc ss ai sd) sz)) 0 0 (va_A (wB cI cZ q0 q1 q2 q3 q4 q5 q6 q7 q8 q9 q10 q11 q12 q13 q14 q15 q16 q17 q18 q19 lt ln ki sp tu wo th st ch ya ow ca hu le tst tch tya tow tca thu tle an sn kp so sf sc ss ai sd) sz) := by
  refine metW (own := RX5) (by decide +kernel) rfl (Nat.le_of_ble_eq_true rfl) ?_
  intro p e s m below meth c ls A X hA hP hK hD hl
  have hS : va_S A s.heap s.heap [] := va_S.rf
  have hl : lv_has ls 2 [(0, .ref q0), (1, .int v1)] := hl
  unfold f5_keep at hE
  refine lv_aload_n X.1.1 X.1.2.1 dX5_keep_0 rfl (lv_at hl 0 rfl) ?_
  refine lv_iload_n X.1.1 X.1.2.1 dX5_keep_1 rfl (lv_at hl 1 rfl) ?_
  obtain ⟨u1001, e_u1001, hE⟩ := bd_some hE
  refine callRV (wsC := (wB cI cZ q0 q1 q2 q3 q4 q5 q6 q7 q8 q9 q10 q11 q12 q13 q14 q15 q16 q17 q18 q19 lt ln ki sp tu wo th st ch ya ow ca hu le tst tch tya tow tca thu tle an sn kp so sf sc ss ai sd)) (As := [.int v1]) (rest := []) (ci := 5) X (c5_isNoSlot (l := l) e_u1001) o5_isNoSlot tw567 ⟨rfl, rfl, Nat.le_of_ble_eq_true rfl, Nat.le_of_ble_eq_true rfl⟩ hP hK 0 rfl rfl rfl rfl hl rfl (by decide) ⟨Nat.le_refl _, Nat.le_refl _⟩ dX5_keep_2 ?_
  refine lv_if_eq (tgt := 10) X.1.1 X.1.2.1 dX5_keep_5 (by decide) (fun c_5 => ?_) (fun c_5 => ?_)
  · have hE := ite_t hE c_5
    refine lv_aload_n X.1.1 X.1.2.1 dX5_keep_10 rfl (lv_at hl 0 rfl) ?_
    refine gf5_42 X hK hP 0 rfl rfl dX5_keep_11 ?_
    refine lv_iload_n X.1.1 X.1.2.1 dX5_keep_14 rfl (lv_at hl 1 rfl) ?_
    refine lv_aload_n X.1.1 X.1.2.1 dX5_keep_15 rfl (lv_at hl 0 rfl) ?_
    refine gf5_26 X hK hP 0 rfl rfl dX5_keep_16 ?_
    obtain ⟨u1002, e_u1002, hE⟩ := bd_some hE
    refine callWV (wsC := (wSD cI cZ 20 q13 q14 q7 q8 sn st ch ya ow ca hu le)) (w1 := (wSD cI cZ 20 q13 q14 q7 q8 u1002 st ch ya ow ca hu le)) (ws' := (wB cI cZ q0 q1 q2 q3 q4 q5 q6 q7 q8 q9 q10 q11 q12 q13 q14 q15 q16 q17 q18 q19 lt ln ki sp tu wo th st ch ya ow ca hu le tst tch tya tow tca thu tle an u1002 kp so sf sc ss ai sd)) (As := [.int v1, .ref q7]) (rest := []) (ov := none) (st1 := []) (ci := 2) X (c2_put (l := l) e_u1002) o2_put tw368 ⟨rfl, rfl, Nat.le_of_ble_eq_true rfl, Nat.le_of_ble_eq_true rfl⟩ hP hK hD hS hA [13, 14, 7, 8] (by decide) rfl rfl rfl (wB_fst.trans wB_fst.symm) 13 rfl rfl rfl rfl hl rfl (by decide) ⟨Nat.le_refl _, Nat.le_refl _⟩ rfl dX5_keep_19 (fun H locs hP hD hS => ?_)
    refine lv_aload_n X.1.1 X.1.2.1 dX5_keep_22 rfl (lv_at hl 0 rfl) ?_
    refine gf5_45 X hK hP 0 rfl rfl dX5_keep_23 ?_
    refine lv_iload_n X.1.1 X.1.2.1 dX5_keep_26 rfl (lv_at hl 1 rfl) ?_
    refine lv_iconst (v := (iI 1)) X.1.1 X.1.2.1 dX5_keep_27 rfl ?_
    obtain ⟨i_28, hE⟩ := ib_some hE
    refine astZ (t0 := 0) (ws' := (wB cI cZ q0 q1 q2 q3 q4 q5 q6 q7 q8 q9 q10 q11 q12 q13 q14 q15 q16 q17 q18 q19 lt ln ki sp tu wo th st ch ya ow ca hu le tst tch tya tow tca thu tle an u1002 (upd kp v1.toNatClampNeg (vp_nar .boolean (iI 1))) so sf sc ss ai sd)) X hK hP hD hS 15 1 rfl rfl i_28 rfl dX5_keep_28 (fun H locs hP hD hS => ?_)
    refine lv_aload_n X.1.1 X.1.2.1 dX5_keep_29 rfl (lv_at hl 0 rfl) ?_
    refine gf5_26 X hK hP 0 rfl rfl dX5_keep_30 ?_
    refine gf5_267 X hK hP 7 rfl rfl dX5_keep_33 ?_
    cases hE
    exact retW X hP hS dX5_keep_36
  · have hE := ite_f hE c_5
    refine lv_iconst (v := (iI (-1))) X.1.1 X.1.2.1 dX5_keep_8 rfl ?_
    cases hE
    exact retW X hP hS dX5_keep_9
theorem o5_again : oV yX5_again RX5 cX5_again 2 (some .int) 1 := ⟨tw574, tw572, tw573, tw39, ⟨by decide +kernel, by decide +kernel⟩, by decide +kernel⟩
abbrev rm5_again : Room := { frames := 2, cells := 0, slots := 0, locals := 46 }
set_option maxHeartbeats 4000000 in
set_option maxRecDepth 100000 in
theorem c5_again {l : Launch} {G : va_G} {cI cZ : ClassId} {q0 q1 q2 q3 q4 q5 q6 q7 q8 q9 q10 q11 q12 q13 q14 q15 q16 q17 q18 q19 : Nat} {lt : Nat → Int32} {ln : Int32} {ki : Nat → Int32} {sp : Nat → Int32} {tu : Nat → Int32} {wo : Int32} {th : Int32} {st : Nat → Int32} {ch : Int32} {ya : Int32} {ow : Int32} {ca : Int32} {hu : Int32} {le : Int32} {tst : Nat → Int32} {tch : Int32} {tya : Int32} {tow : Int32} {tca : Int32} {thu : Int32} {tle : Int32} {an : Nat → Int32} {sn : Nat → Int32} {kp : Nat → Int32} {so : Nat → Int32} {sf : Nat → Int32} {sc : Nat → Int32} {ss : Int32} {ai : Int32} {sd : Int64} {v1 : Int32} {sz : Nat} {u : Int32 × (Nat → Int32) × Int32 × Int32 × Int32 × Int32 × Int32 × Int32 × Int32} (hE : f5_again v1 st ch ya ow ca hu le sn kp ai = some u) : Met l yX5_again (Cond.code yX5_again cX5_again 2 (some .int) :: TB) rm5_again (PcW G cI cZ (wB cI cZ q0 q1 q2 q3 q4 q5 q6 q7 q8 q9 q10 q11 q12 q13 q14 q15 q16 q17 q18 q19 lt ln ki sp tu wo th st ch ya ow ca hu le tst tch tya tow tca thu tle an sn kp so sf sc ss ai sd) sz ([.ref q0, .int v1] : List Value)) (QW G (some (.int u.1)) (wB cI cZ q0 q1 q2 q3 q4 q5 q6 q7 q8 q9 q10 q11 q12 q13 q14 q15 q16 q17 q18 q19 lt ln ki sp tu wo th u.2.1 u.2.2.1 u.2.2.2.1 u.2.2.2.2.1 u.2.2.2.2.2.1 u.2.2.2.2.2.2.1 u.2.2.2.2.2.2.2.1 tst tch tya tow tca thu tle an sn kp so sf sc ss u.2.2.2.2.2.2.2.2 sd) (va_A (wB cI cZ q0 q1 q2 q3 q4 q5 q6 q7 q8 q9 q10 q11 q12 q13 q14 q15 q16 q17 q18 q19 lt ln ki sp tu wo th st ch ya ow ca hu le tst tch tya tow tca thu tle an sn kp so sf sc ss ai sd) sz)) 0 0 (va_A (wB cI cZ q0 q1 q2 q3 q4 q5 q6 q7 q8 q9 q10 q11 q12 q13 q14 q15 q16 q17 q18 q19 lt ln ki sp tu wo th st ch ya ow ca hu le tst tch tya tow tca thu tle an sn kp so sf sc ss ai sd) sz) := by
  refine metW (own := RX5) (by decide +kernel) rfl (Nat.le_of_ble_eq_true rfl) ?_
  intro p e s m below meth c ls A X hA hP hK hD hl
  have hS : va_S A s.heap s.heap [] := va_S.rf
  have hl : lv_has ls 2 [(0, .ref q0), (1, .int v1)] := hl
  unfold f5_again at hE
  refine lv_aload_n X.1.1 X.1.2.1 dX5_again_0 rfl (lv_at hl 0 rfl) ?_
  refine lv_iload_n X.1.1 X.1.2.1 dX5_again_1 rfl (lv_at hl 1 rfl) ?_
  obtain ⟨u1001, e_u1001, hE⟩ := bd_some hE
  refine callRV (wsC := (wB cI cZ q0 q1 q2 q3 q4 q5 q6 q7 q8 q9 q10 q11 q12 q13 q14 q15 q16 q17 q18 q19 lt ln ki sp tu wo th st ch ya ow ca hu le tst tch tya tow tca thu tle an sn kp so sf sc ss ai sd)) (As := [.int v1]) (rest := []) (ci := 5) X (c5_isNoSlot (l := l) e_u1001) o5_isNoSlot tw567 ⟨rfl, rfl, Nat.le_of_ble_eq_true rfl, Nat.le_of_ble_eq_true rfl⟩ hP hK 0 rfl rfl rfl rfl hl rfl (by decide) ⟨Nat.le_refl _, Nat.le_refl _⟩ dX5_again_2 ?_
  refine lv_if_eq (tgt := 10) X.1.1 X.1.2.1 dX5_again_5 (by decide) (fun c_5 => ?_) (fun c_5 => ?_)
  · have hE := ite_t hE c_5
    refine lv_aload_n X.1.1 X.1.2.1 dX5_again_10 rfl (lv_at hl 0 rfl) ?_
    refine gf5_45 X hK hP 0 rfl rfl dX5_again_11 ?_
    refine lv_iload_n X.1.1 X.1.2.1 dX5_again_14 rfl (lv_at hl 1 rfl) ?_
    obtain ⟨i_15, hE⟩ := ib_some hE
    refine va_zald X.1.1 X.1.2.1 hK hP 15 1 rfl rfl i_15 dX5_again_15 ?_
    refine lv_if_ne (tgt := 22) X.1.1 X.1.2.1 dX5_again_16 (by decide) (fun c_16 => ?_) (fun c_16 => ?_)
    · have hE := ite_f hE c_16
      refine lv_aload_n X.1.1 X.1.2.1 dX5_again_22 rfl (lv_at hl 0 rfl) ?_
      refine gf5_42 X hK hP 0 rfl rfl dX5_again_23 ?_
      refine lv_iload_n X.1.1 X.1.2.1 dX5_again_26 rfl (lv_at hl 1 rfl) ?_
      refine lv_aload_n X.1.1 X.1.2.1 dX5_again_27 rfl (lv_at hl 0 rfl) ?_
      refine gf5_26 X hK hP 0 rfl rfl dX5_again_28 ?_
      obtain ⟨u1002, e_u1002, hE⟩ := bd_some hE
      refine callWV (wsC := (wSD cI cZ 20 q13 q14 q7 q8 sn st ch ya ow ca hu le)) (w1 := (wSD cI cZ 20 q13 q14 q7 q8 sn u1002.1 u1002.2.1 u1002.2.2.1 u1002.2.2.2.1 u1002.2.2.2.2.1 u1002.2.2.2.2.2.1 u1002.2.2.2.2.2.2)) (ws' := (wB cI cZ q0 q1 q2 q3 q4 q5 q6 q7 q8 q9 q10 q11 q12 q13 q14 q15 q16 q17 q18 q19 lt ln ki sp tu wo th u1002.1 u1002.2.1 u1002.2.2.1 u1002.2.2.2.1 u1002.2.2.2.2.1 u1002.2.2.2.2.2.1 u1002.2.2.2.2.2.2 tst tch tya tow tca thu tle an sn kp so sf sc ss ai sd)) (As := [.int v1, .ref q7]) (rest := []) (ov := none) (st1 := []) (ci := 2) X (c2_take (l := l) e_u1002) o2_take tw431 ⟨rfl, rfl, Nat.le_of_ble_eq_true rfl, Nat.le_of_ble_eq_true rfl⟩ hP hK hD hS hA [13, 14, 7, 8] (by decide) rfl rfl rfl (wB_fst.trans wB_fst.symm) 13 rfl rfl rfl rfl hl rfl (by decide) ⟨Nat.le_refl _, Nat.le_refl _⟩ rfl dX5_again_31 (fun H locs hP hD hS => ?_)
      refine lv_aload_n X.1.1 X.1.2.1 dX5_again_34 rfl (lv_at hl 0 rfl) ?_
      refine lv_iconst (v := (iI 0)) X.1.1 X.1.2.1 dX5_again_35 rfl ?_
      refine pf5_89 (ws2 := (wB cI cZ q0 q1 q2 q3 q4 q5 q6 q7 q8 q9 q10 q11 q12 q13 q14 q15 q16 q17 q18 q19 lt ln ki sp tu wo th u1002.1 u1002.2.1 u1002.2.2.1 u1002.2.2.2.1 u1002.2.2.2.2.1 u1002.2.2.2.2.2.1 u1002.2.2.2.2.2.2 tst tch tya tow tca thu tle an sn kp so sf sc ss (iI 0) sd)) X hK hP hD hS 0 rfl (Nat.le_of_ble_eq_true rfl) rfl dX5_again_36 (fun H locs hP hD hS => ?_)
      refine lv_aload_n X.1.1 X.1.2.1 dX5_again_39 rfl (lv_at hl 0 rfl) ?_
      refine gf5_26 X hK hP 0 rfl rfl dX5_again_40 ?_
      refine gf5_267 X hK hP 7 rfl rfl dX5_again_43 ?_
      cases hE
      exact retW X hP hS dX5_again_46
    · have hE := ite_t hE c_16
      refine lv_bipush (v := (iI (-3))) X.1.1 X.1.2.1 dX5_again_19 (by decide) ?_
      cases hE
      exact retW X hP hS dX5_again_21
  · have hE := ite_f hE c_5
    refine lv_iconst (v := (iI (-1))) X.1.1 X.1.2.1 dX5_again_8 rfl ?_
    cases hE
    exact retW X hP hS dX5_again_9
theorem o5_count : oV yX5_count RX5 cX5_count 2 (some .int) 1 := ⟨tw578, tw576, tw577, tw39, ⟨by decide +kernel, by decide +kernel⟩, by decide +kernel⟩
abbrev rm5_count : Room := { frames := 1, cells := 0, slots := 0, locals := 20 }
set_option maxHeartbeats 4000000 in
set_option maxRecDepth 100000 in
theorem c5_count {l : Launch} {G : va_G} {cI cZ : ClassId} {q0 q1 q2 q3 q4 q5 q6 q7 q8 q9 q10 q11 q12 q13 q14 q15 q16 q17 q18 q19 : Nat} {lt : Nat → Int32} {ln : Int32} {ki : Nat → Int32} {sp : Nat → Int32} {tu : Nat → Int32} {wo : Int32} {th : Int32} {st : Nat → Int32} {ch : Int32} {ya : Int32} {ow : Int32} {ca : Int32} {hu : Int32} {le : Int32} {tst : Nat → Int32} {tch : Int32} {tya : Int32} {tow : Int32} {tca : Int32} {thu : Int32} {tle : Int32} {an : Nat → Int32} {sn : Nat → Int32} {kp : Nat → Int32} {so : Nat → Int32} {sf : Nat → Int32} {sc : Nat → Int32} {ss : Int32} {ai : Int32} {sd : Int64} {v1 : Int32} {u : Int32} (hE : f5_count v1 ln wo th ch ya ow ca hu le ss ai = some u) : Met l yX5_count (Cond.code yX5_count cX5_count 2 (some .int) :: TB) rm5_count (PcR G cI cZ (wB cI cZ q0 q1 q2 q3 q4 q5 q6 q7 q8 q9 q10 q11 q12 q13 q14 q15 q16 q17 q18 q19 lt ln ki sp tu wo th st ch ya ow ca hu le tst tch tya tow tca thu tle an sn kp so sf sc ss ai sd) ([.ref q0, .int v1] : List Value)) (QcRead u) 0 0 (fun _ => False) := by
  refine metR (own := RX5) (by decide +kernel) rfl (Nat.le_of_ble_eq_true rfl) ?_
  intro p e s m below meth c ls X hP hK hl
  have hl : lv_has ls 2 [(0, .ref q0), (1, .int v1)] := hl
  unfold f5_count at hE
  refine lv_iload_n X.1.1 X.1.2.1 dX5_count_0 rfl (lv_at hl 1 rfl) ?_
  by_cases s_1_0 : v1 = (iI 0)
  · have hE := ite_t hE s_1_0
    refine tbIn (k := 0) (off := 59) (tgt := 60) X dX5_count_1 s_1_0 (by decide) (by decide) (by decide) rfl (by decide) ?_
    refine lv_aload_n X.1.1 X.1.2.1 dX5_count_60 rfl (lv_at hl 0 rfl) ?_
    refine gf5_12 X hK hP 0 rfl rfl dX5_count_61 ?_
    refine gf5_63 X hK hP 1 rfl rfl dX5_count_64 ?_
    cases hE
    exact retR X dX5_count_67
  · have hE := ite_f hE s_1_0
    by_cases s_1_1 : v1 = (iI 1)
    · have hE := ite_t hE s_1_1
      refine tbIn (k := 1) (off := 67) (tgt := 68) X dX5_count_1 s_1_1 (by decide) (by decide) (by decide) rfl (by decide) ?_
      refine lv_aload_n X.1.1 X.1.2.1 dX5_count_68 rfl (lv_at hl 0 rfl) ?_
      refine gf5_19 X hK hP 0 rfl rfl dX5_count_69 ?_
      refine gf5_92 X hK hP 3 rfl rfl dX5_count_72 ?_
      cases hE
      exact retR X dX5_count_75
    · have hE := ite_f hE s_1_1
      by_cases s_1_2 : v1 = (iI 2)
      · have hE := ite_t hE s_1_2
        refine tbIn (k := 2) (off := 75) (tgt := 76) X dX5_count_1 s_1_2 (by decide) (by decide) (by decide) rfl (by decide) ?_
        refine lv_aload_n X.1.1 X.1.2.1 dX5_count_76 rfl (lv_at hl 0 rfl) ?_
        refine gf5_19 X hK hP 0 rfl rfl dX5_count_77 ?_
        refine gf5_95 X hK hP 3 rfl rfl dX5_count_80 ?_
        cases hE
        exact retR X dX5_count_83
      · have hE := ite_f hE s_1_2
        by_cases s_1_3 : v1 = (iI 3)
        · have hE := ite_t hE s_1_3
          refine tbIn (k := 3) (off := 83) (tgt := 84) X dX5_count_1 s_1_3 (by decide) (by decide) (by decide) rfl (by decide) ?_
          refine lv_aload_n X.1.1 X.1.2.1 dX5_count_84 rfl (lv_at hl 0 rfl) ?_
          refine gf5_26 X hK hP 0 rfl rfl dX5_count_85 ?_
          refine gf5_270 X hK hP 7 rfl rfl dX5_count_88 ?_
          cases hE
          exact retR X dX5_count_91
        · have hE := ite_f hE s_1_3
          by_cases s_1_4 : v1 = (iI 4)
          · have hE := ite_t hE s_1_4
            refine tbIn (k := 4) (off := 91) (tgt := 92) X dX5_count_1 s_1_4 (by decide) (by decide) (by decide) rfl (by decide) ?_
            refine lv_aload_n X.1.1 X.1.2.1 dX5_count_92 rfl (lv_at hl 0 rfl) ?_
            refine gf5_26 X hK hP 0 rfl rfl dX5_count_93 ?_
            refine gf5_117 X hK hP 7 rfl rfl dX5_count_96 ?_
            cases hE
            exact retR X dX5_count_99
          · have hE := ite_f hE s_1_4
            by_cases s_1_5 : v1 = (iI 5)
            · have hE := ite_t hE s_1_5
              refine tbIn (k := 5) (off := 99) (tgt := 100) X dX5_count_1 s_1_5 (by decide) (by decide) (by decide) rfl (by decide) ?_
              refine lv_aload_n X.1.1 X.1.2.1 dX5_count_100 rfl (lv_at hl 0 rfl) ?_
              refine gf5_26 X hK hP 0 rfl rfl dX5_count_101 ?_
              refine gf5_168 X hK hP 7 rfl rfl dX5_count_104 ?_
              cases hE
              exact retR X dX5_count_107
            · have hE := ite_f hE s_1_5
              by_cases s_1_6 : v1 = (iI 6)
              · have hE := ite_t hE s_1_6
                refine tbIn (k := 6) (off := 107) (tgt := 108) X dX5_count_1 s_1_6 (by decide) (by decide) (by decide) rfl (by decide) ?_
                refine lv_aload_n X.1.1 X.1.2.1 dX5_count_108 rfl (lv_at hl 0 rfl) ?_
                refine gf5_26 X hK hP 0 rfl rfl dX5_count_109 ?_
                refine gf5_184 X hK hP 7 rfl rfl dX5_count_112 ?_
                obtain ⟨u1001, e_u1001, hE⟩ := bd_some hE
                refine callRS (wsC := []) (As := [.int hu]) (rest := []) (cI := cI) (cZ := cZ) X (c5_asNumber (l := l) (G := G) (cI := cI) (cZ := cZ) e_u1001) o5_asNumber tw323 ⟨rfl, rfl, Nat.le_of_ble_eq_true rfl, Nat.le_of_ble_eq_true rfl⟩ va_P_nil hK rfl hl rfl (by decide) ⟨Nat.le_refl _, Nat.le_refl _⟩ dX5_count_115 ?_
                cases hE
                exact retR X dX5_count_118
              · have hE := ite_f hE s_1_6
                by_cases s_1_7 : v1 = (iI 7)
                · have hE := ite_t hE s_1_7
                  refine tbIn (k := 7) (off := 118) (tgt := 119) X dX5_count_1 s_1_7 (by decide) (by decide) (by decide) rfl (by decide) ?_
                  refine lv_aload_n X.1.1 X.1.2.1 dX5_count_119 rfl (lv_at hl 0 rfl) ?_
                  refine gf5_26 X hK hP 0 rfl rfl dX5_count_120 ?_
                  refine gf5_154 X hK hP 7 rfl rfl dX5_count_123 ?_
                  obtain ⟨u1002, e_u1002, hE⟩ := bd_some hE
                  refine callRS (wsC := []) (As := [.int le]) (rest := []) (cI := cI) (cZ := cZ) X (c5_asNumber (l := l) (G := G) (cI := cI) (cZ := cZ) e_u1002) o5_asNumber tw323 ⟨rfl, rfl, Nat.le_of_ble_eq_true rfl, Nat.le_of_ble_eq_true rfl⟩ va_P_nil hK rfl hl rfl (by decide) ⟨Nat.le_refl _, Nat.le_refl _⟩ dX5_count_126 ?_
                  cases hE
                  exact retR X dX5_count_129
                · have hE := ite_f hE s_1_7
                  by_cases s_1_8 : v1 = (iI 8)
                  · have hE := ite_t hE s_1_8
                    refine tbIn (k := 8) (off := 129) (tgt := 130) X dX5_count_1 s_1_8 (by decide) (by decide) (by decide) rfl (by decide) ?_
                    refine lv_aload_n X.1.1 X.1.2.1 dX5_count_130 rfl (lv_at hl 0 rfl) ?_
                    refine gf5_26 X hK hP 0 rfl rfl dX5_count_131 ?_
                    refine gf5_267 X hK hP 7 rfl rfl dX5_count_134 ?_
                    cases hE
                    exact retR X dX5_count_137
                  · have hE := ite_f hE s_1_8
                    by_cases s_1_9 : v1 = (iI 9)
                    · have hE := ite_t hE s_1_9
                      refine tbIn (k := 9) (off := 137) (tgt := 138) X dX5_count_1 s_1_9 (by decide) (by decide) (by decide) rfl (by decide) ?_
                      refine lv_aload_n X.1.1 X.1.2.1 dX5_count_138 rfl (lv_at hl 0 rfl) ?_
                      refine gf5_89 X hK hP 0 rfl rfl dX5_count_139 ?_
                      cases hE
                      exact retR X dX5_count_142
                    · have hE := ite_f hE s_1_9
                      by_cases s_1_10 : v1 = (iI 10)
                      · have hE := ite_t hE s_1_10
                        refine tbIn (k := 10) (off := 142) (tgt := 143) X dX5_count_1 s_1_10 (by decide) (by decide) (by decide) rfl (by decide) ?_
                        refine lv_aload_n X.1.1 X.1.2.1 dX5_count_143 rfl (lv_at hl 0 rfl) ?_
                        refine gf5_52 X hK hP 0 rfl rfl dX5_count_144 ?_
                        refine gf5_230 X hK hP 16 rfl rfl dX5_count_147 ?_
                        cases hE
                        exact retR X dX5_count_150
                      · have hE := ite_f hE s_1_10
                        have ns_1_0 := sw_ne s_1_0 (by decide) (by decide)
                        have ns_1_1 := sw_ne s_1_1 (by decide) (by decide)
                        have ns_1_2 := sw_ne s_1_2 (by decide) (by decide)
                        have ns_1_3 := sw_ne s_1_3 (by decide) (by decide)
                        have ns_1_4 := sw_ne s_1_4 (by decide) (by decide)
                        have ns_1_5 := sw_ne s_1_5 (by decide) (by decide)
                        have ns_1_6 := sw_ne s_1_6 (by decide) (by decide)
                        have ns_1_7 := sw_ne s_1_7 (by decide) (by decide)
                        have ns_1_8 := sw_ne s_1_8 (by decide) (by decide)
                        have ns_1_9 := sw_ne s_1_9 (by decide) (by decide)
                        have ns_1_10 := sw_ne s_1_10 (by decide) (by decide)
                        refine lv_tableOut (tgt := 151) X.1.1 X.1.2.1 dX5_count_1 (by omega) (by decide) ?_
                        refine lv_bipush (v := (iI (-2))) X.1.1 X.1.2.1 dX5_count_151 (by decide) ?_
                        cases hE
                        exact retR X dX5_count_153
