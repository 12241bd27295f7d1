/-! the methods meet their functions (by program) -/
def wD (cI cZ : ClassId) (h hs : Nat) (st : Nat → Int32) (ch : Int32) (ya : Int32) (ow : Int32) (ca : Int32) (hu : Int32) (le : Int32) : va_W := [(h, .inr (0, [.ref hs, .int ch, .int ya, .int ow, .int ca, .int hu, .int le])), (hs, .inl (cI, 4, .inl st))]
theorem wD_fst {cI cZ : ClassId} {h hs : Nat} {st : Nat → Int32} {ch : Int32} {ya : Int32} {ow : Int32} {ca : Int32} {hu : Int32} {le : Int32} : (wD cI cZ h hs st ch ya ow ca hu le).map Prod.fst = [h, hs] := rfl
def wDD (cI cZ : ClassId) (h hs g gs : Nat) (st : Nat → Int32) (ch : Int32) (ya : Int32) (ow : Int32) (ca : Int32) (hu : Int32) (le : Int32) (ost : Nat → Int32) (och : Int32) (oya : Int32) (oow : Int32) (oca : Int32) (ohu : Int32) (ole : Int32) : va_W := [(h, .inr (0, [.ref hs, .int ch, .int ya, .int ow, .int ca, .int hu, .int le])), (hs, .inl (cI, 4, .inl st)), (g, .inr (0, [.ref gs, .int och, .int oya, .int oow, .int oca, .int ohu, .int ole])), (gs, .inl (cI, 4, .inl ost))]
theorem wDD_fst {cI cZ : ClassId} {h hs g gs : Nat} {st : Nat → Int32} {ch : Int32} {ya : Int32} {ow : Int32} {ca : Int32} {hu : Int32} {le : Int32} {ost : Nat → Int32} {och : Int32} {oya : Int32} {oow : Int32} {oca : Int32} {ohu : Int32} {ole : Int32} : (wDD cI cZ h hs g gs st ch ya ow ca hu le ost och oya oow oca ohu ole).map Prod.fst = [h, hs, g, gs] := rfl
def wF (cI cZ : ClassId) (h hk hp ht : Nat) (ki : Nat → Int32) (sp : Nat → Int32) (tu : Nat → Int32) (wo : Int32) (th : Int32) : va_W := [(h, .inr (1, [.ref hk, .ref hp, .ref ht, .int wo, .int th])), (hk, .inl (cI, 4, .inl ki)), (hp, .inl (cI, 4, .inl sp)), (ht, .inl (cI, 4, .inl tu))]
theorem wF_fst {cI cZ : ClassId} {h hk hp ht : Nat} {ki : Nat → Int32} {sp : Nat → Int32} {tu : Nat → Int32} {wo : Int32} {th : Int32} : (wF cI cZ h hk hp ht ki sp tu wo th).map Prod.fst = [h, hk, hp, ht] := rfl
def wFD (cI cZ : ClassId) (h hk hp ht d ds : Nat) (ki : Nat → Int32) (sp : Nat → Int32) (tu : Nat → Int32) (wo : Int32) (th : Int32) (st : Nat → Int32) (ch : Int32) (ya : Int32) (ow : Int32) (ca : Int32) (hu : Int32) (le : Int32) : va_W := [(h, .inr (1, [.ref hk, .ref hp, .ref ht, .int wo, .int th])), (hk, .inl (cI, 4, .inl ki)), (hp, .inl (cI, 4, .inl sp)), (ht, .inl (cI, 4, .inl tu)), (d, .inr (0, [.ref ds, .int ch, .int ya, .int ow, .int ca, .int hu, .int le])), (ds, .inl (cI, 4, .inl st))]
theorem wFD_fst {cI cZ : ClassId} {h hk hp ht d ds : Nat} {ki : Nat → Int32} {sp : Nat → Int32} {tu : Nat → Int32} {wo : Int32} {th : Int32} {st : Nat → Int32} {ch : Int32} {ya : Int32} {ow : Int32} {ca : Int32} {hu : Int32} {le : Int32} : (wFD cI cZ h hk hp ht d ds ki sp tu wo th st ch ya ow ca hu le).map Prod.fst = [h, hk, hp, ht, d, ds] := rfl
def wS (cI cZ : ClassId) (nN : Nat) (h hn : Nat) (nu : Nat → Int32) : va_W := [(h, .inr (2, [.ref hn])), (hn, .inl (cI, nN, .inl nu))]
theorem wS_fst {cI cZ : ClassId} {nN : Nat} {h hn : Nat} {nu : Nat → Int32} : (wS cI cZ nN h hn nu).map Prod.fst = [h, hn] := rfl
def wSD (cI cZ : ClassId) (nN : Nat) (h hn d ds : Nat) (nu : Nat → Int32) (st : Nat → Int32) (ch : Int32) (ya : Int32) (ow : Int32) (ca : Int32) (hu : Int32) (le : Int32) : va_W := [(h, .inr (2, [.ref hn])), (hn, .inl (cI, nN, .inl nu)), (d, .inr (0, [.ref ds, .int ch, .int ya, .int ow, .int ca, .int hu, .int le])), (ds, .inl (cI, 4, .inl st))]
theorem wSD_fst {cI cZ : ClassId} {nN : Nat} {h hn d ds : Nat} {nu : Nat → Int32} {st : Nat → Int32} {ch : Int32} {ya : Int32} {ow : Int32} {ca : Int32} {hu : Int32} {le : Int32} : (wSD cI cZ nN h hn d ds nu st ch ya ow ca hu le).map Prod.fst = [h, hn, d, ds] := rfl
def wG (cI cZ : ClassId) (h ho hf hc : Nat) (so : Nat → Int32) (sf : Nat → Int32) (sc : Nat → Int32) (ss : Int32) : va_W := [(h, .inr (3, [.ref ho, .ref hf, .ref hc, .int ss])), (ho, .inl (cI, 6, .inl so)), (hf, .inl (cI, 6, .inl sf)), (hc, .inl (cZ, 6, .inl sc))]
theorem wG_fst {cI cZ : ClassId} {h ho hf hc : Nat} {so : Nat → Int32} {sf : Nat → Int32} {sc : Nat → Int32} {ss : Int32} : (wG cI cZ h ho hf hc so sf sc ss).map Prod.fst = [h, ho, hf, hc] := rfl
def wGF (cI cZ : ClassId) (h ho hf hc f fk fp ft : Nat) (so : Nat → Int32) (sf : Nat → Int32) (sc : Nat → Int32) (ss : Int32) (ki : Nat → Int32) (sp : Nat → Int32) (tu : Nat → Int32) (wo : Int32) (th : Int32) : va_W := [(h, .inr (3, [.ref ho, .ref hf, .ref hc, .int ss])), (ho, .inl (cI, 6, .inl so)), (hf, .inl (cI, 6, .inl sf)), (hc, .inl (cZ, 6, .inl sc)), (f, .inr (1, [.ref fk, .ref fp, .ref ft, .int wo, .int th])), (fk, .inl (cI, 4, .inl ki)), (fp, .inl (cI, 4, .inl sp)), (ft, .inl (cI, 4, .inl tu))]
theorem wGF_fst {cI cZ : ClassId} {h ho hf hc f fk fp ft : Nat} {so : Nat → Int32} {sf : Nat → Int32} {sc : Nat → Int32} {ss : Int32} {ki : Nat → Int32} {sp : Nat → Int32} {tu : Nat → Int32} {wo : Int32} {th : Int32} : (wGF cI cZ h ho hf hc f fk fp ft so sf sc ss ki sp tu wo th).map Prod.fst = [h, ho, hf, hc, f, fk, fp, ft] := rfl
def wT (cI cZ : ClassId) (h hlt : Nat) (lt : Nat → Int32) (ln : Int32) : va_W := [(h, .inr (4, [.ref hlt, .int ln])), (hlt, .inl (cI, 36, .inl lt))]
theorem wT_fst {cI cZ : ClassId} {h hlt : Nat} {lt : Nat → Int32} {ln : Int32} : (wT cI cZ h hlt lt ln).map Prod.fst = [h, hlt] := rfl
def wB (cI cZ : ClassId) (q0 q1 q2 q3 q4 q5 q6 q7 q8 q9 q10 q11 q12 q13 q14 q15 q16 q17 q18 q19 : Nat) (lt : Nat → Int32) (ln : Int32) (ki : Nat → Int32) (sp : Nat → Int32) (tu : Nat → Int32) (wo : Int32) (th : Int32) (st : Nat → Int32) (ch : Int32) (ya : Int32) (ow : Int32) (ca : Int32) (hu : Int32) (le : Int32) (tst : Nat → Int32) (tch : Int32) (tya : Int32) (tow : Int32) (tca : Int32) (thu : Int32) (tle : Int32) (an : Nat → Int32) (sn : Nat → Int32) (kp : Nat → Int32) (so : Nat → Int32) (sf : Nat → Int32) (sc : Nat → Int32) (ss : Int32) (ai : Int32) (sd : Int64) : va_W := [(q0, .inr (5, [.ref q1, .ref q3, .ref q7, .ref q9, .ref q11, .int ai, .ref q13, .ref q15, .ref q16, .long sd])), (q1, .inr (4, [.ref q2, .int ln])), (q2, .inl (cI, 36, .inl lt)), (q3, .inr (1, [.ref q4, .ref q5, .ref q6, .int wo, .int th])), (q4, .inl (cI, 4, .inl ki)), (q5, .inl (cI, 4, .inl sp)), (q6, .inl (cI, 4, .inl tu)), (q7, .inr (0, [.ref q8, .int ch, .int ya, .int ow, .int ca, .int hu, .int le])), (q8, .inl (cI, 4, .inl st)), (q9, .inr (0, [.ref q10, .int tch, .int tya, .int tow, .int tca, .int thu, .int tle])), (q10, .inl (cI, 4, .inl tst)), (q11, .inr (2, [.ref q12])), (q12, .inl (cI, 140, .inl an)), (q13, .inr (2, [.ref q14])), (q14, .inl (cI, 20, .inl sn)), (q15, .inl (cZ, 2, .inl kp)), (q16, .inr (3, [.ref q17, .ref q18, .ref q19, .int ss])), (q17, .inl (cI, 6, .inl so)), (q18, .inl (cI, 6, .inl sf)), (q19, .inl (cZ, 6, .inl sc))]
theorem wB_fst {cI cZ : ClassId} {q0 q1 q2 q3 q4 q5 q6 q7 q8 q9 q10 q11 q12 q13 q14 q15 q16 q17 q18 q19 : Nat} {lt : Nat → Int32} {ln : Int32} {ki : Nat → Int32} {sp : Nat → Int32} {tu : Nat → Int32} {wo : Int32} {th : Int32} {st : Nat → Int32} {ch : Int32} {ya : Int32} {ow : Int32} {ca : Int32} {hu : Int32} {le : Int32} {tst : Nat → Int32} {tch : Int32} {tya : Int32} {tow : Int32} {tca : Int32} {thu : Int32} {tle : Int32} {an : Nat → Int32} {sn : Nat → Int32} {kp : Nat → Int32} {so : Nat → Int32} {sf : Nat → Int32} {sc : Nat → Int32} {ss : Int32} {ai : Int32} {sd : Int64} : (wB cI cZ q0 q1 q2 q3 q4 q5 q6 q7 q8 q9 q10 q11 q12 q13 q14 q15 q16 q17 q18 q19 lt ln ki sp tu wo th st ch ya ow ca hu le tst tch tya tow tca thu tle an sn kp so sf sc ss ai sd).map Prod.fst = [q0, q1, q2, q3, q4, q5, q6, q7, q8, q9, q10, q11, q12, q13, q14, q15, q16, q17, q18, q19] := rfl
def wM (cI cZ : ClassId) (m0 m1 m2 m3 m4 m5 m6 m7 m8 m9 m10 m11 m12 m13 : Nat) (mwo : Int32) (mth : Int32) (mrn : Int32) (mrm : Int32) (mln : Int32) (mat : Int32) (mfa : Int32) (mac : Int32) (mnx : Int32) (mse : Int32) (msd : Int64) (mki : Nat → Int32) (mof : Nat → Int32) (mpu : Nat → Int32) (mno : Nat → Int32) (mrw : Nat → Int32) (mrt : Nat → Int32) (mtx : Nat → Int32) (mro : Nat → Int32) (mso : Nat → Int32) (msf : Nat → Int32) (msc : Nat → Int32) (mik : Nat → Int32) (mkt : Nat → Int32) : va_W := [(m0, .inr (6, [.int mwo, .int mth, .ref m1, .ref m2, .ref m3, .ref m4, .ref m5, .ref m6, .int mrn, .int mrm, .ref m7, .int mln, .int mat, .int mfa, .int mac, .int mnx, .ref m8, .int mse, .ref m9, .ref m10, .ref m11, .long msd, .ref m12, .ref m13])), (m1, .inl (cI, 4, .inl mki)), (m2, .inl (cI, 4, .inl mof)), (m3, .inl (cI, 4, .inl mpu)), (m4, .inl (cI, 20, .inl mno)), (m5, .inl (cI, 8, .inl mrw)), (m6, .inl (cI, 8, .inl mrt)), (m7, .inl (cI, 36, .inl mtx)), (m8, .inl (cI, 140, .inl mro)), (m9, .inl (cI, 6, .inl mso)), (m10, .inl (cI, 6, .inl msf)), (m11, .inl (cI, 6, .inl msc)), (m12, .inl (cZ, 2, .inl mik)), (m13, .inl (cI, 20, .inl mkt))]
theorem wM_fst {cI cZ : ClassId} {m0 m1 m2 m3 m4 m5 m6 m7 m8 m9 m10 m11 m12 m13 : Nat} {mwo : Int32} {mth : Int32} {mrn : Int32} {mrm : Int32} {mln : Int32} {mat : Int32} {mfa : Int32} {mac : Int32} {mnx : Int32} {mse : Int32} {msd : Int64} {mki : Nat → Int32} {mof : Nat → Int32} {mpu : Nat → Int32} {mno : Nat → Int32} {mrw : Nat → Int32} {mrt : Nat → Int32} {mtx : Nat → Int32} {mro : Nat → Int32} {mso : Nat → Int32} {msf : Nat → Int32} {msc : Nat → Int32} {mik : Nat → Int32} {mkt : Nat → Int32} : (wM cI cZ m0 m1 m2 m3 m4 m5 m6 m7 m8 m9 m10 m11 m12 m13 mwo mth mrn mrm mln mat mfa mac mnx mse msd mki mof mpu mno mrw mrt mtx mro mso msf msc mik mkt).map Prod.fst = [m0, m1, m2, m3, m4, m5, m6, m7, m8, m9, m10, m11, m12, m13] := rfl
theorem o0_startAnew : oV yX0_startAnew RX0 cX0_startAnew 3 none 2 := ⟨tw248, tw246, tw247, tw42, ⟨by decide +kernel, by decide +kernel⟩, by decide +kernel⟩
abbrev rm0_startAnew : Room := { frames := 0, cells := 0, slots := 0, locals := 0 }
set_option maxHeartbeats 4000000 in
set_option maxRecDepth 100000 in
theorem c0_startAnew {l : Launch} {G : va_G} {cI cZ : ClassId} {h hs : Nat} {st : Nat → Int32} {ch : Int32} {ya : Int32} {ow : Int32} {ca : Int32} {hu : Int32} {le : Int32} {v1 : Int32} {v2 : Int32} {sz : Nat} {u : Int32 × Int32 × Int32 × Int32 × Int32 × Int32} (hE : f0_startAnew v1 v2 = some u) : Met l yX0_startAnew (Cond.code yX0_startAnew cX0_startAnew 3 none :: TB) rm0_startAnew (PcW G cI cZ (wD cI cZ h hs st ch ya ow ca hu le) sz ([.ref h, .int v1, .int v2] : List Value)) (QW G none (wD cI cZ h hs st u.1 u.2.1 u.2.2.1 u.2.2.2.1 u.2.2.2.2.1 u.2.2.2.2.2) (va_A (wD cI cZ h hs st ch ya ow ca hu le) sz)) 0 0 (va_A (wD cI cZ h hs st ch ya ow ca hu le) sz) := by
  refine metW (own := RX0) (by decide +kernel) rfl (Nat.le_of_ble_eq_true rfl) ?_
  intro p e s m below meth c ls A X hA hP hK hD hl
  have hS : va_S A s.heap s.heap [] := va_S.rf
  have hl : lv_has ls 3 [(0, .ref h), (1, .int v1), (2, .int v2)] := hl
  unfold f0_startAnew at hE
  refine lv_aload_n X.1.1 X.1.2.1 dX0_startAnew_0 rfl (lv_at hl 0 rfl) ?_
  refine lv_iload_n X.1.1 X.1.2.1 dX0_startAnew_1 rfl (lv_at hl 1 rfl) ?_
  refine pf0_19 (ws2 := (wD cI cZ h hs st v1 ya ow ca hu le)) X hK hP hD hS 0 rfl (Nat.le_of_ble_eq_true rfl) rfl dX0_startAnew_2 (fun H locs hP hD hS => ?_)
  refine lv_aload_n X.1.1 X.1.2.1 dX0_startAnew_5 rfl (lv_at hl 0 rfl) ?_
  refine lv_iload_n X.1.1 X.1.2.1 dX0_startAnew_6 rfl (lv_at hl 2 rfl) ?_
  refine pf0_22 (ws2 := (wD cI cZ h hs st v1 v2 ow ca hu le)) X hK hP hD hS 0 rfl (Nat.le_of_ble_eq_true rfl) rfl dX0_startAnew_7 (fun H locs hP hD hS => ?_)
  refine lv_aload_n X.1.1 X.1.2.1 dX0_startAnew_10 rfl (lv_at hl 0 rfl) ?_
  refine lv_bipush (v := (iI (-9))) X.1.1 X.1.2.1 dX0_startAnew_11 (by decide) ?_
  refine pf0_15 (ws2 := (wD cI cZ h hs st v1 v2 (iI (-9)) ca hu le)) X hK hP hD hS 0 rfl (Nat.le_of_ble_eq_true rfl) rfl dX0_startAnew_13 (fun H locs hP hD hS => ?_)
  refine lv_aload_n X.1.1 X.1.2.1 dX0_startAnew_16 rfl (lv_at hl 0 rfl) ?_
  refine lv_iconst (v := (iI 0)) X.1.1 X.1.2.1 dX0_startAnew_17 rfl ?_
  refine pf0_25 (ws2 := (wD cI cZ h hs st v1 v2 (iI (-9)) (iI 0) hu le)) X hK hP hD hS 0 rfl (Nat.le_of_ble_eq_true rfl) rfl dX0_startAnew_18 (fun H locs hP hD hS => ?_)
  refine lv_aload_n X.1.1 X.1.2.1 dX0_startAnew_21 rfl (lv_at hl 0 rfl) ?_
  refine lv_iconst (v := (iI 0)) X.1.1 X.1.2.1 dX0_startAnew_22 rfl ?_
  refine pf0_28 (ws2 := (wD cI cZ h hs st v1 v2 (iI (-9)) (iI 0) (iI 0) le)) X hK hP hD hS 0 rfl okB_0 (Nat.le_of_ble_eq_true rfl) rfl dX0_startAnew_23 (fun H locs hP hD hS => ?_)
  refine lv_aload_n X.1.1 X.1.2.1 dX0_startAnew_26 rfl (lv_at hl 0 rfl) ?_
  refine lv_iconst (v := (iI 0)) X.1.1 X.1.2.1 dX0_startAnew_27 rfl ?_
  refine pf0_32 (ws2 := (wD cI cZ h hs st v1 v2 (iI (-9)) (iI 0) (iI 0) (iI 0))) X hK hP hD hS 0 rfl okB_0 (Nat.le_of_ble_eq_true rfl) rfl dX0_startAnew_28 (fun H locs hP hD hS => ?_)
  cases hE
  exact retWV X hP hS dX0_startAnew_31
theorem o0_strengthOf : oV yX0_strengthOf RX0 cX0_strengthOf 2 (some .int) 1 := ⟨tw281, tw279, tw280, tw42, ⟨by decide +kernel, by decide +kernel⟩, by decide +kernel⟩
abbrev rm0_strengthOf : Room := { frames := 0, cells := 0, slots := 0, locals := 0 }
set_option maxHeartbeats 4000000 in
set_option maxRecDepth 100000 in
theorem c0_strengthOf {l : Launch} {G : va_G} {cI cZ : ClassId} {h hs : Nat} {st : Nat → Int32} {ch : Int32} {ya : Int32} {ow : Int32} {ca : Int32} {hu : Int32} {le : Int32} {v1 : Int32} {u : Int32} (hE : f0_strengthOf v1 st = some u) : Met l yX0_strengthOf (Cond.code yX0_strengthOf cX0_strengthOf 2 (some .int) :: TB) rm0_strengthOf (PcR G cI cZ (wD cI cZ h hs st ch ya ow ca hu le) ([.ref h, .int v1] : List Value)) (QcRead u) 0 0 (fun _ => False) := by
  refine metR (own := RX0) (by decide +kernel) rfl (Nat.le_of_ble_eq_true rfl) ?_
  intro p e s m below meth c ls X hP hK hl
  have hl : lv_has ls 2 [(0, .ref h), (1, .int v1)] := hl
  unfold f0_strengthOf at hE
  refine lv_iload_n X.1.1 X.1.2.1 dX0_strengthOf_0 rfl (lv_at hl 1 rfl) ?_
  refine lv_if_lt (tgt := 22) X.1.1 X.1.2.1 dX0_strengthOf_1 (by decide) (fun c_1 => ?_) (fun c_1 => ?_)
  · have hE := ite_t hE c_1
    refine lv_iconst (v := (iI 0)) X.1.1 X.1.2.1 dX0_strengthOf_22 rfl ?_
    cases hE
    exact retR X dX0_strengthOf_23
  · have hE := ite_f hE c_1
    refine lv_iload_n X.1.1 X.1.2.1 dX0_strengthOf_4 rfl (lv_at hl 1 rfl) ?_
    refine lv_aload_n X.1.1 X.1.2.1 dX0_strengthOf_5 rfl (lv_at hl 0 rfl) ?_
    refine gf0_9 X hK hP 0 rfl rfl dX0_strengthOf_6 ?_
    refine va_alen (v := (Int32.ofNat 4)) X.1.1 X.1.2.1 hK hP 1 0 rfl rfl rfl dX0_strengthOf_9 ?_
    refine lv_icmp_ge (tgt := 22) X.1.1 X.1.2.1 dX0_strengthOf_10 (by decide) (fun c_10 => ?_) (fun c_10 => ?_)
    · have hE := ite_t hE c_10
      refine lv_iconst (v := (iI 0)) X.1.1 X.1.2.1 dX0_strengthOf_22 rfl ?_
      cases hE
      exact retR X dX0_strengthOf_23
    · have hE := ite_f hE c_10
      refine lv_aload_n X.1.1 X.1.2.1 dX0_strengthOf_13 rfl (lv_at hl 0 rfl) ?_
      refine gf0_9 X hK hP 0 rfl rfl dX0_strengthOf_14 ?_
      refine lv_iload_n X.1.1 X.1.2.1 dX0_strengthOf_17 rfl (lv_at hl 1 rfl) ?_
      obtain ⟨i_18, hE⟩ := ib_some hE
      refine va_iald X.1.1 X.1.2.1 hK hP 1 0 rfl rfl i_18 dX0_strengthOf_18 ?_
      refine lv_goto (tgt := 23) X.1.1 X.1.2.1 dX0_strengthOf_19 (by decide) ?_
      cases hE
      exact retR X dX0_strengthOf_23
theorem o0_copyFrom : oV yX0_copyFrom RX0 cX0_copyFrom 3 none 1 := ⟨tw463, tw461, tw462, tw42, ⟨by decide +kernel, by decide +kernel⟩, by decide +kernel⟩
abbrev rm0_copyFrom : Room := { frames := 1, cells := 0, slots := 0, locals := 21 }
set_option maxHeartbeats 4000000 in
set_option maxRecDepth 100000 in
theorem c0_copyFrom {l : Launch} {G : va_G} {cI cZ : ClassId} {h hs g gs : Nat} {st : Nat → Int32} {ch : Int32} {ya : Int32} {ow : Int32} {ca : Int32} {hu : Int32} {le : Int32} {ost : Nat → Int32} {och : Int32} {oya : Int32} {oow : Int32} {oca : Int32} {ohu : Int32} {ole : Int32} {sz : Nat} {u : (Nat → Int32) × Int32 × Int32 × Int32 × Int32 × Int32 × Int32} (hE : f0_copyFrom st ost och oya oow oca ohu ole = some u) : Met l yX0_copyFrom (Cond.code yX0_copyFrom cX0_copyFrom 3 none :: TB) rm0_copyFrom (PcW G cI cZ (wDD cI cZ h hs g gs st ch ya ow ca hu le ost och oya oow oca ohu ole) sz ([.ref h, .ref g] : List Value)) (QW G none (wDD cI cZ h hs g gs u.1 u.2.1 u.2.2.1 u.2.2.2.1 u.2.2.2.2.1 u.2.2.2.2.2.1 u.2.2.2.2.2.2 ost och oya oow oca ohu ole) (va_A (wDD cI cZ h hs g gs st ch ya ow ca hu le ost och oya oow oca ohu ole) sz)) 0 0 (va_A (wDD cI cZ h hs g gs st ch ya ow ca hu le ost och oya oow oca ohu ole) sz) := by
  refine metW (own := RX0) (by decide +kernel) rfl (Nat.le_of_ble_eq_true rfl) ?_
  intro p e s m below meth c ls A X hA hP hK hD hl
  have hS : va_S A s.heap s.heap [] := va_S.rf
  have hl : lv_has ls 3 [(0, .ref h), (1, .ref g)] := hl
  unfold f0_copyFrom at hE
  refine lv_iconst (v := (iI 0)) X.1.1 X.1.2.1 dX0_copyFrom_0 rfl ?_
  refine lv_istore_n (lv' := [(2, .int (iI 0)), (0, .ref h), (1, .ref g)]) X.1.1 X.1.2.1 dX0_copyFrom_1 rfl hl (by decide) rfl (fun ls hl => ?_)
  have lp2 : ∀ (k : Int32 → (Nat → Int32) → Option ((Nat → Int32) × Int32 × Int32 × Int32 × Int32 × Int32 × Int32)), (∀ (v2_1001 : Int32) (st_1001 : Nat → Int32) (H : Heap) (locs : List Loc) (ls : Array Slot), va_P G vwCl (wDD cI cZ h hs g gs st_1001 ch ya ow ca hu le ost och oya oow oca ohu ole) H → va_D A (wDD cI cZ h hs g gs st_1001 ch ya ow ca hu le ost och oya oow oca ohu ole) → va_S A s.heap H locs → lv_has ls 3 [(0, .ref h), (1, .ref g), (2, .int v2_1001)] → k v2_1001 st_1001 = some u → W p l e rm0_copyFrom s m ([.ref h, .ref g] : List Value).toArray below meth c H locs 0 0 (MQ below (QW G none (wDD cI cZ h hs g gs u.1 u.2.1 u.2.2.1 u.2.2.2.1 u.2.2.2.2.1 u.2.2.2.2.2.1 u.2.2.2.2.2.2 ost och oya oow oca ohu ole) A) ([.ref h, .ref g] : List Value).toArray s 0 0 A) (F0 m 28 ls [])) → ∀ (n : Nat) (v2_1001 : Int32) (st_1001 : Nat → Int32) (H : Heap) (locs : List Loc) (ls : Array Slot), va_P G vwCl (wDD cI cZ h hs g gs st_1001 ch ya ow ca hu le ost och oya oow oca ohu ole) H → va_D A (wDD cI cZ h hs g gs st_1001 ch ya ow ca hu le ost och oya oow oca ohu ole) → va_S A s.heap H locs → lv_has ls 3 [(0, .ref h), (1, .ref g), (2, .int v2_1001)] → l0_copyFrom_2 k ost n v2_1001 st_1001 = some u → W p l e rm0_copyFrom s m ([.ref h, .ref g] : List Value).toArray below meth c H locs 0 0 (MQ below (QW G none (wDD cI cZ h hs g gs u.1 u.2.1 u.2.2.1 u.2.2.2.1 u.2.2.2.2.1 u.2.2.2.2.2.1 u.2.2.2.2.2.2 ost och oya oow oca ohu ole) A) ([.ref h, .ref g] : List Value).toArray s 0 0 A) (F0 m 2 ls []) := by
    intro k hex n
    induction n with
    | zero =>
      intro v2_1001 st_1001 H locs ls hP hD hS hl hE
      exact absurd (show (none : Option ((Nat → Int32) × Int32 × Int32 × Int32 × Int32 × Int32 × Int32)) = some u from hE) (fun h => by cases h)
    | succ n ih =>
      intro v2_1001 st_1001 H locs ls hP hD hS hl hE
      rw [l0_copyFrom_2] at hE
      refine lv_iload_n X.1.1 X.1.2.1 dX0_copyFrom_2 rfl (lv_at hl 2 rfl) ?_
      refine lv_aload_n X.1.1 X.1.2.1 dX0_copyFrom_3 rfl (lv_at hl 0 rfl) ?_
      refine gf0_9 X hK hP 0 rfl rfl dX0_copyFrom_4 ?_
      refine va_alen (v := (Int32.ofNat 4)) X.1.1 X.1.2.1 hK hP 1 0 rfl rfl rfl dX0_copyFrom_7 ?_
      refine lv_icmp_ge (tgt := 28) X.1.1 X.1.2.1 dX0_copyFrom_8 (by decide) (fun c_8 => ?_) (fun c_8 => ?_)
      · have hE := ite_t hE c_8
        exact hex v2_1001 st_1001 H locs ls hP hD hS (lv_sub hl [0, 1, 2] rfl) hE
      · have hE := ite_f hE c_8
        refine lv_aload_n X.1.1 X.1.2.1 dX0_copyFrom_11 rfl (lv_at hl 0 rfl) ?_
        refine gf0_9 X hK hP 0 rfl rfl dX0_copyFrom_12 ?_
        refine lv_iload_n X.1.1 X.1.2.1 dX0_copyFrom_15 rfl (lv_at hl 2 rfl) ?_
        refine lv_aload_n X.1.1 X.1.2.1 dX0_copyFrom_16 rfl (lv_at hl 1 rfl) ?_
        refine lv_iload_n X.1.1 X.1.2.1 dX0_copyFrom_17 rfl (lv_at hl 2 rfl) ?_
        obtain ⟨u1002, e_u1002, hE⟩ := bd_some hE
        refine callRV (wsC := (wD cI cZ g gs ost och oya oow oca ohu ole)) (As := [.int v2_1001]) (rest := [.int v2_1001, .ref hs]) (ci := 0) X (c0_strengthOf (l := l) e_u1002) o0_strengthOf tw383 ⟨rfl, rfl, Nat.le_of_ble_eq_true rfl, Nat.le_of_ble_eq_true rfl⟩ (hP.sub [2, 3] rfl) hK 0 rfl rfl rfl rfl hl rfl (Nat.le_of_ble_eq_true rfl) ⟨Nat.le_refl _, Nat.le_refl _⟩ dX0_copyFrom_18 ?_
        obtain ⟨i_21, hE⟩ := ib_some hE
        refine astI (t0 := 0) (ws' := (wDD cI cZ h hs g gs (upd st_1001 v2_1001.toNatClampNeg u1002) ch ya ow ca hu le ost och oya oow oca ohu ole)) X hK hP hD hS 1 0 rfl rfl i_21 rfl dX0_copyFrom_21 (fun H locs hP hD hS => ?_)
        refine lv_iinc (v := (v2_1001 + (iI 1))) (lv' := [(2, .int (v2_1001 + (iI 1))), (0, .ref h), (1, .ref g)]) X.1.1 X.1.2.1 dX0_copyFrom_22 hl (k := 2) rfl rfl (by decide) rfl (fun ls hl => ?_)
        refine lv_goto (tgt := 2) X.1.1 X.1.2.1 dX0_copyFrom_25 (by decide) ?_
        exact ih (v2_1001 + (iI 1)) (upd st_1001 v2_1001.toNatClampNeg u1002) H locs ls hP hD hS (lv_sub hl [1, 2, 0] rfl) hE
  refine lp2 _ (fun v2_1001 st_1001 H locs ls hP hD hS hl hE => ?_) FU (iI 0) st _ _ ls hP hD hS (lv_sub hl [1, 2, 0] rfl) hE
  refine lv_aload_n X.1.1 X.1.2.1 dX0_copyFrom_28 rfl (lv_at hl 0 rfl) ?_
  refine lv_aload_n X.1.1 X.1.2.1 dX0_copyFrom_29 rfl (lv_at hl 1 rfl) ?_
  refine gf0_19 X hK hP 2 rfl rfl dX0_copyFrom_30 ?_
  refine pf0_19 (ws2 := (wDD cI cZ h hs g gs st_1001 och ya ow ca hu le ost och oya oow oca ohu ole)) X hK hP hD hS 0 rfl (Nat.le_of_ble_eq_true rfl) rfl dX0_copyFrom_33 (fun H locs hP hD hS => ?_)
  refine lv_aload_n X.1.1 X.1.2.1 dX0_copyFrom_36 rfl (lv_at hl 0 rfl) ?_
  refine lv_aload_n X.1.1 X.1.2.1 dX0_copyFrom_37 rfl (lv_at hl 1 rfl) ?_
  refine gf0_22 X hK hP 2 rfl rfl dX0_copyFrom_38 ?_
  refine pf0_22 (ws2 := (wDD cI cZ h hs g gs st_1001 och oya ow ca hu le ost och oya oow oca ohu ole)) X hK hP hD hS 0 rfl (Nat.le_of_ble_eq_true rfl) rfl dX0_copyFrom_41 (fun H locs hP hD hS => ?_)
  refine lv_aload_n X.1.1 X.1.2.1 dX0_copyFrom_44 rfl (lv_at hl 0 rfl) ?_
  refine lv_aload_n X.1.1 X.1.2.1 dX0_copyFrom_45 rfl (lv_at hl 1 rfl) ?_
  refine gf0_15 X hK hP 2 rfl rfl dX0_copyFrom_46 ?_
  refine pf0_15 (ws2 := (wDD cI cZ h hs g gs st_1001 och oya oow ca hu le ost och oya oow oca ohu ole)) X hK hP hD hS 0 rfl (Nat.le_of_ble_eq_true rfl) rfl dX0_copyFrom_49 (fun H locs hP hD hS => ?_)
  refine lv_aload_n X.1.1 X.1.2.1 dX0_copyFrom_52 rfl (lv_at hl 0 rfl) ?_
  refine lv_aload_n X.1.1 X.1.2.1 dX0_copyFrom_53 rfl (lv_at hl 1 rfl) ?_
  refine gf0_25 X hK hP 2 rfl rfl dX0_copyFrom_54 ?_
  refine pf0_25 (ws2 := (wDD cI cZ h hs g gs st_1001 och oya oow oca hu le ost och oya oow oca ohu ole)) X hK hP hD hS 0 rfl (Nat.le_of_ble_eq_true rfl) rfl dX0_copyFrom_57 (fun H locs hP hD hS => ?_)
  refine lv_aload_n X.1.1 X.1.2.1 dX0_copyFrom_60 rfl (lv_at hl 0 rfl) ?_
  refine lv_aload_n X.1.1 X.1.2.1 dX0_copyFrom_61 rfl (lv_at hl 1 rfl) ?_
  refine gf0_28 X hK hP 2 rfl rfl dX0_copyFrom_62 ?_
  obtain ⟨z_65, hE⟩ := okB_some hE
  refine pf0_28 (ws2 := (wDD cI cZ h hs g gs st_1001 och oya oow oca ohu le ost och oya oow oca ohu ole)) X hK hP hD hS 0 rfl z_65 (Nat.le_of_ble_eq_true rfl) rfl dX0_copyFrom_65 (fun H locs hP hD hS => ?_)
  refine lv_aload_n X.1.1 X.1.2.1 dX0_copyFrom_68 rfl (lv_at hl 0 rfl) ?_
  refine lv_aload_n X.1.1 X.1.2.1 dX0_copyFrom_69 rfl (lv_at hl 1 rfl) ?_
  refine gf0_32 X hK hP 2 rfl rfl dX0_copyFrom_70 ?_
  obtain ⟨z_73, hE⟩ := okB_some hE
  refine pf0_32 (ws2 := (wDD cI cZ h hs g gs st_1001 och oya oow oca ohu ole ost och oya oow oca ohu ole)) X hK hP hD hS 0 rfl z_73 (Nat.le_of_ble_eq_true rfl) rfl dX0_copyFrom_73 (fun H locs hP hD hS => ?_)
  cases hE
  exact retWV X hP hS dX0_copyFrom_76
theorem o0_setStrength : oV yX0_setStrength RX0 cX0_setStrength 3 none 2 := ⟨tw261, tw259, tw260, tw42, ⟨by decide +kernel, by decide +kernel⟩, by decide +kernel⟩
abbrev rm0_setStrength : Room := { frames := 0, cells := 0, slots := 0, locals := 0 }
set_option maxHeartbeats 4000000 in
set_option maxRecDepth 100000 in
theorem c0_setStrength {l : Launch} {G : va_G} {cI cZ : ClassId} {h hs : Nat} {st : Nat → Int32} {ch : Int32} {ya : Int32} {ow : Int32} {ca : Int32} {hu : Int32} {le : Int32} {v1 : Int32} {v2 : Int32} {sz : Nat} {u : (Nat → Int32)} (hE : f0_setStrength v1 v2 st = some u) : Met l yX0_setStrength (Cond.code yX0_setStrength cX0_setStrength 3 none :: TB) rm0_setStrength (PcW G cI cZ (wD cI cZ h hs st ch ya ow ca hu le) sz ([.ref h, .int v1, .int v2] : List Value)) (QW G none (wD cI cZ h hs u ch ya ow ca hu le) (va_A (wD cI cZ h hs st ch ya ow ca hu le) sz)) 0 0 (va_A (wD cI cZ h hs st ch ya ow ca hu le) sz) := by
  refine metW (own := RX0) (by decide +kernel) rfl (Nat.le_of_ble_eq_true rfl) ?_
  intro p e s m below meth c ls A X hA hP hK hD hl
  have hS : va_S A s.heap s.heap [] := va_S.rf
  have hl : lv_has ls 3 [(0, .ref h), (1, .int v1), (2, .int v2)] := hl
  unfold f0_setStrength at hE
  refine lv_iload_n X.1.1 X.1.2.1 dX0_setStrength_0 rfl (lv_at hl 1 rfl) ?_
  refine lv_if_lt (tgt := 20) X.1.1 X.1.2.1 dX0_setStrength_1 (by decide) (fun c_1 => ?_) (fun c_1 => ?_)
  · have hE := ite_t hE c_1
    cases hE
    exact retWV X hP hS dX0_setStrength_20
  · have hE := ite_f hE c_1
    refine lv_iload_n X.1.1 X.1.2.1 dX0_setStrength_4 rfl (lv_at hl 1 rfl) ?_
    refine lv_aload_n X.1.1 X.1.2.1 dX0_setStrength_5 rfl (lv_at hl 0 rfl) ?_
    refine gf0_9 X hK hP 0 rfl rfl dX0_setStrength_6 ?_
    refine va_alen (v := (Int32.ofNat 4)) X.1.1 X.1.2.1 hK hP 1 0 rfl rfl rfl dX0_setStrength_9 ?_
    refine lv_icmp_ge (tgt := 20) X.1.1 X.1.2.1 dX0_setStrength_10 (by decide) (fun c_10 => ?_) (fun c_10 => ?_)
    · have hE := ite_t hE c_10
      cases hE
      exact retWV X hP hS dX0_setStrength_20
    · have hE := ite_f hE c_10
      refine lv_aload_n X.1.1 X.1.2.1 dX0_setStrength_13 rfl (lv_at hl 0 rfl) ?_
      refine gf0_9 X hK hP 0 rfl rfl dX0_setStrength_14 ?_
      refine lv_iload_n X.1.1 X.1.2.1 dX0_setStrength_17 rfl (lv_at hl 1 rfl) ?_
      refine lv_iload_n X.1.1 X.1.2.1 dX0_setStrength_18 rfl (lv_at hl 2 rfl) ?_
      obtain ⟨i_19, hE⟩ := ib_some hE
      refine astI (t0 := 0) (ws' := (wD cI cZ h hs (upd st v1.toNatClampNeg v2) ch ya ow ca hu le)) X hK hP hD hS 1 0 rfl rfl i_19 rfl dX0_setStrength_19 (fun H locs hP hD hS => ?_)
      cases hE
      exact retWV X hP hS dX0_setStrength_20
theorem o0_addStrength : oV yX0_addStrength RX0 cX0_addStrength 3 none 2 := ⟨tw382, tw380, tw381, tw42, ⟨by decide +kernel, by decide +kernel⟩, by decide +kernel⟩
abbrev rm0_addStrength : Room := { frames := 1, cells := 0, slots := 0, locals := 22 }
set_option maxHeartbeats 4000000 in
set_option maxRecDepth 100000 in
theorem c0_addStrength {l : Launch} {G : va_G} {cI cZ : ClassId} {h hs : Nat} {st : Nat → Int32} {ch : Int32} {ya : Int32} {ow : Int32} {ca : Int32} {hu : Int32} {le : Int32} {v1 : Int32} {v2 : Int32} {sz : Nat} {u : (Nat → Int32)} (hE : f0_addStrength v1 v2 st = some u) : Met l yX0_addStrength (Cond.code yX0_addStrength cX0_addStrength 3 none :: TB) rm0_addStrength (PcW G cI cZ (wD cI cZ h hs st ch ya ow ca hu le) sz ([.ref h, .int v1, .int v2] : List Value)) (QW G none (wD cI cZ h hs u ch ya ow ca hu le) (va_A (wD cI cZ h hs st ch ya ow ca hu le) sz)) 0 0 (va_A (wD cI cZ h hs st ch ya ow ca hu le) sz) := by
  refine metW (own := RX0) (by decide +kernel) rfl (Nat.le_of_ble_eq_true rfl) ?_
  intro p e s m below meth c ls A X hA hP hK hD hl
  have hS : va_S A s.heap s.heap [] := va_S.rf
  have hl : lv_has ls 3 [(0, .ref h), (1, .int v1), (2, .int v2)] := hl
  unfold f0_addStrength at hE
  refine lv_aload_n X.1.1 X.1.2.1 dX0_addStrength_0 rfl (lv_at hl 0 rfl) ?_
  refine lv_iload_n X.1.1 X.1.2.1 dX0_addStrength_1 rfl (lv_at hl 1 rfl) ?_
  refine lv_iconst (v := (iI 0)) X.1.1 X.1.2.1 dX0_addStrength_2 rfl ?_
  refine lv_bipush (v := (iI 9)) X.1.1 X.1.2.1 dX0_addStrength_3 (by decide) ?_
  refine lv_aload_n X.1.1 X.1.2.1 dX0_addStrength_5 rfl (lv_at hl 0 rfl) ?_
  refine lv_iload_n X.1.1 X.1.2.1 dX0_addStrength_6 rfl (lv_at hl 1 rfl) ?_
  obtain ⟨u1001, e_u1001, hE⟩ := bd_some hE
  refine callRV (wsC := (wD cI cZ h hs st ch ya ow ca hu le)) (As := [.int v1]) (rest := [.int (iI 9), .int (iI 0), .int v1, .ref h]) (ci := 0) X (c0_strengthOf (l := l) e_u1001) o0_strengthOf tw383 ⟨rfl, rfl, Nat.le_of_ble_eq_true rfl, Nat.le_of_ble_eq_true rfl⟩ hP hK 0 rfl rfl rfl rfl hl rfl (Nat.le_of_ble_eq_true rfl) ⟨Nat.le_refl _, Nat.le_refl _⟩ dX0_addStrength_7 ?_
  refine lv_iload_n X.1.1 X.1.2.1 dX0_addStrength_10 rfl (lv_at hl 2 rfl) ?_
  refine lv_iadd X.1.1 X.1.2.1 dX0_addStrength_11 ?_
  refine mMin X tw384 hl (Nat.le_of_ble_eq_true rfl) (Nat.le_of_ble_eq_true rfl) ⟨Nat.le_refl _, Nat.le_refl _⟩ dX0_addStrength_12 ?_
  refine mMax X tw387 hl (Nat.le_of_ble_eq_true rfl) (Nat.le_of_ble_eq_true rfl) ⟨Nat.le_refl _, Nat.le_refl _⟩ dX0_addStrength_15 ?_
  obtain ⟨u1002, e_u1002, hE⟩ := bd_some hE
  refine callWF (ws := (wD cI cZ h hs st ch ya ow ca hu le)) (ws' := (wD cI cZ h hs u1002 ch ya ow ca hu le)) (As := [.int v1, .int (mxI (iI 0) (mnI (iI 9) (u1001 + v2)))]) (rest := []) (ov := none) (st1 := []) (ci := 0) X (c0_setStrength (l := l) e_u1002) o0_setStrength tw388 ⟨rfl, rfl, Nat.le_of_ble_eq_true rfl, Nat.le_of_ble_eq_true rfl⟩ hP hK hD hS hA (wD_fst.trans wD_fst.symm) 0 rfl rfl rfl rfl hl rfl (by decide) ⟨Nat.le_refl _, Nat.le_refl _⟩ rfl dX0_addStrength_18 (fun H locs hP hD hS => ?_)
  cases hE
  exact retWV X hP hS dX0_addStrength_21
theorem o0_runOff : oV yX0_runOff RX0 cX0_runOff 2 none 1 := ⟨tw392, tw390, tw391, tw42, ⟨by decide +kernel, by decide +kernel⟩, by decide +kernel⟩
abbrev rm0_runOff : Room := { frames := 1, cells := 0, slots := 0, locals := 21 }
set_option maxHeartbeats 4000000 in
set_option maxRecDepth 100000 in
theorem c0_runOff {l : Launch} {G : va_G} {cI cZ : ClassId} {h hs : Nat} {st : Nat → Int32} {ch : Int32} {ya : Int32} {ow : Int32} {ca : Int32} {hu : Int32} {le : Int32} {v1 : Int32} {sz : Nat} {u : Int32 × Int32} (hE : f0_runOff v1 ya = some u) : Met l yX0_runOff (Cond.code yX0_runOff cX0_runOff 2 none :: TB) rm0_runOff (PcW G cI cZ (wD cI cZ h hs st ch ya ow ca hu le) sz ([.ref h, .int v1] : List Value)) (QW G none (wD cI cZ h hs st ch u.1 u.2 ca hu le) (va_A (wD cI cZ h hs st ch ya ow ca hu le) sz)) 0 0 (va_A (wD cI cZ h hs st ch ya ow ca hu le) sz) := by
  refine metW (own := RX0) (by decide +kernel) rfl (Nat.le_of_ble_eq_true rfl) ?_
  intro p e s m below meth c ls A X hA hP hK hD hl
  have hS : va_S A s.heap s.heap [] := va_S.rf
  have hl : lv_has ls 2 [(0, .ref h), (1, .int v1)] := hl
  unfold f0_runOff at hE
  refine lv_aload_n X.1.1 X.1.2.1 dX0_runOff_0 rfl (lv_at hl 0 rfl) ?_
  refine lv_bipush (v := (iI 9)) X.1.1 X.1.2.1 dX0_runOff_1 (by decide) ?_
  refine lv_aload_n X.1.1 X.1.2.1 dX0_runOff_3 rfl (lv_at hl 0 rfl) ?_
  refine gf0_22 X hK hP 0 rfl rfl dX0_runOff_4 ?_
  refine lv_iload_n X.1.1 X.1.2.1 dX0_runOff_7 rfl (lv_at hl 1 rfl) ?_
  refine lv_iadd X.1.1 X.1.2.1 dX0_runOff_8 ?_
  refine mMin X tw384 hl (Nat.le_of_ble_eq_true rfl) (Nat.le_of_ble_eq_true rfl) ⟨Nat.le_refl _, Nat.le_refl _⟩ dX0_runOff_9 ?_
  refine pf0_22 (ws2 := (wD cI cZ h hs st ch (mnI (iI 9) (ya + v1)) ow ca hu le)) X hK hP hD hS 0 rfl (Nat.le_of_ble_eq_true rfl) rfl dX0_runOff_12 (fun H locs hP hD hS => ?_)
  refine lv_aload_n X.1.1 X.1.2.1 dX0_runOff_15 rfl (lv_at hl 0 rfl) ?_
  refine lv_bipush (v := (iI (-9))) X.1.1 X.1.2.1 dX0_runOff_16 (by decide) ?_
  refine pf0_15 (ws2 := (wD cI cZ h hs st ch (mnI (iI 9) (ya + v1)) (iI (-9)) ca hu le)) X hK hP hD hS 0 rfl (Nat.le_of_ble_eq_true rfl) rfl dX0_runOff_18 (fun H locs hP hD hS => ?_)
  cases hE
  exact retWV X hP hS dX0_runOff_21
theorem o0_canBePaid : oV yX0_canBePaid RX0 cX0_canBePaid 1 (some .boolean) 0 := ⟨tw400, tw398, tw399, tw42, ⟨by decide +kernel, by decide +kernel⟩, by decide +kernel⟩
abbrev rm0_canBePaid : Room := { frames := 0, cells := 0, slots := 0, locals := 0 }
set_option maxHeartbeats 4000000 in
set_option maxRecDepth 100000 in
theorem c0_canBePaid {l : Launch} {G : va_G} {cI cZ : ClassId} {h hs : Nat} {st : Nat → Int32} {ch : Int32} {ya : Int32} {ow : Int32} {ca : Int32} {hu : Int32} {le : Int32} {u : Int32} (hE : f0_canBePaid ch ow = some u) : Met l yX0_canBePaid (Cond.code yX0_canBePaid cX0_canBePaid 1 (some .boolean) :: TB) rm0_canBePaid (PcR G cI cZ (wD cI cZ h hs st ch ya ow ca hu le) ([.ref h] : List Value)) (QcRead u) 0 0 (fun _ => False) := by
  refine metR (own := RX0) (by decide +kernel) rfl (Nat.le_of_ble_eq_true rfl) ?_
  intro p e s m below meth c ls X hP hK hl
  have hl : lv_has ls 1 [(0, .ref h)] := hl
  unfold f0_canBePaid at hE
  refine lv_aload_n X.1.1 X.1.2.1 dX0_canBePaid_0 rfl (lv_at hl 0 rfl) ?_
  refine gf0_15 X hK hP 0 rfl rfl dX0_canBePaid_1 ?_
  refine lv_bipush (v := (iI (-9))) X.1.1 X.1.2.1 dX0_canBePaid_4 (by decide) ?_
  refine lv_icmp_eq (tgt := 20) X.1.1 X.1.2.1 dX0_canBePaid_6 (by decide) (fun c_6 => ?_) (fun c_6 => ?_)
  · have hE := ite_t hE c_6
    refine lv_iconst (v := (iI 0)) X.1.1 X.1.2.1 dX0_canBePaid_20 rfl ?_
    cases hE
    exact retRZ X okB_0 dX0_canBePaid_21
  · have hE := ite_f hE c_6
    refine lv_aload_n X.1.1 X.1.2.1 dX0_canBePaid_9 rfl (lv_at hl 0 rfl) ?_
    refine gf0_19 X hK hP 0 rfl rfl dX0_canBePaid_10 ?_
    refine lv_if_le (tgt := 20) X.1.1 X.1.2.1 dX0_canBePaid_13 (by decide) (fun c_13 => ?_) (fun c_13 => ?_)
    · have hE := ite_t hE c_13
      refine lv_iconst (v := (iI 0)) X.1.1 X.1.2.1 dX0_canBePaid_20 rfl ?_
      cases hE
      exact retRZ X okB_0 dX0_canBePaid_21
    · have hE := ite_f hE c_13
      refine lv_iconst (v := (iI 1)) X.1.1 X.1.2.1 dX0_canBePaid_16 rfl ?_
      refine lv_goto (tgt := 21) X.1.1 X.1.2.1 dX0_canBePaid_17 (by decide) ?_
      cases hE
      exact retRZ X okB_1 dX0_canBePaid_21
theorem o0_bePaid : oV yX0_bePaid RX0 cX0_bePaid 1 none 0 := ⟨tw404, tw402, tw403, tw42, ⟨by decide +kernel, by decide +kernel⟩, by decide +kernel⟩
abbrev rm0_bePaid : Room := { frames := 2, cells := 0, slots := 0, locals := 44 }
set_option maxHeartbeats 4000000 in
set_option maxRecDepth 100000 in
theorem c0_bePaid {l : Launch} {G : va_G} {cI cZ : ClassId} {h hs : Nat} {st : Nat → Int32} {ch : Int32} {ya : Int32} {ow : Int32} {ca : Int32} {hu : Int32} {le : Int32} {sz : Nat} {u : (Nat → Int32) × Int32 × Int32} (hE : f0_bePaid st ch ow = some u) : Met l yX0_bePaid (Cond.code yX0_bePaid cX0_bePaid 1 none :: TB) rm0_bePaid (PcW G cI cZ (wD cI cZ h hs st ch ya ow ca hu le) sz ([.ref h] : List Value)) (QW G none (wD cI cZ h hs u.1 u.2.1 ya u.2.2 ca hu le) (va_A (wD cI cZ h hs st ch ya ow ca hu le) sz)) 0 0 (va_A (wD cI cZ h hs st ch ya ow ca hu le) sz) := by
  refine metW (own := RX0) (by decide +kernel) rfl (Nat.le_of_ble_eq_true rfl) ?_
  intro p e s m below meth c ls A X hA hP hK hD hl
  have hS : va_S A s.heap s.heap [] := va_S.rf
  have hl : lv_has ls 1 [(0, .ref h)] := hl
  unfold f0_bePaid at hE
  refine lv_aload_n X.1.1 X.1.2.1 dX0_bePaid_0 rfl (lv_at hl 0 rfl) ?_
  refine lv_dup X.1.1 X.1.2.1 dX0_bePaid_1 rfl ?_
  refine gf0_19 X hK hP 0 rfl rfl dX0_bePaid_2 ?_
  refine lv_iconst (v := (iI 1)) X.1.1 X.1.2.1 dX0_bePaid_5 rfl ?_
  refine lv_isub X.1.1 X.1.2.1 dX0_bePaid_6 ?_
  refine pf0_19 (ws2 := (wD cI cZ h hs st (ch - (iI 1)) ya ow ca hu le)) X hK hP hD hS 0 rfl (Nat.le_of_ble_eq_true rfl) rfl dX0_bePaid_7 (fun H locs hP hD hS => ?_)
  refine lv_aload_n X.1.1 X.1.2.1 dX0_bePaid_10 rfl (lv_at hl 0 rfl) ?_
  refine lv_aload_n X.1.1 X.1.2.1 dX0_bePaid_11 rfl (lv_at hl 0 rfl) ?_
  refine gf0_15 X hK hP 0 rfl rfl dX0_bePaid_12 ?_
  refine lv_iconst (v := (iI 1)) X.1.1 X.1.2.1 dX0_bePaid_15 rfl ?_
  obtain ⟨u1001, e_u1001, hE⟩ := bd_some hE
  refine callWF (ws := (wD cI cZ h hs st (ch - (iI 1)) ya ow ca hu le)) (ws' := (wD cI cZ h hs u1001 (ch - (iI 1)) ya ow ca hu le)) (As := [.int ow, .int (iI 1)]) (rest := []) (ov := none) (st1 := []) (ci := 0) X (c0_addStrength (l := l) e_u1001) o0_addStrength tw405 ⟨rfl, rfl, Nat.le_of_ble_eq_true rfl, Nat.le_of_ble_eq_true rfl⟩ hP hK hD hS hA (wD_fst.trans wD_fst.symm) 0 rfl rfl rfl rfl hl rfl (by decide) ⟨Nat.le_refl _, Nat.le_refl _⟩ rfl dX0_bePaid_16 (fun H locs hP hD hS => ?_)
  refine lv_aload_n X.1.1 X.1.2.1 dX0_bePaid_19 rfl (lv_at hl 0 rfl) ?_
  refine lv_bipush (v := (iI (-9))) X.1.1 X.1.2.1 dX0_bePaid_20 (by decide) ?_
  refine pf0_15 (ws2 := (wD cI cZ h hs u1001 (ch - (iI 1)) ya (iI (-9)) ca hu le)) X hK hP hD hS 0 rfl (Nat.le_of_ble_eq_true rfl) rfl dX0_bePaid_22 (fun H locs hP hD hS => ?_)
  cases hE
  exact retWV X hP hS dX0_bePaid_25
theorem o0_canBeLed : oV yX0_canBeLed RX0 cX0_canBeLed 1 (some .boolean) 0 := ⟨tw418, tw416, tw417, tw42, ⟨by decide +kernel, by decide +kernel⟩, by decide +kernel⟩
abbrev rm0_canBeLed : Room := { frames := 0, cells := 0, slots := 0, locals := 0 }
set_option maxHeartbeats 4000000 in
set_option maxRecDepth 100000 in
theorem c0_canBeLed {l : Launch} {G : va_G} {cI cZ : ClassId} {h hs : Nat} {st : Nat → Int32} {ch : Int32} {ya : Int32} {ow : Int32} {ca : Int32} {hu : Int32} {le : Int32} {u : Int32} (hE : f0_canBeLed ya le = some u) : Met l yX0_canBeLed (Cond.code yX0_canBeLed cX0_canBeLed 1 (some .boolean) :: TB) rm0_canBeLed (PcR G cI cZ (wD cI cZ h hs st ch ya ow ca hu le) ([.ref h] : List Value)) (QcRead u) 0 0 (fun _ => False) := by
  refine metR (own := RX0) (by decide +kernel) rfl (Nat.le_of_ble_eq_true rfl) ?_
  intro p e s m below meth c ls X hP hK hl
  have hl : lv_has ls 1 [(0, .ref h)] := hl
  unfold f0_canBeLed at hE
  refine lv_aload_n X.1.1 X.1.2.1 dX0_canBeLed_0 rfl (lv_at hl 0 rfl) ?_
  refine gf0_32 X hK hP 0 rfl rfl dX0_canBeLed_1 ?_
  refine lv_if_ne (tgt := 14) X.1.1 X.1.2.1 dX0_canBeLed_4 (by decide) (fun c_4 => ?_) (fun c_4 => ?_)
  · have hE := ite_f hE c_4
    refine lv_iconst (v := (iI 1)) X.1.1 X.1.2.1 dX0_canBeLed_14 rfl ?_
    refine lv_goto (tgt := 19) X.1.1 X.1.2.1 dX0_canBeLed_15 (by decide) ?_
    cases hE
    exact retRZ X okB_1 dX0_canBeLed_19
  · have hE := ite_t hE c_4
    refine lv_aload_n X.1.1 X.1.2.1 dX0_canBeLed_7 rfl (lv_at hl 0 rfl) ?_
    refine gf0_22 X hK hP 0 rfl rfl dX0_canBeLed_8 ?_
    refine lv_if_ne (tgt := 18) X.1.1 X.1.2.1 dX0_canBeLed_11 (by decide) (fun c_11 => ?_) (fun c_11 => ?_)
    · have hE := ite_f hE c_11
      refine lv_iconst (v := (iI 0)) X.1.1 X.1.2.1 dX0_canBeLed_18 rfl ?_
      cases hE
      exact retRZ X okB_0 dX0_canBeLed_19
    · have hE := ite_t hE c_11
      refine lv_iconst (v := (iI 1)) X.1.1 X.1.2.1 dX0_canBeLed_14 rfl ?_
      refine lv_goto (tgt := 19) X.1.1 X.1.2.1 dX0_canBeLed_15 (by decide) ?_
      cases hE
      exact retRZ X okB_1 dX0_canBeLed_19
theorem o1_clear : oV yX1_clear RX1 cX1_clear 1 none 0 := ⟨tw252, tw250, tw251, tw41, ⟨by decide +kernel, by decide +kernel⟩, by decide +kernel⟩
abbrev rm1_clear : Room := { frames := 0, cells := 0, slots := 0, locals := 0 }
set_option maxHeartbeats 4000000 in
set_option maxRecDepth 100000 in
theorem c1_clear {l : Launch} {G : va_G} {cI cZ : ClassId} {h hk hp ht : Nat} {ki : Nat → Int32} {sp : Nat → Int32} {tu : Nat → Int32} {wo : Int32} {th : Int32} {sz : Nat} {u : Int32 × Int32} (hE : f1_clear = some u) : Met l yX1_clear (Cond.code yX1_clear cX1_clear 1 none :: TB) rm1_clear (PcW G cI cZ (wF cI cZ h hk hp ht ki sp tu wo th) sz ([.ref h] : List Value)) (QW G none (wF cI cZ h hk hp ht ki sp tu u.1 u.2) (va_A (wF cI cZ h hk hp ht ki sp tu wo th) sz)) 0 0 (va_A (wF cI cZ h hk hp ht ki sp tu wo th) sz) := by
  refine metW (own := RX1) (by decide +kernel) rfl (Nat.le_of_ble_eq_true rfl) ?_
  intro p e s m below meth c ls A X hA hP hK hD hl
  have hS : va_S A s.heap s.heap [] := va_S.rf
  have hl : lv_has ls 1 [(0, .ref h)] := hl
  unfold f1_clear at hE
  refine lv_aload_n X.1.1 X.1.2.1 dX1_clear_0 rfl (lv_at hl 0 rfl) ?_
  refine lv_iconst (v := (iI 0)) X.1.1 X.1.2.1 dX1_clear_1 rfl ?_
  refine pf1_21 (ws2 := (wF cI cZ h hk hp ht ki sp tu (iI 0) th)) X hK hP hD hS 0 rfl (Nat.le_of_ble_eq_true rfl) rfl dX1_clear_2 (fun H locs hP hD hS => ?_)
  refine lv_aload_n X.1.1 X.1.2.1 dX1_clear_5 rfl (lv_at hl 0 rfl) ?_
  refine lv_iconst (v := (iI 0)) X.1.1 X.1.2.1 dX1_clear_6 rfl ?_
  refine pf1_25 (ws2 := (wF cI cZ h hk hp ht ki sp tu (iI 0) (iI 0))) X hK hP hD hS 0 rfl (Nat.le_of_ble_eq_true rfl) rfl dX1_clear_7 (fun H locs hP hD hS => ?_)
  cases hE
  exact retWV X hP hS dX1_clear_10
theorem o1_addWord : oV yX1_addWord RX1 cX1_addWord 2 none 1 := ⟨tw265, tw263, tw264, tw41, ⟨by decide +kernel, by decide +kernel⟩, by decide +kernel⟩
abbrev rm1_addWord : Room := { frames := 0, cells := 0, slots := 0, locals := 0 }
set_option maxHeartbeats 4000000 in
set_option maxRecDepth 100000 in
theorem c1_addWord {l : Launch} {G : va_G} {cI cZ : ClassId} {h hk hp ht : Nat} {ki : Nat → Int32} {sp : Nat → Int32} {tu : Nat → Int32} {wo : Int32} {th : Int32} {v1 : Int32} {sz : Nat} {u : (Nat → Int32) × Int32} (hE : f1_addWord v1 ki wo = some u) : Met l yX1_addWord (Cond.code yX1_addWord cX1_addWord 2 none :: TB) rm1_addWord (PcW G cI cZ (wF cI cZ h hk hp ht ki sp tu wo th) sz ([.ref h, .int v1] : List Value)) (QW G none (wF cI cZ h hk hp ht u.1 sp tu u.2 th) (va_A (wF cI cZ h hk hp ht ki sp tu wo th) sz)) 0 0 (va_A (wF cI cZ h hk hp ht ki sp tu wo th) sz) := by
  refine metW (own := RX1) (by decide +kernel) rfl (Nat.le_of_ble_eq_true rfl) ?_
  intro p e s m below meth c ls A X hA hP hK hD hl
  have hS : va_S A s.heap s.heap [] := va_S.rf
  have hl : lv_has ls 2 [(0, .ref h), (1, .int v1)] := hl
  unfold f1_addWord at hE
  refine lv_aload_n X.1.1 X.1.2.1 dX1_addWord_0 rfl (lv_at hl 0 rfl) ?_
  refine gf1_21 X hK hP 0 rfl rfl dX1_addWord_1 ?_
  refine lv_if_lt (tgt := 19) X.1.1 X.1.2.1 dX1_addWord_4 (by decide) (fun c_4 => ?_) (fun c_4 => ?_)
  · have hE := ite_t hE c_4
    cases hE
    exact retWV X hP hS dX1_addWord_19
  · have hE := ite_f hE c_4
    refine lv_aload_n X.1.1 X.1.2.1 dX1_addWord_7 rfl (lv_at hl 0 rfl) ?_
    refine gf1_21 X hK hP 0 rfl rfl dX1_addWord_8 ?_
    refine lv_aload_n X.1.1 X.1.2.1 dX1_addWord_11 rfl (lv_at hl 0 rfl) ?_
    refine gf1_9 X hK hP 0 rfl rfl dX1_addWord_12 ?_
    refine va_alen (v := (Int32.ofNat 4)) X.1.1 X.1.2.1 hK hP 1 0 rfl rfl rfl dX1_addWord_15 ?_
    refine lv_icmp_lt (tgt := 20) X.1.1 X.1.2.1 dX1_addWord_16 (by decide) (fun c_16 => ?_) (fun c_16 => ?_)
    · have hE := ite_t hE c_16
      refine lv_aload_n X.1.1 X.1.2.1 dX1_addWord_20 rfl (lv_at hl 0 rfl) ?_
      refine gf1_9 X hK hP 0 rfl rfl dX1_addWord_21 ?_
      refine lv_aload_n X.1.1 X.1.2.1 dX1_addWord_24 rfl (lv_at hl 0 rfl) ?_
      refine gf1_21 X hK hP 0 rfl rfl dX1_addWord_25 ?_
      refine lv_iload_n X.1.1 X.1.2.1 dX1_addWord_28 rfl (lv_at hl 1 rfl) ?_
      obtain ⟨i_29, hE⟩ := ib_some hE
      refine astI (t0 := 0) (ws' := (wF cI cZ h hk hp ht (upd ki wo.toNatClampNeg v1) sp tu wo th)) X hK hP hD hS 1 0 rfl rfl i_29 rfl dX1_addWord_29 (fun H locs hP hD hS => ?_)
      refine lv_aload_n X.1.1 X.1.2.1 dX1_addWord_30 rfl (lv_at hl 0 rfl) ?_
      refine lv_dup X.1.1 X.1.2.1 dX1_addWord_31 rfl ?_
      refine gf1_21 X hK hP 0 rfl rfl dX1_addWord_32 ?_
      refine lv_iconst (v := (iI 1)) X.1.1 X.1.2.1 dX1_addWord_35 rfl ?_
      refine lv_iadd X.1.1 X.1.2.1 dX1_addWord_36 ?_
      refine pf1_21 (ws2 := (wF cI cZ h hk hp ht (upd ki wo.toNatClampNeg v1) sp tu (wo + (iI 1)) th)) X hK hP hD hS 0 rfl (Nat.le_of_ble_eq_true rfl) rfl dX1_addWord_37 (fun H locs hP hD hS => ?_)
      cases hE
      exact retWV X hP hS dX1_addWord_40
    · have hE := ite_f hE c_16
      cases hE
      exact retWV X hP hS dX1_addWord_19
theorem o1_addThing : oV yX1_addThing RX1 cX1_addThing 3 none 2 := ⟨tw269, tw267, tw268, tw41, ⟨by decide +kernel, by decide +kernel⟩, by decide +kernel⟩
abbrev rm1_addThing : Room := { frames := 0, cells := 0, slots := 0, locals := 0 }
set_option maxHeartbeats 4000000 in
set_option maxRecDepth 100000 in
theorem c1_addThing {l : Launch} {G : va_G} {cI cZ : ClassId} {h hk hp ht : Nat} {ki : Nat → Int32} {sp : Nat → Int32} {tu : Nat → Int32} {wo : Int32} {th : Int32} {v1 : Int32} {v2 : Int32} {sz : Nat} {u : (Nat → Int32) × (Nat → Int32) × Int32} (hE : f1_addThing v1 v2 sp tu th = some u) : Met l yX1_addThing (Cond.code yX1_addThing cX1_addThing 3 none :: TB) rm1_addThing (PcW G cI cZ (wF cI cZ h hk hp ht ki sp tu wo th) sz ([.ref h, .int v1, .int v2] : List Value)) (QW G none (wF cI cZ h hk hp ht ki u.1 u.2.1 wo u.2.2) (va_A (wF cI cZ h hk hp ht ki sp tu wo th) sz)) 0 0 (va_A (wF cI cZ h hk hp ht ki sp tu wo th) sz) := by
  refine metW (own := RX1) (by decide +kernel) rfl (Nat.le_of_ble_eq_true rfl) ?_
  intro p e s m below meth c ls A X hA hP hK hD hl
  have hS : va_S A s.heap s.heap [] := va_S.rf
  have hl : lv_has ls 3 [(0, .ref h), (1, .int v1), (2, .int v2)] := hl
  unfold f1_addThing at hE
  refine lv_aload_n X.1.1 X.1.2.1 dX1_addThing_0 rfl (lv_at hl 0 rfl) ?_
  refine gf1_25 X hK hP 0 rfl rfl dX1_addThing_1 ?_
  refine lv_if_lt (tgt := 31) X.1.1 X.1.2.1 dX1_addThing_4 (by decide) (fun c_4 => ?_) (fun c_4 => ?_)
  · have hE := ite_t hE c_4
    cases hE
    exact retWV X hP hS dX1_addThing_31
  · have hE := ite_f hE c_4
    refine lv_aload_n X.1.1 X.1.2.1 dX1_addThing_7 rfl (lv_at hl 0 rfl) ?_
    refine gf1_25 X hK hP 0 rfl rfl dX1_addThing_8 ?_
    refine lv_aload_n X.1.1 X.1.2.1 dX1_addThing_11 rfl (lv_at hl 0 rfl) ?_
    refine gf1_15 X hK hP 0 rfl rfl dX1_addThing_12 ?_
    refine va_alen (v := (Int32.ofNat 4)) X.1.1 X.1.2.1 hK hP 2 0 rfl rfl rfl dX1_addThing_15 ?_
    refine lv_icmp_ge (tgt := 31) X.1.1 X.1.2.1 dX1_addThing_16 (by decide) (fun c_16 => ?_) (fun c_16 => ?_)
    · have hE := ite_t hE c_16
      cases hE
      exact retWV X hP hS dX1_addThing_31
    · have hE := ite_f hE c_16
      refine lv_aload_n X.1.1 X.1.2.1 dX1_addThing_19 rfl (lv_at hl 0 rfl) ?_
      refine gf1_25 X hK hP 0 rfl rfl dX1_addThing_20 ?_
      refine lv_aload_n X.1.1 X.1.2.1 dX1_addThing_23 rfl (lv_at hl 0 rfl) ?_
      refine gf1_18 X hK hP 0 rfl rfl dX1_addThing_24 ?_
      refine va_alen (v := (Int32.ofNat 4)) X.1.1 X.1.2.1 hK hP 3 0 rfl rfl rfl dX1_addThing_27 ?_
      refine lv_icmp_lt (tgt := 32) X.1.1 X.1.2.1 dX1_addThing_28 (by decide) (fun c_28 => ?_) (fun c_28 => ?_)
      · have hE := ite_t hE c_28
        refine lv_aload_n X.1.1 X.1.2.1 dX1_addThing_32 rfl (lv_at hl 0 rfl) ?_
        refine gf1_15 X hK hP 0 rfl rfl dX1_addThing_33 ?_
        refine lv_aload_n X.1.1 X.1.2.1 dX1_addThing_36 rfl (lv_at hl 0 rfl) ?_
        refine gf1_25 X hK hP 0 rfl rfl dX1_addThing_37 ?_
        refine lv_iload_n X.1.1 X.1.2.1 dX1_addThing_40 rfl (lv_at hl 1 rfl) ?_
        obtain ⟨i_41, hE⟩ := ib_some hE
        refine astI (t0 := 0) (ws' := (wF cI cZ h hk hp ht ki (upd sp th.toNatClampNeg v1) tu wo th)) X hK hP hD hS 2 0 rfl rfl i_41 rfl dX1_addThing_41 (fun H locs hP hD hS => ?_)
        refine lv_aload_n X.1.1 X.1.2.1 dX1_addThing_42 rfl (lv_at hl 0 rfl) ?_
        refine gf1_18 X hK hP 0 rfl rfl dX1_addThing_43 ?_
        refine lv_aload_n X.1.1 X.1.2.1 dX1_addThing_46 rfl (lv_at hl 0 rfl) ?_
        refine gf1_25 X hK hP 0 rfl rfl dX1_addThing_47 ?_
        refine lv_iload_n X.1.1 X.1.2.1 dX1_addThing_50 rfl (lv_at hl 2 rfl) ?_
        obtain ⟨i_51, hE⟩ := ib_some hE
        refine astI (t0 := 0) (ws' := (wF cI cZ h hk hp ht ki (upd sp th.toNatClampNeg v1) (upd tu th.toNatClampNeg v2) wo th)) X hK hP hD hS 3 0 rfl rfl i_51 rfl dX1_addThing_51 (fun H locs hP hD hS => ?_)
        refine lv_aload_n X.1.1 X.1.2.1 dX1_addThing_52 rfl (lv_at hl 0 rfl) ?_
        refine lv_dup X.1.1 X.1.2.1 dX1_addThing_53 rfl ?_
        refine gf1_25 X hK hP 0 rfl rfl dX1_addThing_54 ?_
        refine lv_iconst (v := (iI 1)) X.1.1 X.1.2.1 dX1_addThing_57 rfl ?_
        refine lv_iadd X.1.1 X.1.2.1 dX1_addThing_58 ?_
        refine pf1_25 (ws2 := (wF cI cZ h hk hp ht ki (upd sp th.toNatClampNeg v1) (upd tu th.toNatClampNeg v2) wo (th + (iI 1)))) X hK hP hD hS 0 rfl (Nat.le_of_ble_eq_true rfl) rfl dX1_addThing_59 (fun H locs hP hD hS => ?_)
        cases hE
        exact retWV X hP hS dX1_addThing_62
      · have hE := ite_f hE c_28
        cases hE
        exact retWV X hP hS dX1_addThing_31
theorem o1_hasWord : oV yX1_hasWord RX1 cX1_hasWord 2 (some .boolean) 1 := ⟨tw277, tw275, tw276, tw41, ⟨by decide +kernel, by decide +kernel⟩, by decide +kernel⟩
abbrev rm1_hasWord : Room := { frames := 0, cells := 0, slots := 0, locals := 0 }
set_option maxHeartbeats 4000000 in
set_option maxRecDepth 100000 in
theorem c1_hasWord {l : Launch} {G : va_G} {cI cZ : ClassId} {h hk hp ht : Nat} {ki : Nat → Int32} {sp : Nat → Int32} {tu : Nat → Int32} {wo : Int32} {th : Int32} {v1 : Int32} {u : Int32} (hE : f1_hasWord v1 wo = some u) : Met l yX1_hasWord (Cond.code yX1_hasWord cX1_hasWord 2 (some .boolean) :: TB) rm1_hasWord (PcR G cI cZ (wF cI cZ h hk hp ht ki sp tu wo th) ([.ref h, .int v1] : List Value)) (QcRead u) 0 0 (fun _ => False) := by
  refine metR (own := RX1) (by decide +kernel) rfl (Nat.le_of_ble_eq_true rfl) ?_
  intro p e s m below meth c ls X hP hK hl
  have hl : lv_has ls 2 [(0, .ref h), (1, .int v1)] := hl
  unfold f1_hasWord at hE
  refine lv_iload_n X.1.1 X.1.2.1 dX1_hasWord_0 rfl (lv_at hl 1 rfl) ?_
  refine lv_if_lt (tgt := 16) X.1.1 X.1.2.1 dX1_hasWord_1 (by decide) (fun c_1 => ?_) (fun c_1 => ?_)
  · have hE := ite_t hE c_1
    refine lv_iconst (v := (iI 0)) X.1.1 X.1.2.1 dX1_hasWord_16 rfl ?_
    cases hE
    exact retRZ X okB_0 dX1_hasWord_17
  · have hE := ite_f hE c_1
    refine lv_iload_n X.1.1 X.1.2.1 dX1_hasWord_4 rfl (lv_at hl 1 rfl) ?_
    refine lv_aload_n X.1.1 X.1.2.1 dX1_hasWord_5 rfl (lv_at hl 0 rfl) ?_
    refine gf1_21 X hK hP 0 rfl rfl dX1_hasWord_6 ?_
    refine lv_icmp_ge (tgt := 16) X.1.1 X.1.2.1 dX1_hasWord_9 (by decide) (fun c_9 => ?_) (fun c_9 => ?_)
    · have hE := ite_t hE c_9
      refine lv_iconst (v := (iI 0)) X.1.1 X.1.2.1 dX1_hasWord_16 rfl ?_
      cases hE
      exact retRZ X okB_0 dX1_hasWord_17
    · have hE := ite_f hE c_9
      refine lv_iconst (v := (iI 1)) X.1.1 X.1.2.1 dX1_hasWord_12 rfl ?_
      refine lv_goto (tgt := 17) X.1.1 X.1.2.1 dX1_hasWord_13 (by decide) ?_
      cases hE
      exact retRZ X okB_1 dX1_hasWord_17
theorem o1_hasThing : oV yX1_hasThing RX1 cX1_hasThing 2 (some .boolean) 1 := ⟨tw341, tw339, tw340, tw41, ⟨by decide +kernel, by decide +kernel⟩, by decide +kernel⟩
abbrev rm1_hasThing : Room := { frames := 0, cells := 0, slots := 0, locals := 0 }
set_option maxHeartbeats 4000000 in
set_option maxRecDepth 100000 in
theorem c1_hasThing {l : Launch} {G : va_G} {cI cZ : ClassId} {h hk hp ht : Nat} {ki : Nat → Int32} {sp : Nat → Int32} {tu : Nat → Int32} {wo : Int32} {th : Int32} {v1 : Int32} {u : Int32} (hE : f1_hasThing v1 th = some u) : Met l yX1_hasThing (Cond.code yX1_hasThing cX1_hasThing 2 (some .boolean) :: TB) rm1_hasThing (PcR G cI cZ (wF cI cZ h hk hp ht ki sp tu wo th) ([.ref h, .int v1] : List Value)) (QcRead u) 0 0 (fun _ => False) := by
  refine metR (own := RX1) (by decide +kernel) rfl (Nat.le_of_ble_eq_true rfl) ?_
  intro p e s m below meth c ls X hP hK hl
  have hl : lv_has ls 2 [(0, .ref h), (1, .int v1)] := hl
  unfold f1_hasThing at hE
  refine lv_iload_n X.1.1 X.1.2.1 dX1_hasThing_0 rfl (lv_at hl 1 rfl) ?_
  refine lv_if_lt (tgt := 16) X.1.1 X.1.2.1 dX1_hasThing_1 (by decide) (fun c_1 => ?_) (fun c_1 => ?_)
  · have hE := ite_t hE c_1
    refine lv_iconst (v := (iI 0)) X.1.1 X.1.2.1 dX1_hasThing_16 rfl ?_
    cases hE
    exact retRZ X okB_0 dX1_hasThing_17
  · have hE := ite_f hE c_1
    refine lv_iload_n X.1.1 X.1.2.1 dX1_hasThing_4 rfl (lv_at hl 1 rfl) ?_
    refine lv_aload_n X.1.1 X.1.2.1 dX1_hasThing_5 rfl (lv_at hl 0 rfl) ?_
    refine gf1_25 X hK hP 0 rfl rfl dX1_hasThing_6 ?_
    refine lv_icmp_ge (tgt := 16) X.1.1 X.1.2.1 dX1_hasThing_9 (by decide) (fun c_9 => ?_) (fun c_9 => ?_)
    · have hE := ite_t hE c_9
      refine lv_iconst (v := (iI 0)) X.1.1 X.1.2.1 dX1_hasThing_16 rfl ?_
      cases hE
      exact retRZ X okB_0 dX1_hasThing_17
    · have hE := ite_f hE c_9
      refine lv_iconst (v := (iI 1)) X.1.1 X.1.2.1 dX1_hasThing_12 rfl ?_
      refine lv_goto (tgt := 17) X.1.1 X.1.2.1 dX1_hasThing_13 (by decide) ?_
      cases hE
      exact retRZ X okB_1 dX1_hasThing_17
theorem o1_kindOf : oV yX1_kindOf RX1 cX1_kindOf 2 (some .int) 1 := ⟨tw285, tw283, tw284, tw41, ⟨by decide +kernel, by decide +kernel⟩, by decide +kernel⟩
abbrev rm1_kindOf : Room := { frames := 0, cells := 0, slots := 0, locals := 0 }
set_option maxHeartbeats 4000000 in
set_option maxRecDepth 100000 in
theorem c1_kindOf {l : Launch} {G : va_G} {cI cZ : ClassId} {h hk hp ht : Nat} {ki : Nat → Int32} {sp : Nat → Int32} {tu : Nat → Int32} {wo : Int32} {th : Int32} {v1 : Int32} {u : Int32} (hE : f1_kindOf v1 ki = some u) : Met l yX1_kindOf (Cond.code yX1_kindOf cX1_kindOf 2 (some .int) :: TB) rm1_kindOf (PcR G cI cZ (wF cI cZ h hk hp ht ki sp tu wo th) ([.ref h, .int v1] : List Value)) (QcRead u) 0 0 (fun _ => False) := by
  refine metR (own := RX1) (by decide +kernel) rfl (Nat.le_of_ble_eq_true rfl) ?_
  intro p e s m below meth c ls X hP hK hl
  have hl : lv_has ls 2 [(0, .ref h), (1, .int v1)] := hl
  unfold f1_kindOf at hE
  refine lv_iload_n X.1.1 X.1.2.1 dX1_kindOf_0 rfl (lv_at hl 1 rfl) ?_
  refine lv_if_lt (tgt := 22) X.1.1 X.1.2.1 dX1_kindOf_1 (by decide) (fun c_1 => ?_) (fun c_1 => ?_)
  · have hE := ite_t hE c_1
    refine lv_iconst (v := (iI 0)) X.1.1 X.1.2.1 dX1_kindOf_22 rfl ?_
    cases hE
    exact retR X dX1_kindOf_23
  · have hE := ite_f hE c_1
    refine lv_iload_n X.1.1 X.1.2.1 dX1_kindOf_4 rfl (lv_at hl 1 rfl) ?_
    refine lv_aload_n X.1.1 X.1.2.1 dX1_kindOf_5 rfl (lv_at hl 0 rfl) ?_
    refine gf1_9 X hK hP 0 rfl rfl dX1_kindOf_6 ?_
    refine va_alen (v := (Int32.ofNat 4)) X.1.1 X.1.2.1 hK hP 1 0 rfl rfl rfl dX1_kindOf_9 ?_
    refine lv_icmp_ge (tgt := 22) X.1.1 X.1.2.1 dX1_kindOf_10 (by decide) (fun c_10 => ?_) (fun c_10 => ?_)
    · have hE := ite_t hE c_10
      refine lv_iconst (v := (iI 0)) X.1.1 X.1.2.1 dX1_kindOf_22 rfl ?_
      cases hE
      exact retR X dX1_kindOf_23
    · have hE := ite_f hE c_10
      refine lv_aload_n X.1.1 X.1.2.1 dX1_kindOf_13 rfl (lv_at hl 0 rfl) ?_
      refine gf1_9 X hK hP 0 rfl rfl dX1_kindOf_14 ?_
      refine lv_iload_n X.1.1 X.1.2.1 dX1_kindOf_17 rfl (lv_at hl 1 rfl) ?_
      obtain ⟨i_18, hE⟩ := ib_some hE
      refine va_iald X.1.1 X.1.2.1 hK hP 1 0 rfl rfl i_18 dX1_kindOf_18 ?_
      refine lv_goto (tgt := 23) X.1.1 X.1.2.1 dX1_kindOf_19 (by decide) ?_
      cases hE
      exact retR X dX1_kindOf_23
theorem o1_spotOf : oV yX1_spotOf RX1 cX1_spotOf 2 (some .int) 1 := ⟨tw316, tw314, tw315, tw41, ⟨by decide +kernel, by decide +kernel⟩, by decide +kernel⟩
abbrev rm1_spotOf : Room := { frames := 0, cells := 0, slots := 0, locals := 0 }
set_option maxHeartbeats 4000000 in
set_option maxRecDepth 100000 in
theorem c1_spotOf {l : Launch} {G : va_G} {cI cZ : ClassId} {h hk hp ht : Nat} {ki : Nat → Int32} {sp : Nat → Int32} {tu : Nat → Int32} {wo : Int32} {th : Int32} {v1 : Int32} {u : Int32} (hE : f1_spotOf v1 sp = some u) : Met l yX1_spotOf (Cond.code yX1_spotOf cX1_spotOf 2 (some .int) :: TB) rm1_spotOf (PcR G cI cZ (wF cI cZ h hk hp ht ki sp tu wo th) ([.ref h, .int v1] : List Value)) (QcRead u) 0 0 (fun _ => False) := by
  refine metR (own := RX1) (by decide +kernel) rfl (Nat.le_of_ble_eq_true rfl) ?_
  intro p e s m below meth c ls X hP hK hl
  have hl : lv_has ls 2 [(0, .ref h), (1, .int v1)] := hl
  unfold f1_spotOf at hE
  refine lv_iload_n X.1.1 X.1.2.1 dX1_spotOf_0 rfl (lv_at hl 1 rfl) ?_
  refine lv_if_lt (tgt := 22) X.1.1 X.1.2.1 dX1_spotOf_1 (by decide) (fun c_1 => ?_) (fun c_1 => ?_)
  · have hE := ite_t hE c_1
    refine lv_iconst (v := (iI 0)) X.1.1 X.1.2.1 dX1_spotOf_22 rfl ?_
    cases hE
    exact retR X dX1_spotOf_23
  · have hE := ite_f hE c_1
    refine lv_iload_n X.1.1 X.1.2.1 dX1_spotOf_4 rfl (lv_at hl 1 rfl) ?_
    refine lv_aload_n X.1.1 X.1.2.1 dX1_spotOf_5 rfl (lv_at hl 0 rfl) ?_
    refine gf1_15 X hK hP 0 rfl rfl dX1_spotOf_6 ?_
    refine va_alen (v := (Int32.ofNat 4)) X.1.1 X.1.2.1 hK hP 2 0 rfl rfl rfl dX1_spotOf_9 ?_
    refine lv_icmp_ge (tgt := 22) X.1.1 X.1.2.1 dX1_spotOf_10 (by decide) (fun c_10 => ?_) (fun c_10 => ?_)
    · have hE := ite_t hE c_10
      refine lv_iconst (v := (iI 0)) X.1.1 X.1.2.1 dX1_spotOf_22 rfl ?_
      cases hE
      exact retR X dX1_spotOf_23
    · have hE := ite_f hE c_10
      refine lv_aload_n X.1.1 X.1.2.1 dX1_spotOf_13 rfl (lv_at hl 0 rfl) ?_
      refine gf1_15 X hK hP 0 rfl rfl dX1_spotOf_14 ?_
      refine lv_iload_n X.1.1 X.1.2.1 dX1_spotOf_17 rfl (lv_at hl 1 rfl) ?_
      obtain ⟨i_18, hE⟩ := ib_some hE
      refine va_iald X.1.1 X.1.2.1 hK hP 2 0 rfl rfl i_18 dX1_spotOf_18 ?_
      refine lv_goto (tgt := 23) X.1.1 X.1.2.1 dX1_spotOf_19 (by decide) ?_
      cases hE
      exact retR X dX1_spotOf_23
theorem o1_tugOf : oV yX1_tugOf RX1 cX1_tugOf 2 (some .int) 1 := ⟨tw312, tw310, tw311, tw41, ⟨by decide +kernel, by decide +kernel⟩, by decide +kernel⟩
abbrev rm1_tugOf : Room := { frames := 0, cells := 0, slots := 0, locals := 0 }
set_option maxHeartbeats 4000000 in
set_option maxRecDepth 100000 in
theorem c1_tugOf {l : Launch} {G : va_G} {cI cZ : ClassId} {h hk hp ht : Nat} {ki : Nat → Int32} {sp : Nat → Int32} {tu : Nat → Int32} {wo : Int32} {th : Int32} {v1 : Int32} {u : Int32} (hE : f1_tugOf v1 tu = some u) : Met l yX1_tugOf (Cond.code yX1_tugOf cX1_tugOf 2 (some .int) :: TB) rm1_tugOf (PcR G cI cZ (wF cI cZ h hk hp ht ki sp tu wo th) ([.ref h, .int v1] : List Value)) (QcRead u) 0 0 (fun _ => False) := by
  refine metR (own := RX1) (by decide +kernel) rfl (Nat.le_of_ble_eq_true rfl) ?_
  intro p e s m below meth c ls X hP hK hl
  have hl : lv_has ls 2 [(0, .ref h), (1, .int v1)] := hl
  unfold f1_tugOf at hE
  refine lv_iload_n X.1.1 X.1.2.1 dX1_tugOf_0 rfl (lv_at hl 1 rfl) ?_
  refine lv_if_lt (tgt := 22) X.1.1 X.1.2.1 dX1_tugOf_1 (by decide) (fun c_1 => ?_) (fun c_1 => ?_)
  · have hE := ite_t hE c_1
    refine lv_iconst (v := (iI 0)) X.1.1 X.1.2.1 dX1_tugOf_22 rfl ?_
    cases hE
    exact retR X dX1_tugOf_23
  · have hE := ite_f hE c_1
    refine lv_iload_n X.1.1 X.1.2.1 dX1_tugOf_4 rfl (lv_at hl 1 rfl) ?_
    refine lv_aload_n X.1.1 X.1.2.1 dX1_tugOf_5 rfl (lv_at hl 0 rfl) ?_
    refine gf1_18 X hK hP 0 rfl rfl dX1_tugOf_6 ?_
    refine va_alen (v := (Int32.ofNat 4)) X.1.1 X.1.2.1 hK hP 3 0 rfl rfl rfl dX1_tugOf_9 ?_
    refine lv_icmp_ge (tgt := 22) X.1.1 X.1.2.1 dX1_tugOf_10 (by decide) (fun c_10 => ?_) (fun c_10 => ?_)
    · have hE := ite_t hE c_10
      refine lv_iconst (v := (iI 0)) X.1.1 X.1.2.1 dX1_tugOf_22 rfl ?_
      cases hE
      exact retR X dX1_tugOf_23
    · have hE := ite_f hE c_10
      refine lv_aload_n X.1.1 X.1.2.1 dX1_tugOf_13 rfl (lv_at hl 0 rfl) ?_
      refine gf1_18 X hK hP 0 rfl rfl dX1_tugOf_14 ?_
      refine lv_iload_n X.1.1 X.1.2.1 dX1_tugOf_17 rfl (lv_at hl 1 rfl) ?_
      obtain ⟨i_18, hE⟩ := ib_some hE
      refine va_iald X.1.1 X.1.2.1 hK hP 3 0 rfl rfl i_18 dX1_tugOf_18 ?_
      refine lv_goto (tgt := 23) X.1.1 X.1.2.1 dX1_tugOf_19 (by decide) ?_
      cases hE
      exact retR X dX1_tugOf_23
theorem o1_pullAt : oV yX1_pullAt RX1 cX1_pullAt 5 (some .int) 2 := ⟨tw308, tw306, tw307, tw41, ⟨by decide +kernel, by decide +kernel⟩, by decide +kernel⟩
abbrev rm1_pullAt : Room := { frames := 1, cells := 0, slots := 0, locals := 21 }
set_option maxHeartbeats 4000000 in
set_option maxRecDepth 100000 in
theorem c1_pullAt {l : Launch} {G : va_G} {cI cZ : ClassId} {h hk hp ht : Nat} {ki : Nat → Int32} {sp : Nat → Int32} {tu : Nat → Int32} {wo : Int32} {th : Int32} {v1 : Int32} {v2 : Int32} {u : Int32} (hE : f1_pullAt v1 v2 sp tu th = some u) : Met l yX1_pullAt (Cond.code yX1_pullAt cX1_pullAt 5 (some .int) :: TB) rm1_pullAt (PcR G cI cZ (wF cI cZ h hk hp ht ki sp tu wo th) ([.ref h, .int v1, .int v2] : List Value)) (QcRead u) 0 0 (fun _ => False) := by
  refine metR (own := RX1) (by decide +kernel) rfl (Nat.le_of_ble_eq_true rfl) ?_
  intro p e s m below meth c ls X hP hK hl
  have hl : lv_has ls 5 [(0, .ref h), (1, .int v1), (2, .int v2)] := hl
  unfold f1_pullAt at hE
  refine lv_iconst (v := (iI 0)) X.1.1 X.1.2.1 dX1_pullAt_0 rfl ?_
  refine lv_istore_n (lv' := [(3, .int (iI 0)), (0, .ref h), (1, .int v1), (2, .int v2)]) X.1.1 X.1.2.1 dX1_pullAt_1 rfl hl (by decide) rfl (fun ls hl => ?_)
  refine lv_iconst (v := (iI 0)) X.1.1 X.1.2.1 dX1_pullAt_2 rfl ?_
  refine lv_istore (lv' := [(4, .int (iI 0)), (3, .int (iI 0)), (0, .ref h), (1, .int v1), (2, .int v2)]) X.1.1 X.1.2.1 dX1_pullAt_3 hl (by decide) rfl (fun ls hl => ?_)
  have lp5 : ∀ (k : Int32 → Int32 → Option Int32), (∀ (v3_1001 : Int32) (v4_1001 : Int32) (ls : Array Slot), lv_has ls 5 [(0, .ref h), (1, .int v1), (2, .int v2), (3, .int v3_1001), (4, .int v4_1001)] → k v3_1001 v4_1001 = some u → W p l e rm1_pullAt s m ([.ref h, .int v1, .int v2] : List Value).toArray below meth c s.heap [] 0 0 (MQ below (QcRead u) ([.ref h, .int v1, .int v2] : List Value).toArray s 0 0 (fun _ => False)) (F0 m 55 ls [])) → ∀ (n : Nat) (v3_1001 : Int32) (v4_1001 : Int32) (ls : Array Slot), lv_has ls 5 [(0, .ref h), (1, .int v1), (2, .int v2), (3, .int v3_1001), (4, .int v4_1001)] → l1_pullAt_5 k v1 v2 sp tu th n v3_1001 v4_1001 = some u → W p l e rm1_pullAt s m ([.ref h, .int v1, .int v2] : List Value).toArray below meth c s.heap [] 0 0 (MQ below (QcRead u) ([.ref h, .int v1, .int v2] : List Value).toArray s 0 0 (fun _ => False)) (F0 m 5 ls []) := by
    intro k hex n
    induction n with
    | zero =>
      intro v3_1001 v4_1001 ls hl hE
      exact absurd (show (none : Option Int32) = some u from hE) (fun h => by cases h)
    | succ n ih =>
      intro v3_1001 v4_1001 ls hl hE
      rw [l1_pullAt_5] at hE
      refine lv_iload X.1.1 X.1.2.1 dX1_pullAt_5 (lv_at hl 4 rfl) ?_
      refine lv_aload_n X.1.1 X.1.2.1 dX1_pullAt_7 rfl (lv_at hl 0 rfl) ?_
      refine gf1_25 X hK hP 0 rfl rfl dX1_pullAt_8 ?_
      refine lv_icmp_ge (tgt := 55) X.1.1 X.1.2.1 dX1_pullAt_11 (by decide) (fun c_11 => ?_) (fun c_11 => ?_)
      · have hE := ite_t hE c_11
        exact hex v3_1001 v4_1001 ls (lv_sub hl [0, 1, 2, 3, 4] rfl) hE
      · have hE := ite_f hE c_11
        refine lv_iload_n X.1.1 X.1.2.1 dX1_pullAt_14 rfl (lv_at hl 2 rfl) ?_
        refine lv_iload X.1.1 X.1.2.1 dX1_pullAt_15 (lv_at hl 4 rfl) ?_
        refine lv_ishr X.1.1 X.1.2.1 dX1_pullAt_17 ?_
        refine lv_iconst (v := (iI 1)) X.1.1 X.1.2.1 dX1_pullAt_18 rfl ?_
        refine lv_iand X.1.1 X.1.2.1 dX1_pullAt_19 ?_
        refine lv_if_ne (tgt := 26) X.1.1 X.1.2.1 dX1_pullAt_20 (by decide) (fun c_20 => ?_) (fun c_20 => ?_)
        · have hE := ite_f hE c_20
          refine lv_iload_n X.1.1 X.1.2.1 dX1_pullAt_26 rfl (lv_at hl 3 rfl) ?_
          refine lv_aload_n X.1.1 X.1.2.1 dX1_pullAt_27 rfl (lv_at hl 0 rfl) ?_
          refine lv_iload X.1.1 X.1.2.1 dX1_pullAt_28 (lv_at hl 4 rfl) ?_
          obtain ⟨u1002, e_u1002, hE⟩ := bd_some hE
          refine callRV (wsC := (wF cI cZ h hk hp ht ki sp tu wo th)) (As := [.int v4_1001]) (rest := [.int v3_1001]) (ci := 1) X (c1_tugOf (l := l) e_u1002) o1_tugOf tw309 ⟨rfl, rfl, Nat.le_of_ble_eq_true rfl, Nat.le_of_ble_eq_true rfl⟩ hP hK 0 rfl rfl rfl rfl hl rfl (Nat.le_of_ble_eq_true rfl) ⟨Nat.le_refl _, Nat.le_refl _⟩ dX1_pullAt_30 ?_
          refine lv_aload_n X.1.1 X.1.2.1 dX1_pullAt_33 rfl (lv_at hl 0 rfl) ?_
          refine lv_iload X.1.1 X.1.2.1 dX1_pullAt_34 (lv_at hl 4 rfl) ?_
          obtain ⟨u1003, e_u1003, hE⟩ := bd_some hE
          refine callRV (wsC := (wF cI cZ h hk hp ht ki sp tu wo th)) (As := [.int v4_1001]) (rest := [.int u1002, .int v3_1001]) (ci := 1) X (c1_spotOf (l := l) e_u1003) o1_spotOf tw313 ⟨rfl, rfl, Nat.le_of_ble_eq_true rfl, Nat.le_of_ble_eq_true rfl⟩ hP hK 0 rfl rfl rfl rfl hl rfl (Nat.le_of_ble_eq_true rfl) ⟨Nat.le_refl _, Nat.le_refl _⟩ dX1_pullAt_36 ?_
          refine lv_iload_n X.1.1 X.1.2.1 dX1_pullAt_39 rfl (lv_at hl 1 rfl) ?_
          refine lv_isub X.1.1 X.1.2.1 dX1_pullAt_40 ?_
          refine mAbs X tw317 hl (Nat.le_of_ble_eq_true rfl) (Nat.le_of_ble_eq_true rfl) ⟨Nat.le_refl _, Nat.le_refl _⟩ dX1_pullAt_41 ?_
          refine lv_isub X.1.1 X.1.2.1 dX1_pullAt_44 ?_
          refine mMax X tw320 hl (Nat.le_of_ble_eq_true rfl) (Nat.le_of_ble_eq_true rfl) ⟨Nat.le_refl _, Nat.le_refl _⟩ dX1_pullAt_45 ?_
          refine lv_istore_n (lv' := [(3, .int (mxI v3_1001 (u1002 - (abI (u1003 - v1))))), (0, .ref h), (1, .int v1), (2, .int v2), (4, .int v4_1001)]) X.1.1 X.1.2.1 dX1_pullAt_48 rfl hl (by decide) rfl (fun ls hl => ?_)
          refine lv_iinc (v := (v4_1001 + (iI 1))) (lv' := [(4, .int (v4_1001 + (iI 1))), (3, .int (mxI v3_1001 (u1002 - (abI (u1003 - v1))))), (0, .ref h), (1, .int v1), (2, .int v2)]) X.1.1 X.1.2.1 dX1_pullAt_49 hl (k := 4) rfl rfl (by decide) rfl (fun ls hl => ?_)
          refine lv_goto (tgt := 5) X.1.1 X.1.2.1 dX1_pullAt_52 (by decide) ?_
          exact ih (mxI v3_1001 (u1002 - (abI (u1003 - v1)))) (v4_1001 + (iI 1)) ls (lv_sub hl [2, 3, 4, 1, 0] rfl) hE
        · have hE := ite_t hE c_20
          refine lv_goto (tgt := 49) X.1.1 X.1.2.1 dX1_pullAt_23 (by decide) ?_
          refine lv_iinc (v := (v4_1001 + (iI 1))) (lv' := [(4, .int (v4_1001 + (iI 1))), (0, .ref h), (1, .int v1), (2, .int v2), (3, .int v3_1001)]) X.1.1 X.1.2.1 dX1_pullAt_49 hl (k := 4) rfl rfl (by decide) rfl (fun ls hl => ?_)
          refine lv_goto (tgt := 5) X.1.1 X.1.2.1 dX1_pullAt_52 (by decide) ?_
          exact ih v3_1001 (v4_1001 + (iI 1)) ls (lv_sub hl [1, 2, 3, 4, 0] rfl) hE
  refine lp5 _ (fun v3_1001 v4_1001 ls hl hE => ?_) FU (iI 0) (iI 0) ls (lv_sub hl [2, 3, 4, 1, 0] rfl) hE
  refine lv_iload_n X.1.1 X.1.2.1 dX1_pullAt_55 rfl (lv_at hl 3 rfl) ?_
  cases hE
  exact retR X dX1_pullAt_56
theorem o1_powerWith : oV yX1_powerWith RX1 cX1_powerWith 6 (some .int) 4 := ⟨tw294, tw292, tw293, tw41, ⟨by decide +kernel, by decide +kernel⟩, by decide +kernel⟩
abbrev rm1_powerWith : Room := { frames := 1, cells := 0, slots := 0, locals := 21 }
set_option maxHeartbeats 4000000 in
set_option maxRecDepth 100000 in
theorem c1_powerWith {l : Launch} {G : va_G} {cI cZ : ClassId} {h hk hp ht : Nat} {ki : Nat → Int32} {sp : Nat → Int32} {tu : Nat → Int32} {wo : Int32} {th : Int32} {v1 : Int32} {v2 : Int32} {v3 : Int32} {v4 : Int32} {u : Int32} (hE : f1_powerWith v1 v2 v3 v4 ki = some u) : Met l yX1_powerWith (Cond.code yX1_powerWith cX1_powerWith 6 (some .int) :: TB) rm1_powerWith (PcR G cI cZ (wF cI cZ h hk hp ht ki sp tu wo th) ([.ref h, .int v1, .int v2, .int v3, .int v4] : List Value)) (QcRead u) 0 0 (fun _ => False) := by
  refine metR (own := RX1) (by decide +kernel) rfl (Nat.le_of_ble_eq_true rfl) ?_
  intro p e s m below meth c ls X hP hK hl
  have hl : lv_has ls 6 [(0, .ref h), (1, .int v1), (2, .int v2), (3, .int v3), (4, .int v4)] := hl
  unfold f1_powerWith at hE
  refine lv_aload_n X.1.1 X.1.2.1 dX1_powerWith_0 rfl (lv_at hl 0 rfl) ?_
  refine lv_iload_n X.1.1 X.1.2.1 dX1_powerWith_1 rfl (lv_at hl 2 rfl) ?_
  obtain ⟨u1001, e_u1001, hE⟩ := bd_some hE
  refine callRV (wsC := (wF cI cZ h hk hp ht ki sp tu wo th)) (As := [.int v2]) (rest := []) (ci := 1) X (c1_kindOf (l := l) e_u1001) o1_kindOf tw295 ⟨rfl, rfl, Nat.le_of_ble_eq_true rfl, Nat.le_of_ble_eq_true rfl⟩ hP hK 0 rfl rfl rfl rfl hl rfl (by decide) ⟨Nat.le_refl _, Nat.le_refl _⟩ dX1_powerWith_2 ?_
  refine lv_iconst (v := (iI 1)) X.1.1 X.1.2.1 dX1_powerWith_5 rfl ?_
  refine lv_icmp_ne (tgt := 16) X.1.1 X.1.2.1 dX1_powerWith_6 (by decide) (fun c_6 => ?_) (fun c_6 => ?_)
  · have hE := ite_f hE c_6
    refine lv_iload X.1.1 X.1.2.1 dX1_powerWith_16 (lv_at hl 4 rfl) ?_
    refine lv_iconst (v := (iI 2)) X.1.1 X.1.2.1 dX1_powerWith_18 rfl ?_
    refine lv_idiv X.1.1 X.1.2.1 dX1_powerWith_19 (by decide) ?_
    refine lv_istore (lv' := [(5, .int (v4 / (iI 2))), (0, .ref h), (1, .int v1), (2, .int v2), (3, .int v3), (4, .int v4)]) X.1.1 X.1.2.1 dX1_powerWith_20 hl (by decide) rfl (fun ls hl => ?_)
    refine lv_iload_n X.1.1 X.1.2.1 dX1_powerWith_22 rfl (lv_at hl 2 rfl) ?_
    refine lv_iload_n X.1.1 X.1.2.1 dX1_powerWith_23 rfl (lv_at hl 4 rfl) ?_
    refine lv_if_eq (tgt := 31) X.1.1 X.1.2.1 dX1_powerWith_24 (by decide) (fun c_24 => ?_) (fun c_24 => ?_)
    · have hE := ite_t hE c_24
      refine lv_iconst (v := (iI 0)) X.1.1 X.1.2.1 dX1_powerWith_31 rfl ?_
      refine lv_iadd X.1.1 X.1.2.1 dX1_powerWith_32 ?_
      refine lv_iload X.1.1 X.1.2.1 dX1_powerWith_33 (lv_at hl 0 rfl) ?_
      refine lv_isub X.1.1 X.1.2.1 dX1_powerWith_35 ?_
      cases hE
      exact retR X dX1_powerWith_36
    · have hE := ite_f hE c_24
      refine lv_iconst (v := (iI 1)) X.1.1 X.1.2.1 dX1_powerWith_27 rfl ?_
      refine lv_goto (tgt := 32) X.1.1 X.1.2.1 dX1_powerWith_28 (by decide) ?_
      refine lv_iadd X.1.1 X.1.2.1 dX1_powerWith_32 ?_
      refine lv_iload X.1.1 X.1.2.1 dX1_powerWith_33 (lv_at hl 0 rfl) ?_
      refine lv_isub X.1.1 X.1.2.1 dX1_powerWith_35 ?_
      cases hE
      exact retR X dX1_powerWith_36
  · have hE := ite_t hE c_6
    refine lv_iload X.1.1 X.1.2.1 dX1_powerWith_9 (lv_at hl 4 rfl) ?_
    refine lv_iconst (v := (iI 4)) X.1.1 X.1.2.1 dX1_powerWith_11 rfl ?_
    refine lv_idiv X.1.1 X.1.2.1 dX1_powerWith_12 (by decide) ?_
    refine lv_goto (tgt := 20) X.1.1 X.1.2.1 dX1_powerWith_13 (by decide) ?_
    refine lv_istore (lv' := [(5, .int (v4 / (iI 4))), (0, .ref h), (1, .int v1), (2, .int v2), (3, .int v3), (4, .int v4)]) X.1.1 X.1.2.1 dX1_powerWith_20 hl (by decide) rfl (fun ls hl => ?_)
    refine lv_iload_n X.1.1 X.1.2.1 dX1_powerWith_22 rfl (lv_at hl 2 rfl) ?_
    refine lv_iload_n X.1.1 X.1.2.1 dX1_powerWith_23 rfl (lv_at hl 4 rfl) ?_
    refine lv_if_eq (tgt := 31) X.1.1 X.1.2.1 dX1_powerWith_24 (by decide) (fun c_24 => ?_) (fun c_24 => ?_)
    · have hE := ite_t hE c_24
      refine lv_iconst (v := (iI 0)) X.1.1 X.1.2.1 dX1_powerWith_31 rfl ?_
      refine lv_iadd X.1.1 X.1.2.1 dX1_powerWith_32 ?_
      refine lv_iload X.1.1 X.1.2.1 dX1_powerWith_33 (lv_at hl 0 rfl) ?_
      refine lv_isub X.1.1 X.1.2.1 dX1_powerWith_35 ?_
      cases hE
      exact retR X dX1_powerWith_36
    · have hE := ite_f hE c_24
      refine lv_iconst (v := (iI 1)) X.1.1 X.1.2.1 dX1_powerWith_27 rfl ?_
      refine lv_goto (tgt := 32) X.1.1 X.1.2.1 dX1_powerWith_28 (by decide) ?_
      refine lv_iadd X.1.1 X.1.2.1 dX1_powerWith_32 ?_
      refine lv_iload X.1.1 X.1.2.1 dX1_powerWith_33 (lv_at hl 0 rfl) ?_
      refine lv_isub X.1.1 X.1.2.1 dX1_powerWith_35 ?_
      cases hE
      exact retR X dX1_powerWith_36
theorem o1_powerOf : oV yX1_powerOf RX1 cX1_powerOf 4 (some .int) 3 := ⟨tw289, tw287, tw288, tw41, ⟨by decide +kernel, by decide +kernel⟩, by decide +kernel⟩
abbrev rm1_powerOf : Room := { frames := 2, cells := 0, slots := 0, locals := 46 }
set_option maxHeartbeats 4000000 in
set_option maxRecDepth 100000 in
theorem c1_powerOf {l : Launch} {G : va_G} {cI cZ : ClassId} {h hk hp ht d ds : Nat} {ki : Nat → Int32} {sp : Nat → Int32} {tu : Nat → Int32} {wo : Int32} {th : Int32} {st : Nat → Int32} {ch : Int32} {ya : Int32} {ow : Int32} {ca : Int32} {hu : Int32} {le : Int32} {v2 : Int32} {v3 : Int32} {u : Int32} (hE : f1_powerOf v2 v3 ki st hu = some u) : Met l yX1_powerOf (Cond.code yX1_powerOf cX1_powerOf 4 (some .int) :: TB) rm1_powerOf (PcR G cI cZ (wFD cI cZ h hk hp ht d ds ki sp tu wo th st ch ya ow ca hu le) ([.ref h, .ref d, .int v2, .int v3] : List Value)) (QcRead u) 0 0 (fun _ => False) := by
  refine metR (own := RX1) (by decide +kernel) rfl (Nat.le_of_ble_eq_true rfl) ?_
  intro p e s m below meth c ls X hP hK hl
  have hl : lv_has ls 4 [(0, .ref h), (1, .ref d), (2, .int v2), (3, .int v3)] := hl
  unfold f1_powerOf at hE
  refine lv_aload_n X.1.1 X.1.2.1 dX1_powerOf_0 rfl (lv_at hl 0 rfl) ?_
  refine lv_aload_n X.1.1 X.1.2.1 dX1_powerOf_1 rfl (lv_at hl 1 rfl) ?_
  refine lv_iload_n X.1.1 X.1.2.1 dX1_powerOf_2 rfl (lv_at hl 2 rfl) ?_
  obtain ⟨u1001, e_u1001, hE⟩ := bd_some hE
  refine callRV (wsC := (wD cI cZ d ds st ch ya ow ca hu le)) (As := [.int v2]) (rest := [.ref h]) (ci := 0) X (c0_strengthOf (l := l) e_u1001) o0_strengthOf tw290 ⟨rfl, rfl, Nat.le_of_ble_eq_true rfl, Nat.le_of_ble_eq_true rfl⟩ (hP.sub [4, 5] rfl) hK 0 rfl rfl rfl rfl hl rfl (Nat.le_of_ble_eq_true rfl) ⟨Nat.le_refl _, Nat.le_refl _⟩ dX1_powerOf_3 ?_
  refine lv_iload_n X.1.1 X.1.2.1 dX1_powerOf_6 rfl (lv_at hl 2 rfl) ?_
  refine lv_aload_n X.1.1 X.1.2.1 dX1_powerOf_7 rfl (lv_at hl 1 rfl) ?_
  refine gf1_52 X hK hP 4 rfl rfl dX1_powerOf_8 ?_
  refine lv_iload_n X.1.1 X.1.2.1 dX1_powerOf_11 rfl (lv_at hl 3 rfl) ?_
  obtain ⟨u1002, e_u1002, hE⟩ := bd_some hE
  refine callRV (wsC := (wF cI cZ h hk hp ht ki sp tu wo th)) (As := [.int u1001, .int v2, .int hu, .int v3]) (rest := []) (ci := 1) X (c1_powerWith (l := l) e_u1002) o1_powerWith tw291 ⟨rfl, rfl, Nat.le_of_ble_eq_true rfl, Nat.le_of_ble_eq_true rfl⟩ (hP.sub [0, 1, 2, 3] rfl) hK 0 rfl rfl rfl rfl hl rfl (by decide) ⟨Nat.le_refl _, Nat.le_refl _⟩ dX1_powerOf_12 ?_
  cases hE
  exact retR X dX1_powerOf_15
theorem o1_isEnough : oV yX1_isEnough RX1 cX1_isEnough 4 (some .boolean) 3 := ⟨tw304, tw302, tw303, tw41, ⟨by decide +kernel, by decide +kernel⟩, by decide +kernel⟩
abbrev rm1_isEnough : Room := { frames := 2, cells := 0, slots := 0, locals := 45 }
set_option maxHeartbeats 4000000 in
set_option maxRecDepth 100000 in
theorem c1_isEnough {l : Launch} {G : va_G} {cI cZ : ClassId} {h hk hp ht : Nat} {ki : Nat → Int32} {sp : Nat → Int32} {tu : Nat → Int32} {wo : Int32} {th : Int32} {v1 : Int32} {v2 : Int32} {v3 : Int32} {u : Int32} (hE : f1_isEnough v1 v2 v3 sp tu th = some u) : Met l yX1_isEnough (Cond.code yX1_isEnough cX1_isEnough 4 (some .boolean) :: TB) rm1_isEnough (PcR G cI cZ (wF cI cZ h hk hp ht ki sp tu wo th) ([.ref h, .int v1, .int v2, .int v3] : List Value)) (QcRead u) 0 0 (fun _ => False) := by
  refine metR (own := RX1) (by decide +kernel) rfl (Nat.le_of_ble_eq_true rfl) ?_
  intro p e s m below meth c ls X hP hK hl
  have hl : lv_has ls 4 [(0, .ref h), (1, .int v1), (2, .int v2), (3, .int v3)] := hl
  unfold f1_isEnough at hE
  refine lv_iload_n X.1.1 X.1.2.1 dX1_isEnough_0 rfl (lv_at hl 1 rfl) ?_
  refine lv_iconst (v := (iI 1)) X.1.1 X.1.2.1 dX1_isEnough_1 rfl ?_
  refine lv_icmp_lt (tgt := 19) X.1.1 X.1.2.1 dX1_isEnough_2 (by decide) (fun c_2 => ?_) (fun c_2 => ?_)
  · have hE := ite_t hE c_2
    refine lv_iconst (v := (iI 0)) X.1.1 X.1.2.1 dX1_isEnough_19 rfl ?_
    cases hE
    exact retRZ X okB_0 dX1_isEnough_20
  · have hE := ite_f hE c_2
    refine lv_iload_n X.1.1 X.1.2.1 dX1_isEnough_5 rfl (lv_at hl 1 rfl) ?_
    refine lv_aload_n X.1.1 X.1.2.1 dX1_isEnough_6 rfl (lv_at hl 0 rfl) ?_
    refine lv_iload_n X.1.1 X.1.2.1 dX1_isEnough_7 rfl (lv_at hl 2 rfl) ?_
    refine lv_iload_n X.1.1 X.1.2.1 dX1_isEnough_8 rfl (lv_at hl 3 rfl) ?_
    obtain ⟨u1001, e_u1001, hE⟩ := bd_some hE
    refine callRV (wsC := (wF cI cZ h hk hp ht ki sp tu wo th)) (As := [.int v2, .int v3]) (rest := [.int v1]) (ci := 1) X (c1_pullAt (l := l) e_u1001) o1_pullAt tw305 ⟨rfl, rfl, Nat.le_of_ble_eq_true rfl, Nat.le_of_ble_eq_true rfl⟩ hP hK 0 rfl rfl rfl rfl hl rfl (Nat.le_of_ble_eq_true rfl) ⟨Nat.le_refl _, Nat.le_refl _⟩ dX1_isEnough_9 ?_
    refine lv_icmp_lt (tgt := 19) X.1.1 X.1.2.1 dX1_isEnough_12 (by decide) (fun c_12 => ?_) (fun c_12 => ?_)
    · have hE := ite_t hE c_12
      refine lv_iconst (v := (iI 0)) X.1.1 X.1.2.1 dX1_isEnough_19 rfl ?_
      cases hE
      exact retRZ X okB_0 dX1_isEnough_20
    · have hE := ite_f hE c_12
      refine lv_iconst (v := (iI 1)) X.1.1 X.1.2.1 dX1_isEnough_15 rfl ?_
      refine lv_goto (tgt := 20) X.1.1 X.1.2.1 dX1_isEnough_16 (by decide) ?_
      cases hE
      exact retRZ X okB_1 dX1_isEnough_20
theorem o1_brings : oV yX1_brings RX1 cX1_brings 4 (some .boolean) 3 := ⟨tw299, tw297, tw298, tw41, ⟨by decide +kernel, by decide +kernel⟩, by decide +kernel⟩
abbrev rm1_brings : Room := { frames := 3, cells := 0, slots := 0, locals := 69 }
set_option maxHeartbeats 4000000 in
set_option maxRecDepth 100000 in
theorem c1_brings {l : Launch} {G : va_G} {cI cZ : ClassId} {h hk hp ht d ds : Nat} {ki : Nat → Int32} {sp : Nat → Int32} {tu : Nat → Int32} {wo : Int32} {th : Int32} {st : Nat → Int32} {ch : Int32} {ya : Int32} {ow : Int32} {ca : Int32} {hu : Int32} {le : Int32} {v2 : Int32} {v3 : Int32} {u : Int32} (hE : f1_brings v2 v3 ki sp tu th st hu = some u) : Met l yX1_brings (Cond.code yX1_brings cX1_brings 4 (some .boolean) :: TB) rm1_brings (PcR G cI cZ (wFD cI cZ h hk hp ht d ds ki sp tu wo th st ch ya ow ca hu le) ([.ref h, .ref d, .int v2, .int v3] : List Value)) (QcRead u) 0 0 (fun _ => False) := by
  refine metR (own := RX1) (by decide +kernel) rfl (Nat.le_of_ble_eq_true rfl) ?_
  intro p e s m below meth c ls X hP hK hl
  have hl : lv_has ls 4 [(0, .ref h), (1, .ref d), (2, .int v2), (3, .int v3)] := hl
  unfold f1_brings at hE
  refine lv_aload_n X.1.1 X.1.2.1 dX1_brings_0 rfl (lv_at hl 0 rfl) ?_
  refine lv_aload_n X.1.1 X.1.2.1 dX1_brings_1 rfl (lv_at hl 0 rfl) ?_
  refine lv_aload_n X.1.1 X.1.2.1 dX1_brings_2 rfl (lv_at hl 1 rfl) ?_
  refine lv_iload_n X.1.1 X.1.2.1 dX1_brings_3 rfl (lv_at hl 2 rfl) ?_
  refine lv_iload_n X.1.1 X.1.2.1 dX1_brings_4 rfl (lv_at hl 3 rfl) ?_
  obtain ⟨u1001, e_u1001, hE⟩ := bd_some hE
  refine callRV (wsC := (wFD cI cZ h hk hp ht d ds ki sp tu wo th st ch ya ow ca hu le)) (As := [.ref d, .int v2, .int v3]) (rest := [.ref h]) (ci := 1) X (c1_powerOf (l := l) e_u1001) o1_powerOf tw300 ⟨rfl, rfl, Nat.le_of_ble_eq_true rfl, Nat.le_of_ble_eq_true rfl⟩ hP hK 0 rfl rfl rfl rfl hl rfl (Nat.le_of_ble_eq_true rfl) ⟨Nat.le_refl _, Nat.le_refl _⟩ dX1_brings_5 ?_
  refine lv_iload_n X.1.1 X.1.2.1 dX1_brings_8 rfl (lv_at hl 3 rfl) ?_
  refine lv_bipush (v := (iI 15)) X.1.1 X.1.2.1 dX1_brings_9 (by decide) ?_
  obtain ⟨u1002, e_u1002, hE⟩ := bd_some hE
  refine callRV (wsC := (wF cI cZ h hk hp ht ki sp tu wo th)) (As := [.int u1001, .int v3, .int (iI 15)]) (rest := []) (ci := 1) X (c1_isEnough (l := l) e_u1002) o1_isEnough tw301 ⟨rfl, rfl, Nat.le_of_ble_eq_true rfl, Nat.le_of_ble_eq_true rfl⟩ (hP.sub [0, 1, 2, 3] rfl) hK 0 rfl rfl rfl rfl hl rfl (by decide) ⟨Nat.le_refl _, Nat.le_refl _⟩ dX1_brings_11 ?_
  obtain ⟨z_r, hE⟩ := okB_some hE
  cases hE
  exact retRZ X z_r dX1_brings_14
theorem o1_callHim : oV yX1_callHim RX1 cX1_callHim 4 (some .boolean) 2 := ⟨tw377, tw375, tw376, tw41, ⟨by decide +kernel, by decide +kernel⟩, by decide +kernel⟩
abbrev rm1_callHim : Room := { frames := 4, cells := 0, slots := 0, locals := 92 }
set_option maxHeartbeats 4000000 in
set_option maxRecDepth 100000 in
theorem c1_callHim {l : Launch} {G : va_G} {cI cZ : ClassId} {h hk hp ht d ds : Nat} {ki : Nat → Int32} {sp : Nat → Int32} {tu : Nat → Int32} {wo : Int32} {th : Int32} {st : Nat → Int32} {ch : Int32} {ya : Int32} {ow : Int32} {ca : Int32} {hu : Int32} {le : Int32} {v2 : Int32} {sz : Nat} {u : Int32 × (Nat → Int32) × Int32 × Int32 × Int32} (hE : f1_callHim v2 ki sp tu th st ya ca hu = some u) : Met l yX1_callHim (Cond.code yX1_callHim cX1_callHim 4 (some .boolean) :: TB) rm1_callHim (PcW G cI cZ (wFD cI cZ h hk hp ht d ds ki sp tu wo th st ch ya ow ca hu le) sz ([.ref h, .ref d, .int v2] : List Value)) (QW G (some (.int u.1)) (wFD cI cZ h hk hp ht d ds ki sp tu wo th u.2.1 ch u.2.2.1 u.2.2.2.1 u.2.2.2.2 hu le) (va_A (wFD cI cZ h hk hp ht d ds ki sp tu wo th st ch ya ow ca hu le) sz)) 0 0 (va_A (wFD cI cZ h hk hp ht d ds ki sp tu wo th st ch ya ow ca hu le) sz) := by
  refine metW (own := RX1) (by decide +kernel) rfl (Nat.le_of_ble_eq_true rfl) ?_
  intro p e s m below meth c ls A X hA hP hK hD hl
  have hS : va_S A s.heap s.heap [] := va_S.rf
  have hl : lv_has ls 4 [(0, .ref h), (1, .ref d), (2, .int v2)] := hl
  unfold f1_callHim at hE
  refine lv_aload_n X.1.1 X.1.2.1 dX1_callHim_0 rfl (lv_at hl 0 rfl) ?_
  refine lv_aload_n X.1.1 X.1.2.1 dX1_callHim_1 rfl (lv_at hl 1 rfl) ?_
  refine lv_iload_n X.1.1 X.1.2.1 dX1_callHim_2 rfl (lv_at hl 2 rfl) ?_
  refine lv_aload_n X.1.1 X.1.2.1 dX1_callHim_3 rfl (lv_at hl 1 rfl) ?_
  refine gf1_71 X hK hP 4 rfl rfl dX1_callHim_4 ?_
  obtain ⟨u1001, e_u1001, hE⟩ := bd_some hE
  refine callRV (wsC := (wFD cI cZ h hk hp ht d ds ki sp tu wo th st ch ya ow ca hu le)) (As := [.ref d, .int v2, .int ya]) (rest := []) (ci := 1) X (c1_brings (l := l) e_u1001) o1_brings tw378 ⟨rfl, rfl, Nat.le_of_ble_eq_true rfl, Nat.le_of_ble_eq_true rfl⟩ hP hK 0 rfl rfl rfl rfl hl rfl (by decide) ⟨Nat.le_refl _, Nat.le_refl _⟩ dX1_callHim_7 ?_
  refine lv_istore_n (lv' := [(3, .int u1001), (0, .ref h), (1, .ref d), (2, .int v2)]) X.1.1 X.1.2.1 dX1_callHim_10 rfl hl (by decide) rfl (fun ls hl => ?_)
  refine lv_aload_n X.1.1 X.1.2.1 dX1_callHim_11 rfl (lv_at hl 2 rfl) ?_
  refine lv_dup X.1.1 X.1.2.1 dX1_callHim_12 rfl ?_
  refine gf1_78 X hK hP 4 rfl rfl dX1_callHim_13 ?_
  refine lv_iconst (v := (iI 1)) X.1.1 X.1.2.1 dX1_callHim_16 rfl ?_
  refine lv_iadd X.1.1 X.1.2.1 dX1_callHim_17 ?_
  refine pf1_78 (ws2 := (wFD cI cZ h hk hp ht d ds ki sp tu wo th st ch ya ow (ca + (iI 1)) hu le)) X hK hP hD hS 4 rfl (Nat.le_of_ble_eq_true rfl) rfl dX1_callHim_18 (fun H locs hP hD hS => ?_)
  refine lv_iload_n X.1.1 X.1.2.1 dX1_callHim_21 rfl (lv_at hl 0 rfl) ?_
  refine lv_if_eq (tgt := 38) X.1.1 X.1.2.1 dX1_callHim_22 (by decide) (fun c_22 => ?_) (fun c_22 => ?_)
  · have hE := ite_t hE c_22
    refine lv_aload_n X.1.1 X.1.2.1 dX1_callHim_38 rfl (lv_at hl 2 rfl) ?_
    refine lv_iload_n X.1.1 X.1.2.1 dX1_callHim_39 rfl (lv_at hl 3 rfl) ?_
    refine lv_aload_n X.1.1 X.1.2.1 dX1_callHim_40 rfl (lv_at hl 1 rfl) ?_
    refine lv_iload_n X.1.1 X.1.2.1 dX1_callHim_41 rfl (lv_at hl 3 rfl) ?_
    obtain ⟨u1002, e_u1002, hE⟩ := bd_some hE
    refine callRV (wsC := (wF cI cZ h hk hp ht ki sp tu wo th)) (As := [.int v2]) (rest := [.int v2, .ref d]) (ci := 1) X (c1_kindOf (l := l) e_u1002) o1_kindOf tw295 ⟨rfl, rfl, Nat.le_of_ble_eq_true rfl, Nat.le_of_ble_eq_true rfl⟩ (hP.sub [0, 1, 2, 3] rfl) hK 0 rfl rfl rfl rfl hl rfl (Nat.le_of_ble_eq_true rfl) ⟨Nat.le_refl _, Nat.le_refl _⟩ dX1_callHim_42 ?_
    refine lv_iconst (v := (iI 2)) X.1.1 X.1.2.1 dX1_callHim_45 rfl ?_
    refine lv_icmp_ne (tgt := 54) X.1.1 X.1.2.1 dX1_callHim_46 (by decide) (fun c_46 => ?_) (fun c_46 => ?_)
    · have hE := ite_f hE c_46
      refine lv_iconst (v := (iI (-1))) X.1.1 X.1.2.1 dX1_callHim_54 rfl ?_
      obtain ⟨u1003, e_u1003, hE⟩ := bd_some hE
      refine callWV (wsC := (wD cI cZ d ds st ch ya ow (ca + (iI 1)) hu le)) (w1 := (wD cI cZ d ds u1003 ch ya ow (ca + (iI 1)) hu le)) (ws' := (wFD cI cZ h hk hp ht d ds ki sp tu wo th u1003 ch ya ow (ca + (iI 1)) hu le)) (As := [.int v2, .int (iI (-1))]) (rest := []) (ov := none) (st1 := []) (ci := 0) X (c0_addStrength (l := l) e_u1003) o0_addStrength tw379 ⟨rfl, rfl, Nat.le_of_ble_eq_true rfl, Nat.le_of_ble_eq_true rfl⟩ hP hK hD hS hA [4, 5] (by decide) rfl rfl rfl (wFD_fst.trans wFD_fst.symm) 4 rfl rfl rfl rfl hl rfl (by decide) ⟨Nat.le_refl _, Nat.le_refl _⟩ rfl dX1_callHim_55 (fun H locs hP hD hS => ?_)
      refine lv_aload_n X.1.1 X.1.2.1 dX1_callHim_58 rfl (lv_at hl 2 rfl) ?_
      refine lv_iconst (v := (iI 1)) X.1.1 X.1.2.1 dX1_callHim_59 rfl ?_
      obtain ⟨u1004, e_u1004, hE⟩ := bd_some hE
      refine callWV (wsC := (wD cI cZ d ds u1003 ch ya ow (ca + (iI 1)) hu le)) (w1 := (wD cI cZ d ds u1003 ch u1004.1 u1004.2 (ca + (iI 1)) hu le)) (ws' := (wFD cI cZ h hk hp ht d ds ki sp tu wo th u1003 ch u1004.1 u1004.2 (ca + (iI 1)) hu le)) (As := [.int (iI 1)]) (rest := []) (ov := none) (st1 := []) (ci := 0) X (c0_runOff (l := l) e_u1004) o0_runOff tw389 ⟨rfl, rfl, Nat.le_of_ble_eq_true rfl, Nat.le_of_ble_eq_true rfl⟩ hP hK hD hS hA [4, 5] (by decide) rfl rfl rfl (wFD_fst.trans wFD_fst.symm) 4 rfl rfl rfl rfl hl rfl (by decide) ⟨Nat.le_refl _, Nat.le_refl _⟩ rfl dX1_callHim_60 (fun H locs hP hD hS => ?_)
      refine lv_iload_n X.1.1 X.1.2.1 dX1_callHim_63 rfl (lv_at hl 0 rfl) ?_
      obtain ⟨z_r, hE⟩ := okB_some hE
      cases hE
      exact retWZ X hP hS z_r dX1_callHim_64
    · have hE := ite_t hE c_46
      refine lv_bipush (v := (iI (-2))) X.1.1 X.1.2.1 dX1_callHim_49 (by decide) ?_
      refine lv_goto (tgt := 55) X.1.1 X.1.2.1 dX1_callHim_51 (by decide) ?_
      obtain ⟨u1005, e_u1005, hE⟩ := bd_some hE
      refine callWV (wsC := (wD cI cZ d ds st ch ya ow (ca + (iI 1)) hu le)) (w1 := (wD cI cZ d ds u1005 ch ya ow (ca + (iI 1)) hu le)) (ws' := (wFD cI cZ h hk hp ht d ds ki sp tu wo th u1005 ch ya ow (ca + (iI 1)) hu le)) (As := [.int v2, .int (iI (-2))]) (rest := []) (ov := none) (st1 := []) (ci := 0) X (c0_addStrength (l := l) e_u1005) o0_addStrength tw379 ⟨rfl, rfl, Nat.le_of_ble_eq_true rfl, Nat.le_of_ble_eq_true rfl⟩ hP hK hD hS hA [4, 5] (by decide) rfl rfl rfl (wFD_fst.trans wFD_fst.symm) 4 rfl rfl rfl rfl hl rfl (by decide) ⟨Nat.le_refl _, Nat.le_refl _⟩ rfl dX1_callHim_55 (fun H locs hP hD hS => ?_)
      refine lv_aload_n X.1.1 X.1.2.1 dX1_callHim_58 rfl (lv_at hl 2 rfl) ?_
      refine lv_iconst (v := (iI 1)) X.1.1 X.1.2.1 dX1_callHim_59 rfl ?_
      obtain ⟨u1006, e_u1006, hE⟩ := bd_some hE
      refine callWV (wsC := (wD cI cZ d ds u1005 ch ya ow (ca + (iI 1)) hu le)) (w1 := (wD cI cZ d ds u1005 ch u1006.1 u1006.2 (ca + (iI 1)) hu le)) (ws' := (wFD cI cZ h hk hp ht d ds ki sp tu wo th u1005 ch u1006.1 u1006.2 (ca + (iI 1)) hu le)) (As := [.int (iI 1)]) (rest := []) (ov := none) (st1 := []) (ci := 0) X (c0_runOff (l := l) e_u1006) o0_runOff tw389 ⟨rfl, rfl, Nat.le_of_ble_eq_true rfl, Nat.le_of_ble_eq_true rfl⟩ hP hK hD hS hA [4, 5] (by decide) rfl rfl rfl (wFD_fst.trans wFD_fst.symm) 4 rfl rfl rfl rfl hl rfl (by decide) ⟨Nat.le_refl _, Nat.le_refl _⟩ rfl dX1_callHim_60 (fun H locs hP hD hS => ?_)
      refine lv_iload_n X.1.1 X.1.2.1 dX1_callHim_63 rfl (lv_at hl 0 rfl) ?_
      obtain ⟨z_r, hE⟩ := okB_some hE
      cases hE
      exact retWZ X hP hS z_r dX1_callHim_64
  · have hE := ite_f hE c_22
    refine lv_aload_n X.1.1 X.1.2.1 dX1_callHim_25 rfl (lv_at hl 2 rfl) ?_
    refine lv_iconst (v := (iI 0)) X.1.1 X.1.2.1 dX1_callHim_26 rfl ?_
    refine pf1_71 (ws2 := (wFD cI cZ h hk hp ht d ds ki sp tu wo th st ch (iI 0) ow (ca + (iI 1)) hu le)) X hK hP hD hS 4 rfl (Nat.le_of_ble_eq_true rfl) rfl dX1_callHim_27 (fun H locs hP hD hS => ?_)
    refine lv_aload_n X.1.1 X.1.2.1 dX1_callHim_30 rfl (lv_at hl 2 rfl) ?_
    refine lv_iload_n X.1.1 X.1.2.1 dX1_callHim_31 rfl (lv_at hl 3 rfl) ?_
    refine pf1_81 (ws2 := (wFD cI cZ h hk hp ht d ds ki sp tu wo th st ch (iI 0) v2 (ca + (iI 1)) hu le)) X hK hP hD hS 4 rfl (Nat.le_of_ble_eq_true rfl) rfl dX1_callHim_32 (fun H locs hP hD hS => ?_)
    refine lv_goto (tgt := 63) X.1.1 X.1.2.1 dX1_callHim_35 (by decide) ?_
    refine lv_iload_n X.1.1 X.1.2.1 dX1_callHim_63 rfl (lv_at hl 0 rfl) ?_
    obtain ⟨z_r, hE⟩ := okB_some hE
    cases hE
    exact retWZ X hP hS z_r dX1_callHim_64
theorem o1_leash : oV yX1_leash RX1 cX1_leash 2 none 1 := ⟨tw422, tw420, tw421, tw41, ⟨by decide +kernel, by decide +kernel⟩, by decide +kernel⟩
abbrev rm1_leash : Room := { frames := 2, cells := 0, slots := 0, locals := 44 }
set_option maxHeartbeats 4000000 in
set_option maxRecDepth 100000 in
theorem c1_leash {l : Launch} {G : va_G} {cI cZ : ClassId} {h hk hp ht d ds : Nat} {ki : Nat → Int32} {sp : Nat → Int32} {tu : Nat → Int32} {wo : Int32} {th : Int32} {st : Nat → Int32} {ch : Int32} {ya : Int32} {ow : Int32} {ca : Int32} {hu : Int32} {le : Int32} {sz : Nat} {u : (Nat → Int32) × Int32 × Int32} (hE : f1_leash ki st ow le = some u) : Met l yX1_leash (Cond.code yX1_leash cX1_leash 2 none :: TB) rm1_leash (PcW G cI cZ (wFD cI cZ h hk hp ht d ds ki sp tu wo th st ch ya ow ca hu le) sz ([.ref h, .ref d] : List Value)) (QW G none (wFD cI cZ h hk hp ht d ds ki sp tu wo th u.1 ch ya u.2.1 ca hu u.2.2) (va_A (wFD cI cZ h hk hp ht d ds ki sp tu wo th st ch ya ow ca hu le) sz)) 0 0 (va_A (wFD cI cZ h hk hp ht d ds ki sp tu wo th st ch ya ow ca hu le) sz) := by
  refine metW (own := RX1) (by decide +kernel) rfl (Nat.le_of_ble_eq_true rfl) ?_
  intro p e s m below meth c ls A X hA hP hK hD hl
  have hS : va_S A s.heap s.heap [] := va_S.rf
  have hl : lv_has ls 2 [(0, .ref h), (1, .ref d)] := hl
  unfold f1_leash at hE
  refine lv_aload_n X.1.1 X.1.2.1 dX1_leash_0 rfl (lv_at hl 1 rfl) ?_
  refine gf1_92 X hK hP 4 rfl rfl dX1_leash_1 ?_
  refine lv_if_ne (tgt := 48) X.1.1 X.1.2.1 dX1_leash_4 (by decide) (fun c_4 => ?_) (fun c_4 => ?_)
  · have hE := ite_f hE c_4
    refine lv_aload_n X.1.1 X.1.2.1 dX1_leash_48 rfl (lv_at hl 1 rfl) ?_
    refine lv_aload_n X.1.1 X.1.2.1 dX1_leash_49 rfl (lv_at hl 1 rfl) ?_
    refine gf1_92 X hK hP 4 rfl rfl dX1_leash_50 ?_
    refine lv_if_ne (tgt := 60) X.1.1 X.1.2.1 dX1_leash_53 (by decide) (fun c_53 => ?_) (fun c_53 => ?_)
    · have hE := ite_f hE c_53
      refine lv_iconst (v := (iI 0)) X.1.1 X.1.2.1 dX1_leash_60 rfl ?_
      refine pf1_92 (ws2 := (wFD cI cZ h hk hp ht d ds ki sp tu wo th st ch ya ow ca hu (iI 0))) X hK hP hD hS 4 rfl okB_0 (Nat.le_of_ble_eq_true rfl) rfl dX1_leash_61 (fun H locs hP hD hS => ?_)
      cases hE
      exact retWV X hP hS dX1_leash_64
    · have hE := ite_t hE c_53
      refine lv_iconst (v := (iI 1)) X.1.1 X.1.2.1 dX1_leash_56 rfl ?_
      refine lv_goto (tgt := 61) X.1.1 X.1.2.1 dX1_leash_57 (by decide) ?_
      refine pf1_92 (ws2 := (wFD cI cZ h hk hp ht d ds ki sp tu wo th st ch ya ow ca hu (iI 1))) X hK hP hD hS 4 rfl okB_1 (Nat.le_of_ble_eq_true rfl) rfl dX1_leash_61 (fun H locs hP hD hS => ?_)
      cases hE
      exact retWV X hP hS dX1_leash_64
  · have hE := ite_t hE c_4
    refine lv_aload_n X.1.1 X.1.2.1 dX1_leash_7 rfl (lv_at hl 1 rfl) ?_
    refine gf1_81 X hK hP 4 rfl rfl dX1_leash_8 ?_
    refine lv_bipush (v := (iI (-9))) X.1.1 X.1.2.1 dX1_leash_11 (by decide) ?_
    refine lv_icmp_eq (tgt := 48) X.1.1 X.1.2.1 dX1_leash_13 (by decide) (fun c_13 => ?_) (fun c_13 => ?_)
    · have hE := ite_t hE c_13
      refine lv_aload_n X.1.1 X.1.2.1 dX1_leash_48 rfl (lv_at hl 1 rfl) ?_
      refine lv_aload_n X.1.1 X.1.2.1 dX1_leash_49 rfl (lv_at hl 1 rfl) ?_
      refine gf1_92 X hK hP 4 rfl rfl dX1_leash_50 ?_
      refine lv_if_ne (tgt := 60) X.1.1 X.1.2.1 dX1_leash_53 (by decide) (fun c_53 => ?_) (fun c_53 => ?_)
      · have hE := ite_f hE c_53
        refine lv_iconst (v := (iI 0)) X.1.1 X.1.2.1 dX1_leash_60 rfl ?_
        refine pf1_92 (ws2 := (wFD cI cZ h hk hp ht d ds ki sp tu wo th st ch ya ow ca hu (iI 0))) X hK hP hD hS 4 rfl okB_0 (Nat.le_of_ble_eq_true rfl) rfl dX1_leash_61 (fun H locs hP hD hS => ?_)
        cases hE
        exact retWV X hP hS dX1_leash_64
      · have hE := ite_t hE c_53
        refine lv_iconst (v := (iI 1)) X.1.1 X.1.2.1 dX1_leash_56 rfl ?_
        refine lv_goto (tgt := 61) X.1.1 X.1.2.1 dX1_leash_57 (by decide) ?_
        refine pf1_92 (ws2 := (wFD cI cZ h hk hp ht d ds ki sp tu wo th st ch ya ow ca hu (iI 1))) X hK hP hD hS 4 rfl okB_1 (Nat.le_of_ble_eq_true rfl) rfl dX1_leash_61 (fun H locs hP hD hS => ?_)
        cases hE
        exact retWV X hP hS dX1_leash_64
    · have hE := ite_f hE c_13
      refine lv_aload_n X.1.1 X.1.2.1 dX1_leash_16 rfl (lv_at hl 1 rfl) ?_
      refine lv_aload_n X.1.1 X.1.2.1 dX1_leash_17 rfl (lv_at hl 1 rfl) ?_
      refine gf1_81 X hK hP 4 rfl rfl dX1_leash_18 ?_
      refine lv_aload_n X.1.1 X.1.2.1 dX1_leash_21 rfl (lv_at hl 0 rfl) ?_
      refine lv_aload_n X.1.1 X.1.2.1 dX1_leash_22 rfl (lv_at hl 1 rfl) ?_
      refine gf1_81 X hK hP 4 rfl rfl dX1_leash_23 ?_
      obtain ⟨u1001, e_u1001, hE⟩ := bd_some hE
      refine callRV (wsC := (wF cI cZ h hk hp ht ki sp tu wo th)) (As := [.int ow]) (rest := [.int ow, .ref d]) (ci := 1) X (c1_kindOf (l := l) e_u1001) o1_kindOf tw295 ⟨rfl, rfl, Nat.le_of_ble_eq_true rfl, Nat.le_of_ble_eq_true rfl⟩ (hP.sub [0, 1, 2, 3] rfl) hK 0 rfl rfl rfl rfl hl rfl (Nat.le_of_ble_eq_true rfl) ⟨Nat.le_refl _, Nat.le_refl _⟩ dX1_leash_26 ?_
      refine lv_iconst (v := (iI 3)) X.1.1 X.1.2.1 dX1_leash_29 rfl ?_
      refine lv_icmp_ne (tgt := 37) X.1.1 X.1.2.1 dX1_leash_30 (by decide) (fun c_30 => ?_) (fun c_30 => ?_)
      · have hE := ite_f hE c_30
        refine lv_bipush (v := (iI (-2))) X.1.1 X.1.2.1 dX1_leash_37 (by decide) ?_
        obtain ⟨u1002, e_u1002, hE⟩ := bd_some hE
        refine callWV (wsC := (wD cI cZ d ds st ch ya ow ca hu le)) (w1 := (wD cI cZ d ds u1002 ch ya ow ca hu le)) (ws' := (wFD cI cZ h hk hp ht d ds ki sp tu wo th u1002 ch ya ow ca hu le)) (As := [.int ow, .int (iI (-2))]) (rest := []) (ov := none) (st1 := []) (ci := 0) X (c0_addStrength (l := l) e_u1002) o0_addStrength tw379 ⟨rfl, rfl, Nat.le_of_ble_eq_true rfl, Nat.le_of_ble_eq_true rfl⟩ hP hK hD hS hA [4, 5] (by decide) rfl rfl rfl (wFD_fst.trans wFD_fst.symm) 4 rfl rfl rfl rfl hl rfl (by decide) ⟨Nat.le_refl _, Nat.le_refl _⟩ rfl dX1_leash_39 (fun H locs hP hD hS => ?_)
        refine lv_aload_n X.1.1 X.1.2.1 dX1_leash_42 rfl (lv_at hl 1 rfl) ?_
        refine lv_bipush (v := (iI (-9))) X.1.1 X.1.2.1 dX1_leash_43 (by decide) ?_
        refine pf1_81 (ws2 := (wFD cI cZ h hk hp ht d ds ki sp tu wo th u1002 ch ya (iI (-9)) ca hu le)) X hK hP hD hS 4 rfl (Nat.le_of_ble_eq_true rfl) rfl dX1_leash_45 (fun H locs hP hD hS => ?_)
        refine lv_aload_n X.1.1 X.1.2.1 dX1_leash_48 rfl (lv_at hl 1 rfl) ?_
        refine lv_aload_n X.1.1 X.1.2.1 dX1_leash_49 rfl (lv_at hl 1 rfl) ?_
        refine gf1_92 X hK hP 4 rfl rfl dX1_leash_50 ?_
        refine lv_if_ne (tgt := 60) X.1.1 X.1.2.1 dX1_leash_53 (by decide) (fun c_53 => ?_) (fun c_53 => ?_)
        · have hE := ite_f hE c_53
          refine lv_iconst (v := (iI 0)) X.1.1 X.1.2.1 dX1_leash_60 rfl ?_
          refine pf1_92 (ws2 := (wFD cI cZ h hk hp ht d ds ki sp tu wo th u1002 ch ya (iI (-9)) ca hu (iI 0))) X hK hP hD hS 4 rfl okB_0 (Nat.le_of_ble_eq_true rfl) rfl dX1_leash_61 (fun H locs hP hD hS => ?_)
          cases hE
          exact retWV X hP hS dX1_leash_64
        · have hE := ite_t hE c_53
          refine lv_iconst (v := (iI 1)) X.1.1 X.1.2.1 dX1_leash_56 rfl ?_
          refine lv_goto (tgt := 61) X.1.1 X.1.2.1 dX1_leash_57 (by decide) ?_
          refine pf1_92 (ws2 := (wFD cI cZ h hk hp ht d ds ki sp tu wo th u1002 ch ya (iI (-9)) ca hu (iI 1))) X hK hP hD hS 4 rfl okB_1 (Nat.le_of_ble_eq_true rfl) rfl dX1_leash_61 (fun H locs hP hD hS => ?_)
          cases hE
          exact retWV X hP hS dX1_leash_64
      · have hE := ite_t hE c_30
        refine lv_iconst (v := (iI (-1))) X.1.1 X.1.2.1 dX1_leash_33 rfl ?_
        refine lv_goto (tgt := 39) X.1.1 X.1.2.1 dX1_leash_34 (by decide) ?_
        obtain ⟨u1003, e_u1003, hE⟩ := bd_some hE
        refine callWV (wsC := (wD cI cZ d ds st ch ya ow ca hu le)) (w1 := (wD cI cZ d ds u1003 ch ya ow ca hu le)) (ws' := (wFD cI cZ h hk hp ht d ds ki sp tu wo th u1003 ch ya ow ca hu le)) (As := [.int ow, .int (iI (-1))]) (rest := []) (ov := none) (st1 := []) (ci := 0) X (c0_addStrength (l := l) e_u1003) o0_addStrength tw379 ⟨rfl, rfl, Nat.le_of_ble_eq_true rfl, Nat.le_of_ble_eq_true rfl⟩ hP hK hD hS hA [4, 5] (by decide) rfl rfl rfl (wFD_fst.trans wFD_fst.symm) 4 rfl rfl rfl rfl hl rfl (by decide) ⟨Nat.le_refl _, Nat.le_refl _⟩ rfl dX1_leash_39 (fun H locs hP hD hS => ?_)
        refine lv_aload_n X.1.1 X.1.2.1 dX1_leash_42 rfl (lv_at hl 1 rfl) ?_
        refine lv_bipush (v := (iI (-9))) X.1.1 X.1.2.1 dX1_leash_43 (by decide) ?_
        refine pf1_81 (ws2 := (wFD cI cZ h hk hp ht d ds ki sp tu wo th u1003 ch ya (iI (-9)) ca hu le)) X hK hP hD hS 4 rfl (Nat.le_of_ble_eq_true rfl) rfl dX1_leash_45 (fun H locs hP hD hS => ?_)
        refine lv_aload_n X.1.1 X.1.2.1 dX1_leash_48 rfl (lv_at hl 1 rfl) ?_
        refine lv_aload_n X.1.1 X.1.2.1 dX1_leash_49 rfl (lv_at hl 1 rfl) ?_
        refine gf1_92 X hK hP 4 rfl rfl dX1_leash_50 ?_
        refine lv_if_ne (tgt := 60) X.1.1 X.1.2.1 dX1_leash_53 (by decide) (fun c_53 => ?_) (fun c_53 => ?_)
        · have hE := ite_f hE c_53
          refine lv_iconst (v := (iI 0)) X.1.1 X.1.2.1 dX1_leash_60 rfl ?_
          refine pf1_92 (ws2 := (wFD cI cZ h hk hp ht d ds ki sp tu wo th u1003 ch ya (iI (-9)) ca hu (iI 0))) X hK hP hD hS 4 rfl okB_0 (Nat.le_of_ble_eq_true rfl) rfl dX1_leash_61 (fun H locs hP hD hS => ?_)
          cases hE
          exact retWV X hP hS dX1_leash_64
        · have hE := ite_t hE c_53
          refine lv_iconst (v := (iI 1)) X.1.1 X.1.2.1 dX1_leash_56 rfl ?_
          refine lv_goto (tgt := 61) X.1.1 X.1.2.1 dX1_leash_57 (by decide) ?_
          refine pf1_92 (ws2 := (wFD cI cZ h hk hp ht d ds ki sp tu wo th u1003 ch ya (iI (-9)) ca hu (iI 1))) X hK hP hD hS 4 rfl okB_1 (Nat.le_of_ble_eq_true rfl) rfl dX1_leash_61 (fun H locs hP hD hS => ?_)
          cases hE
          exact retWV X hP hS dX1_leash_64
theorem o2_numberAt : oV yX2_numberAt RX2 cX2_numberAt 2 (some .int) 1 := ⟨tw438, tw437, tw5, tw43, ⟨by decide +kernel, by decide +kernel⟩, by decide +kernel⟩
abbrev rm2_numberAt : Room := { frames := 0, cells := 0, slots := 0, locals := 0 }
set_option maxHeartbeats 4000000 in
set_option maxRecDepth 100000 in
theorem c2_numberAt {l : Launch} {G : va_G} {cI cZ : ClassId} {h hn nN : Nat} {nu : Nat → Int32} {v1 : Int32} {u : Int32} (hE : f2_numberAt nN v1 nu = some u) : Met l yX2_numberAt (Cond.code yX2_numberAt cX2_numberAt 2 (some .int) :: TB) rm2_numberAt (PcR G cI cZ (wS cI cZ nN h hn nu) ([.ref h, .int v1] : List Value)) (QcRead u) 0 0 (fun _ => False) := by
  refine metR (own := RX2) (by decide +kernel) rfl (Nat.le_of_ble_eq_true rfl) ?_
  intro p e s m below meth c ls X hP hK hl
  have hl : lv_has ls 2 [(0, .ref h), (1, .int v1)] := hl
  unfold f2_numberAt at hE
  refine lv_iload_n X.1.1 X.1.2.1 dX2_numberAt_0 rfl (lv_at hl 1 rfl) ?_
  refine lv_if_lt (tgt := 22) X.1.1 X.1.2.1 dX2_numberAt_1 (by decide) (fun c_1 => ?_) (fun c_1 => ?_)
  · have hE := ite_t hE c_1
    refine lv_iconst (v := (iI 0)) X.1.1 X.1.2.1 dX2_numberAt_22 rfl ?_
    cases hE
    exact retR X dX2_numberAt_23
  · have hE := ite_f hE c_1
    refine lv_iload_n X.1.1 X.1.2.1 dX2_numberAt_4 rfl (lv_at hl 1 rfl) ?_
    refine lv_aload_n X.1.1 X.1.2.1 dX2_numberAt_5 rfl (lv_at hl 0 rfl) ?_
    refine gf2_11 X hK hP 0 rfl rfl dX2_numberAt_6 ?_
    refine va_alen (v := (Int32.ofNat nN)) X.1.1 X.1.2.1 hK hP 1 0 rfl rfl rfl dX2_numberAt_9 ?_
    refine lv_icmp_ge (tgt := 22) X.1.1 X.1.2.1 dX2_numberAt_10 (by decide) (fun c_10 => ?_) (fun c_10 => ?_)
    · have hE := ite_t hE c_10
      refine lv_iconst (v := (iI 0)) X.1.1 X.1.2.1 dX2_numberAt_22 rfl ?_
      cases hE
      exact retR X dX2_numberAt_23
    · have hE := ite_f hE c_10
      refine lv_aload_n X.1.1 X.1.2.1 dX2_numberAt_13 rfl (lv_at hl 0 rfl) ?_
      refine gf2_11 X hK hP 0 rfl rfl dX2_numberAt_14 ?_
      refine lv_iload_n X.1.1 X.1.2.1 dX2_numberAt_17 rfl (lv_at hl 1 rfl) ?_
      obtain ⟨i_18, hE⟩ := ib_some hE
      refine va_iald X.1.1 X.1.2.1 hK hP 1 0 rfl rfl i_18 dX2_numberAt_18 ?_
      refine lv_goto (tgt := 23) X.1.1 X.1.2.1 dX2_numberAt_19 (by decide) ?_
      cases hE
      exact retR X dX2_numberAt_23
theorem o2_setNumber : oV yX2_setNumber RX2 cX2_setNumber 3 none 2 := ⟨tw367, tw366, tw4, tw43, ⟨by decide +kernel, by decide +kernel⟩, by decide +kernel⟩
abbrev rm2_setNumber : Room := { frames := 0, cells := 0, slots := 0, locals := 0 }
set_option maxHeartbeats 4000000 in
set_option maxRecDepth 100000 in
theorem c2_setNumber {l : Launch} {G : va_G} {cI cZ : ClassId} {h hn nN : Nat} {nu : Nat → Int32} {v1 : Int32} {v2 : Int32} {sz : Nat} {u : (Nat → Int32)} (hE : f2_setNumber nN v1 v2 nu = some u) : Met l yX2_setNumber (Cond.code yX2_setNumber cX2_setNumber 3 none :: TB) rm2_setNumber (PcW G cI cZ (wS cI cZ nN h hn nu) sz ([.ref h, .int v1, .int v2] : List Value)) (QW G none (wS cI cZ nN h hn u) (va_A (wS cI cZ nN h hn nu) sz)) 0 0 (va_A (wS cI cZ nN h hn nu) sz) := by
  refine metW (own := RX2) (by decide +kernel) rfl (Nat.le_of_ble_eq_true rfl) ?_
  intro p e s m below meth c ls A X hA hP hK hD hl
  have hS : va_S A s.heap s.heap [] := va_S.rf
  have hl : lv_has ls 3 [(0, .ref h), (1, .int v1), (2, .int v2)] := hl
  unfold f2_setNumber at hE
  refine lv_iload_n X.1.1 X.1.2.1 dX2_setNumber_0 rfl (lv_at hl 1 rfl) ?_
  refine lv_if_lt (tgt := 20) X.1.1 X.1.2.1 dX2_setNumber_1 (by decide) (fun c_1 => ?_) (fun c_1 => ?_)
  · have hE := ite_t hE c_1
    cases hE
    exact retWV X hP hS dX2_setNumber_20
  · have hE := ite_f hE c_1
    refine lv_iload_n X.1.1 X.1.2.1 dX2_setNumber_4 rfl (lv_at hl 1 rfl) ?_
    refine lv_aload_n X.1.1 X.1.2.1 dX2_setNumber_5 rfl (lv_at hl 0 rfl) ?_
    refine gf2_11 X hK hP 0 rfl rfl dX2_setNumber_6 ?_
    refine va_alen (v := (Int32.ofNat nN)) X.1.1 X.1.2.1 hK hP 1 0 rfl rfl rfl dX2_setNumber_9 ?_
    refine lv_icmp_ge (tgt := 20) X.1.1 X.1.2.1 dX2_setNumber_10 (by decide) (fun c_10 => ?_) (fun c_10 => ?_)
    · have hE := ite_t hE c_10
      cases hE
      exact retWV X hP hS dX2_setNumber_20
    · have hE := ite_f hE c_10
      refine lv_aload_n X.1.1 X.1.2.1 dX2_setNumber_13 rfl (lv_at hl 0 rfl) ?_
      refine gf2_11 X hK hP 0 rfl rfl dX2_setNumber_14 ?_
      refine lv_iload_n X.1.1 X.1.2.1 dX2_setNumber_17 rfl (lv_at hl 1 rfl) ?_
      refine lv_iload_n X.1.1 X.1.2.1 dX2_setNumber_18 rfl (lv_at hl 2 rfl) ?_
      obtain ⟨i_19, hE⟩ := ib_some hE
      refine astI (t0 := 0) (ws' := (wS cI cZ nN h hn (upd nu v1.toNatClampNeg v2))) X hK hP hD hS 1 0 rfl rfl i_19 rfl dX2_setNumber_19 (fun H locs hP hD hS => ?_)
      cases hE
      exact retWV X hP hS dX2_setNumber_20
theorem o5_asNumber : oS yX5_asNumber cX5_asNumber 1 (some .int) 1 := ⟨tw325, tw324, tw39, ⟨by decide +kernel, by decide +kernel⟩, by decide +kernel⟩
abbrev rm5_asNumber : Room := { frames := 0, cells := 0, slots := 0, locals := 0 }
set_option maxHeartbeats 4000000 in
set_option maxRecDepth 100000 in
theorem c5_asNumber {l : Launch} {G : va_G} {cI cZ : ClassId} {v0 : Int32} {u : Int32} (hE : f5_asNumber v0 = some u) : Met l yX5_asNumber (Cond.code yX5_asNumber cX5_asNumber 1 (some .int) :: TB) rm5_asNumber (PcR G cI cZ [] ([.int v0] : List Value)) (QcRead u) 0 0 (fun _ => False) := by
  refine metR (own := RX5) (by decide +kernel) rfl (Nat.le_of_ble_eq_true rfl) ?_
  intro p e s m below meth c ls X hP hK hl
  have hl : lv_has ls 1 [(0, .int v0)] := hl
  unfold f5_asNumber at hE
  refine lv_iload_n X.1.1 X.1.2.1 dX5_asNumber_0 rfl (lv_at hl 0 rfl) ?_
  refine lv_if_eq (tgt := 8) X.1.1 X.1.2.1 dX5_asNumber_1 (by decide) (fun c_1 => ?_) (fun c_1 => ?_)
  · have hE := ite_t hE c_1
    refine lv_iconst (v := (iI 0)) X.1.1 X.1.2.1 dX5_asNumber_8 rfl ?_
    cases hE
    exact retR X dX5_asNumber_9
  · have hE := ite_f hE c_1
    refine lv_iconst (v := (iI 1)) X.1.1 X.1.2.1 dX5_asNumber_4 rfl ?_
    refine lv_goto (tgt := 9) X.1.1 X.1.2.1 dX5_asNumber_5 (by decide) ?_
    cases hE
    exact retR X dX5_asNumber_9
theorem o2_put : oV yX2_put RX2 cX2_put 5 none 2 := ⟨tw371, tw369, tw370, tw43, ⟨by decide +kernel, by decide +kernel⟩, by decide +kernel⟩
abbrev rm2_put : Room := { frames := 1, cells := 0, slots := 0, locals := 22 }
set_option maxHeartbeats 4000000 in
set_option maxRecDepth 100000 in
theorem c2_put {l : Launch} {G : va_G} {cI cZ : ClassId} {h hn d ds nN : Nat} {nu : Nat → Int32} {st : Nat → Int32} {ch : Int32} {ya : Int32} {ow : Int32} {ca : Int32} {hu : Int32} {le : Int32} {v1 : Int32} {sz : Nat} {u : (Nat → Int32)} (hE : f2_put nN v1 nu st ch ya ow ca hu le = some u) : Met l yX2_put (Cond.code yX2_put cX2_put 5 none :: TB) rm2_put (PcW G cI cZ (wSD cI cZ nN h hn d ds nu st ch ya ow ca hu le) sz ([.ref h, .int v1, .ref d] : List Value)) (QW G none (wSD cI cZ nN h hn d ds u st ch ya ow ca hu le) (va_A (wSD cI cZ nN h hn d ds nu st ch ya ow ca hu le) sz)) 0 0 (va_A (wSD cI cZ nN h hn d ds nu st ch ya ow ca hu le) sz) := by
  refine metW (own := RX2) (by decide +kernel) rfl (Nat.le_of_ble_eq_true rfl) ?_
  intro p e s m below meth c ls A X hA hP hK hD hl
  have hS : va_S A s.heap s.heap [] := va_S.rf
  have hl : lv_has ls 5 [(0, .ref h), (1, .int v1), (2, .ref d)] := hl
  unfold f2_put at hE
  refine lv_iload_n X.1.1 X.1.2.1 dX2_put_0 rfl (lv_at hl 1 rfl) ?_
  refine lv_bipush (v := (iI 10)) X.1.1 X.1.2.1 dX2_put_1 (by decide) ?_
  refine lv_imul X.1.1 X.1.2.1 dX2_put_3 ?_
  refine lv_istore_n (lv' := [(3, .int (v1 * (iI 10))), (0, .ref h), (1, .int v1), (2, .ref d)]) X.1.1 X.1.2.1 dX2_put_4 rfl hl (by decide) rfl (fun ls hl => ?_)
  refine lv_iconst (v := (iI 0)) X.1.1 X.1.2.1 dX2_put_5 rfl ?_
  refine lv_istore (lv' := [(4, .int (iI 0)), (3, .int (v1 * (iI 10))), (0, .ref h), (1, .int v1), (2, .ref d)]) X.1.1 X.1.2.1 dX2_put_6 hl (by decide) rfl (fun ls hl => ?_)
  have lp8 : ∀ (k : Int32 → (Nat → Int32) → Option (Nat → Int32)), (∀ (v4_1001 : Int32) (nu_1001 : Nat → Int32) (H : Heap) (locs : List Loc) (ls : Array Slot), va_P G vwCl (wSD cI cZ nN h hn d ds nu_1001 st ch ya ow ca hu le) H → va_D A (wSD cI cZ nN h hn d ds nu_1001 st ch ya ow ca hu le) → va_S A s.heap H locs → lv_has ls 5 [(0, .ref h), (1, .int v1), (2, .ref d), (3, .int (v1 * (iI 10))), (4, .int v4_1001)] → k v4_1001 nu_1001 = some u → W p l e rm2_put s m ([.ref h, .int v1, .ref d] : List Value).toArray below meth c H locs 0 0 (MQ below (QW G none (wSD cI cZ nN h hn d ds u st ch ya ow ca hu le) A) ([.ref h, .int v1, .ref d] : List Value).toArray s 0 0 A) (F0 m 34 ls [])) → ∀ (n : Nat) (v4_1001 : Int32) (nu_1001 : Nat → Int32) (H : Heap) (locs : List Loc) (ls : Array Slot), va_P G vwCl (wSD cI cZ nN h hn d ds nu_1001 st ch ya ow ca hu le) H → va_D A (wSD cI cZ nN h hn d ds nu_1001 st ch ya ow ca hu le) → va_S A s.heap H locs → lv_has ls 5 [(0, .ref h), (1, .int v1), (2, .ref d), (3, .int (v1 * (iI 10))), (4, .int v4_1001)] → l2_put_8 k (v1 * (iI 10)) st nN n v4_1001 nu_1001 = some u → W p l e rm2_put s m ([.ref h, .int v1, .ref d] : List Value).toArray below meth c H locs 0 0 (MQ below (QW G none (wSD cI cZ nN h hn d ds u st ch ya ow ca hu le) A) ([.ref h, .int v1, .ref d] : List Value).toArray s 0 0 A) (F0 m 8 ls []) := by
    intro k hex n
    induction n with
    | zero =>
      intro v4_1001 nu_1001 H locs ls hP hD hS hl hE
      exact absurd (show (none : Option (Nat → Int32)) = some u from hE) (fun h => by cases h)
    | succ n ih =>
      intro v4_1001 nu_1001 H locs ls hP hD hS hl hE
      rw [l2_put_8] at hE
      refine lv_iload X.1.1 X.1.2.1 dX2_put_8 (lv_at hl 4 rfl) ?_
      refine lv_iconst (v := (iI 4)) X.1.1 X.1.2.1 dX2_put_10 rfl ?_
      refine lv_icmp_ge (tgt := 34) X.1.1 X.1.2.1 dX2_put_11 (by decide) (fun c_11 => ?_) (fun c_11 => ?_)
      · have hE := ite_t hE c_11
        exact hex v4_1001 nu_1001 H locs ls hP hD hS (lv_sub hl [0, 1, 2, 3, 4] rfl) hE
      · have hE := ite_f hE c_11
        refine lv_aload_n X.1.1 X.1.2.1 dX2_put_14 rfl (lv_at hl 0 rfl) ?_
        refine lv_iload_n X.1.1 X.1.2.1 dX2_put_15 rfl (lv_at hl 3 rfl) ?_
        refine lv_iload X.1.1 X.1.2.1 dX2_put_16 (lv_at hl 4 rfl) ?_
        refine lv_iadd X.1.1 X.1.2.1 dX2_put_18 ?_
        refine lv_aload_n X.1.1 X.1.2.1 dX2_put_19 rfl (lv_at hl 2 rfl) ?_
        refine lv_iload X.1.1 X.1.2.1 dX2_put_20 (lv_at hl 4 rfl) ?_
        obtain ⟨u1002, e_u1002, hE⟩ := bd_some hE
        refine callRV (wsC := (wD cI cZ d ds st ch ya ow ca hu le)) (As := [.int v4_1001]) (rest := [.int ((v1 * (iI 10)) + v4_1001), .ref h]) (ci := 0) X (c0_strengthOf (l := l) e_u1002) o0_strengthOf tw372 ⟨rfl, rfl, Nat.le_of_ble_eq_true rfl, Nat.le_of_ble_eq_true rfl⟩ (hP.sub [2, 3] rfl) hK 0 rfl rfl rfl rfl hl rfl (Nat.le_of_ble_eq_true rfl) ⟨Nat.le_refl _, Nat.le_refl _⟩ dX2_put_22 ?_
        obtain ⟨u1003, e_u1003, hE⟩ := bd_some hE
        refine callWV (wsC := (wS cI cZ nN h hn nu_1001)) (w1 := (wS cI cZ nN h hn u1003)) (ws' := (wSD cI cZ nN h hn d ds u1003 st ch ya ow ca hu le)) (As := [.int ((v1 * (iI 10)) + v4_1001), .int u1002]) (rest := []) (ov := none) (st1 := []) (ci := 2) X (c2_setNumber (l := l) e_u1003) o2_setNumber tw364 ⟨rfl, rfl, Nat.le_of_ble_eq_true rfl, Nat.le_of_ble_eq_true rfl⟩ hP hK hD hS hA [0, 1] (by decide) rfl rfl rfl (wSD_fst.trans wSD_fst.symm) 0 rfl rfl rfl rfl hl rfl (by decide) ⟨Nat.le_refl _, Nat.le_refl _⟩ rfl dX2_put_25 (fun H locs hP hD hS => ?_)
        refine lv_iinc (v := (v4_1001 + (iI 1))) (lv' := [(4, .int (v4_1001 + (iI 1))), (0, .ref h), (1, .int v1), (2, .ref d), (3, .int (v1 * (iI 10)))]) X.1.1 X.1.2.1 dX2_put_28 hl (k := 4) rfl rfl (by decide) rfl (fun ls hl => ?_)
        refine lv_goto (tgt := 8) X.1.1 X.1.2.1 dX2_put_31 (by decide) ?_
        exact ih (v4_1001 + (iI 1)) u1003 H locs ls hP hD hS (lv_sub hl [1, 2, 3, 4, 0] rfl) hE
  refine lp8 _ (fun v4_1001 nu_1001 H locs ls hP hD hS hl hE => ?_) FU (iI 0) nu _ _ ls hP hD hS (lv_sub hl [2, 3, 4, 1, 0] rfl) hE
  refine lv_iload_n X.1.1 X.1.2.1 dX2_put_34 rfl (lv_at hl 3 rfl) ?_
  refine lv_iconst (v := (iI 4)) X.1.1 X.1.2.1 dX2_put_35 rfl ?_
  refine lv_iadd X.1.1 X.1.2.1 dX2_put_36 ?_
  refine lv_istore (lv' := [(4, .int ((v1 * (iI 10)) + (iI 4))), (0, .ref h), (1, .int v1), (2, .ref d), (3, .int (v1 * (iI 10)))]) X.1.1 X.1.2.1 dX2_put_37 hl (by decide) rfl (fun ls hl => ?_)
  refine lv_aload_n X.1.1 X.1.2.1 dX2_put_39 rfl (lv_at hl 1 rfl) ?_
  refine lv_iload X.1.1 X.1.2.1 dX2_put_40 (lv_at hl 0 rfl) ?_
  refine lv_aload_n X.1.1 X.1.2.1 dX2_put_42 rfl (lv_at hl 3 rfl) ?_
  refine gf2_25 X hK hP 2 rfl rfl dX2_put_43 ?_
  obtain ⟨u1004, e_u1004, hE⟩ := bd_some hE
  refine callWV (wsC := (wS cI cZ nN h hn nu_1001)) (w1 := (wS cI cZ nN h hn u1004)) (ws' := (wSD cI cZ nN h hn d ds u1004 st ch ya ow ca hu le)) (As := [.int ((v1 * (iI 10)) + (iI 4)), .int ch]) (rest := []) (ov := none) (st1 := []) (ci := 2) X (c2_setNumber (l := l) e_u1004) o2_setNumber tw364 ⟨rfl, rfl, Nat.le_of_ble_eq_true rfl, Nat.le_of_ble_eq_true rfl⟩ hP hK hD hS hA [0, 1] (by decide) rfl rfl rfl (wSD_fst.trans wSD_fst.symm) 0 rfl rfl rfl rfl hl rfl (by decide) ⟨Nat.le_refl _, Nat.le_refl _⟩ rfl dX2_put_46 (fun H locs hP hD hS => ?_)
  refine lv_aload_n X.1.1 X.1.2.1 dX2_put_49 rfl (lv_at hl 1 rfl) ?_
  refine lv_iload X.1.1 X.1.2.1 dX2_put_50 (lv_at hl 0 rfl) ?_
  refine lv_iconst (v := (iI 1)) X.1.1 X.1.2.1 dX2_put_52 rfl ?_
  refine lv_iadd X.1.1 X.1.2.1 dX2_put_53 ?_
  refine lv_aload_n X.1.1 X.1.2.1 dX2_put_54 rfl (lv_at hl 3 rfl) ?_
  refine gf2_29 X hK hP 2 rfl rfl dX2_put_55 ?_
  obtain ⟨u1005, e_u1005, hE⟩ := bd_some hE
  refine callWV (wsC := (wS cI cZ nN h hn u1004)) (w1 := (wS cI cZ nN h hn u1005)) (ws' := (wSD cI cZ nN h hn d ds u1005 st ch ya ow ca hu le)) (As := [.int (((v1 * (iI 10)) + (iI 4)) + (iI 1)), .int ya]) (rest := []) (ov := none) (st1 := []) (ci := 2) X (c2_setNumber (l := l) e_u1005) o2_setNumber tw364 ⟨rfl, rfl, Nat.le_of_ble_eq_true rfl, Nat.le_of_ble_eq_true rfl⟩ hP hK hD hS hA [0, 1] (by decide) rfl rfl rfl (wSD_fst.trans wSD_fst.symm) 0 rfl rfl rfl rfl hl rfl (by decide) ⟨Nat.le_refl _, Nat.le_refl _⟩ rfl dX2_put_58 (fun H locs hP hD hS => ?_)
  refine lv_aload_n X.1.1 X.1.2.1 dX2_put_61 rfl (lv_at hl 1 rfl) ?_
  refine lv_iload X.1.1 X.1.2.1 dX2_put_62 (lv_at hl 0 rfl) ?_
  refine lv_iconst (v := (iI 2)) X.1.1 X.1.2.1 dX2_put_64 rfl ?_
  refine lv_iadd X.1.1 X.1.2.1 dX2_put_65 ?_
  refine lv_aload_n X.1.1 X.1.2.1 dX2_put_66 rfl (lv_at hl 3 rfl) ?_
  refine gf2_32 X hK hP 2 rfl rfl dX2_put_67 ?_
  obtain ⟨u1006, e_u1006, hE⟩ := bd_some hE
  refine callWV (wsC := (wS cI cZ nN h hn u1005)) (w1 := (wS cI cZ nN h hn u1006)) (ws' := (wSD cI cZ nN h hn d ds u1006 st ch ya ow ca hu le)) (As := [.int (((v1 * (iI 10)) + (iI 4)) + (iI 2)), .int ow]) (rest := []) (ov := none) (st1 := []) (ci := 2) X (c2_setNumber (l := l) e_u1006) o2_setNumber tw364 ⟨rfl, rfl, Nat.le_of_ble_eq_true rfl, Nat.le_of_ble_eq_true rfl⟩ hP hK hD hS hA [0, 1] (by decide) rfl rfl rfl (wSD_fst.trans wSD_fst.symm) 0 rfl rfl rfl rfl hl rfl (by decide) ⟨Nat.le_refl _, Nat.le_refl _⟩ rfl dX2_put_70 (fun H locs hP hD hS => ?_)
  refine lv_aload_n X.1.1 X.1.2.1 dX2_put_73 rfl (lv_at hl 1 rfl) ?_
  refine lv_iload X.1.1 X.1.2.1 dX2_put_74 (lv_at hl 0 rfl) ?_
  refine lv_iconst (v := (iI 3)) X.1.1 X.1.2.1 dX2_put_76 rfl ?_
  refine lv_iadd X.1.1 X.1.2.1 dX2_put_77 ?_
  refine lv_aload_n X.1.1 X.1.2.1 dX2_put_78 rfl (lv_at hl 3 rfl) ?_
  refine gf2_35 X hK hP 2 rfl rfl dX2_put_79 ?_
  obtain ⟨u1007, e_u1007, hE⟩ := bd_some hE
  refine callWV (wsC := (wS cI cZ nN h hn u1006)) (w1 := (wS cI cZ nN h hn u1007)) (ws' := (wSD cI cZ nN h hn d ds u1007 st ch ya ow ca hu le)) (As := [.int (((v1 * (iI 10)) + (iI 4)) + (iI 3)), .int ca]) (rest := []) (ov := none) (st1 := []) (ci := 2) X (c2_setNumber (l := l) e_u1007) o2_setNumber tw364 ⟨rfl, rfl, Nat.le_of_ble_eq_true rfl, Nat.le_of_ble_eq_true rfl⟩ hP hK hD hS hA [0, 1] (by decide) rfl rfl rfl (wSD_fst.trans wSD_fst.symm) 0 rfl rfl rfl rfl hl rfl (by decide) ⟨Nat.le_refl _, Nat.le_refl _⟩ rfl dX2_put_82 (fun H locs hP hD hS => ?_)
  refine lv_aload_n X.1.1 X.1.2.1 dX2_put_85 rfl (lv_at hl 1 rfl) ?_
  refine lv_iload X.1.1 X.1.2.1 dX2_put_86 (lv_at hl 0 rfl) ?_
  refine lv_iconst (v := (iI 4)) X.1.1 X.1.2.1 dX2_put_88 rfl ?_
  refine lv_iadd X.1.1 X.1.2.1 dX2_put_89 ?_
  refine lv_aload_n X.1.1 X.1.2.1 dX2_put_90 rfl (lv_at hl 3 rfl) ?_
  refine gf2_38 X hK hP 2 rfl rfl dX2_put_91 ?_
  obtain ⟨u1008, e_u1008, hE⟩ := bd_some hE
  refine callRSN (wsC := []) (As := [.int hu]) (rest := [.int (((v1 * (iI 10)) + (iI 4)) + (iI 4)), .ref h]) (cI := cI) (cZ := cZ) X (c5_asNumber (l := l) (G := G) (cI := cI) (cZ := cZ) e_u1008) o5_asNumber nb21 ⟨rfl, rfl, Nat.le_of_ble_eq_true rfl, Nat.le_of_ble_eq_true rfl⟩ va_P_nil hK rfl hl rfl (Nat.le_of_ble_eq_true rfl) ⟨Nat.le_refl _, Nat.le_refl _⟩ dX2_put_94 ?_
  obtain ⟨u1009, e_u1009, hE⟩ := bd_some hE
  refine callWV (wsC := (wS cI cZ nN h hn u1007)) (w1 := (wS cI cZ nN h hn u1009)) (ws' := (wSD cI cZ nN h hn d ds u1009 st ch ya ow ca hu le)) (As := [.int (((v1 * (iI 10)) + (iI 4)) + (iI 4)), .int u1008]) (rest := []) (ov := none) (st1 := []) (ci := 2) X (c2_setNumber (l := l) e_u1009) o2_setNumber tw364 ⟨rfl, rfl, Nat.le_of_ble_eq_true rfl, Nat.le_of_ble_eq_true rfl⟩ hP hK hD hS hA [0, 1] (by decide) rfl rfl rfl (wSD_fst.trans wSD_fst.symm) 0 rfl rfl rfl rfl hl rfl (by decide) ⟨Nat.le_refl _, Nat.le_refl _⟩ rfl dX2_put_97 (fun H locs hP hD hS => ?_)
  refine lv_aload_n X.1.1 X.1.2.1 dX2_put_100 rfl (lv_at hl 1 rfl) ?_
  refine lv_iload X.1.1 X.1.2.1 dX2_put_101 (lv_at hl 0 rfl) ?_
  refine lv_iconst (v := (iI 5)) X.1.1 X.1.2.1 dX2_put_103 rfl ?_
  refine lv_iadd X.1.1 X.1.2.1 dX2_put_104 ?_
  refine lv_aload_n X.1.1 X.1.2.1 dX2_put_105 rfl (lv_at hl 3 rfl) ?_
  refine gf2_46 X hK hP 2 rfl rfl dX2_put_106 ?_
  obtain ⟨u1010, e_u1010, hE⟩ := bd_some hE
  refine callRSN (wsC := []) (As := [.int le]) (rest := [.int (((v1 * (iI 10)) + (iI 4)) + (iI 5)), .ref h]) (cI := cI) (cZ := cZ) X (c5_asNumber (l := l) (G := G) (cI := cI) (cZ := cZ) e_u1010) o5_asNumber nb21 ⟨rfl, rfl, Nat.le_of_ble_eq_true rfl, Nat.le_of_ble_eq_true rfl⟩ va_P_nil hK rfl hl rfl (Nat.le_of_ble_eq_true rfl) ⟨Nat.le_refl _, Nat.le_refl _⟩ dX2_put_109 ?_
  obtain ⟨u1011, e_u1011, hE⟩ := bd_some hE
  refine callWV (wsC := (wS cI cZ nN h hn u1009)) (w1 := (wS cI cZ nN h hn u1011)) (ws' := (wSD cI cZ nN h hn d ds u1011 st ch ya ow ca hu le)) (As := [.int (((v1 * (iI 10)) + (iI 4)) + (iI 5)), .int u1010]) (rest := []) (ov := none) (st1 := []) (ci := 2) X (c2_setNumber (l := l) e_u1011) o2_setNumber tw364 ⟨rfl, rfl, Nat.le_of_ble_eq_true rfl, Nat.le_of_ble_eq_true rfl⟩ hP hK hD hS hA [0, 1] (by decide) rfl rfl rfl (wSD_fst.trans wSD_fst.symm) 0 rfl rfl rfl rfl hl rfl (by decide) ⟨Nat.le_refl _, Nat.le_refl _⟩ rfl dX2_put_112 (fun H locs hP hD hS => ?_)
  cases hE
  exact retWV X hP hS dX2_put_115
theorem o2_take : oV yX2_take RX2 cX2_take 5 none 2 := ⟨tw434, tw432, tw433, tw43, ⟨by decide +kernel, by decide +kernel⟩, by decide +kernel⟩
abbrev rm2_take : Room := { frames := 1, cells := 0, slots := 0, locals := 22 }
set_option maxHeartbeats 4000000 in
set_option maxRecDepth 100000 in
theorem c2_take {l : Launch} {G : va_G} {cI cZ : ClassId} {h hn d ds nN : Nat} {nu : Nat → Int32} {st : Nat → Int32} {ch : Int32} {ya : Int32} {ow : Int32} {ca : Int32} {hu : Int32} {le : Int32} {v1 : Int32} {sz : Nat} {u : (Nat → Int32) × Int32 × Int32 × Int32 × Int32 × Int32 × Int32} (hE : f2_take nN v1 nu st = some u) : Met l yX2_take (Cond.code yX2_take cX2_take 5 none :: TB) rm2_take (PcW G cI cZ (wSD cI cZ nN h hn d ds nu st ch ya ow ca hu le) sz ([.ref h, .int v1, .ref d] : List Value)) (QW G none (wSD cI cZ nN h hn d ds nu u.1 u.2.1 u.2.2.1 u.2.2.2.1 u.2.2.2.2.1 u.2.2.2.2.2.1 u.2.2.2.2.2.2) (va_A (wSD cI cZ nN h hn d ds nu st ch ya ow ca hu le) sz)) 0 0 (va_A (wSD cI cZ nN h hn d ds nu st ch ya ow ca hu le) sz) := by
  refine metW (own := RX2) (by decide +kernel) rfl (Nat.le_of_ble_eq_true rfl) ?_
  intro p e s m below meth c ls A X hA hP hK hD hl
  have hS : va_S A s.heap s.heap [] := va_S.rf
  have hl : lv_has ls 5 [(0, .ref h), (1, .int v1), (2, .ref d)] := hl
  unfold f2_take at hE
  refine lv_iload_n X.1.1 X.1.2.1 dX2_take_0 rfl (lv_at hl 1 rfl) ?_
  refine lv_bipush (v := (iI 10)) X.1.1 X.1.2.1 dX2_take_1 (by decide) ?_
  refine lv_imul X.1.1 X.1.2.1 dX2_take_3 ?_
  refine lv_istore_n (lv' := [(3, .int (v1 * (iI 10))), (0, .ref h), (1, .int v1), (2, .ref d)]) X.1.1 X.1.2.1 dX2_take_4 rfl hl (by decide) rfl (fun ls hl => ?_)
  refine lv_iconst (v := (iI 0)) X.1.1 X.1.2.1 dX2_take_5 rfl ?_
  refine lv_istore (lv' := [(4, .int (iI 0)), (3, .int (v1 * (iI 10))), (0, .ref h), (1, .int v1), (2, .ref d)]) X.1.1 X.1.2.1 dX2_take_6 hl (by decide) rfl (fun ls hl => ?_)
  have lp8 : ∀ (k : Int32 → (Nat → Int32) → Option ((Nat → Int32) × Int32 × Int32 × Int32 × Int32 × Int32 × Int32)), (∀ (v4_1001 : Int32) (st_1001 : Nat → Int32) (H : Heap) (locs : List Loc) (ls : Array Slot), va_P G vwCl (wSD cI cZ nN h hn d ds nu st_1001 ch ya ow ca hu le) H → va_D A (wSD cI cZ nN h hn d ds nu st_1001 ch ya ow ca hu le) → va_S A s.heap H locs → lv_has ls 5 [(0, .ref h), (1, .int v1), (2, .ref d), (3, .int (v1 * (iI 10))), (4, .int v4_1001)] → k v4_1001 st_1001 = some u → W p l e rm2_take s m ([.ref h, .int v1, .ref d] : List Value).toArray below meth c H locs 0 0 (MQ below (QW G none (wSD cI cZ nN h hn d ds nu u.1 u.2.1 u.2.2.1 u.2.2.2.1 u.2.2.2.2.1 u.2.2.2.2.2.1 u.2.2.2.2.2.2) A) ([.ref h, .int v1, .ref d] : List Value).toArray s 0 0 A) (F0 m 34 ls [])) → ∀ (n : Nat) (v4_1001 : Int32) (st_1001 : Nat → Int32) (H : Heap) (locs : List Loc) (ls : Array Slot), va_P G vwCl (wSD cI cZ nN h hn d ds nu st_1001 ch ya ow ca hu le) H → va_D A (wSD cI cZ nN h hn d ds nu st_1001 ch ya ow ca hu le) → va_S A s.heap H locs → lv_has ls 5 [(0, .ref h), (1, .int v1), (2, .ref d), (3, .int (v1 * (iI 10))), (4, .int v4_1001)] → l2_take_8 k (v1 * (iI 10)) nu nN n v4_1001 st_1001 = some u → W p l e rm2_take s m ([.ref h, .int v1, .ref d] : List Value).toArray below meth c H locs 0 0 (MQ below (QW G none (wSD cI cZ nN h hn d ds nu u.1 u.2.1 u.2.2.1 u.2.2.2.1 u.2.2.2.2.1 u.2.2.2.2.2.1 u.2.2.2.2.2.2) A) ([.ref h, .int v1, .ref d] : List Value).toArray s 0 0 A) (F0 m 8 ls []) := by
    intro k hex n
    induction n with
    | zero =>
      intro v4_1001 st_1001 H locs ls hP hD hS hl hE
      exact absurd (show (none : Option ((Nat → Int32) × Int32 × Int32 × Int32 × Int32 × Int32 × Int32)) = some u from hE) (fun h => by cases h)
    | succ n ih =>
      intro v4_1001 st_1001 H locs ls hP hD hS hl hE
      rw [l2_take_8] at hE
      refine lv_iload X.1.1 X.1.2.1 dX2_take_8 (lv_at hl 4 rfl) ?_
      refine lv_iconst (v := (iI 4)) X.1.1 X.1.2.1 dX2_take_10 rfl ?_
      refine lv_icmp_ge (tgt := 34) X.1.1 X.1.2.1 dX2_take_11 (by decide) (fun c_11 => ?_) (fun c_11 => ?_)
      · have hE := ite_t hE c_11
        exact hex v4_1001 st_1001 H locs ls hP hD hS (lv_sub hl [0, 1, 2, 3, 4] rfl) hE
      · have hE := ite_f hE c_11
        refine lv_aload_n X.1.1 X.1.2.1 dX2_take_14 rfl (lv_at hl 2 rfl) ?_
        refine lv_iload X.1.1 X.1.2.1 dX2_take_15 (lv_at hl 4 rfl) ?_
        refine lv_aload_n X.1.1 X.1.2.1 dX2_take_17 rfl (lv_at hl 0 rfl) ?_
        refine lv_iload_n X.1.1 X.1.2.1 dX2_take_18 rfl (lv_at hl 3 rfl) ?_
        refine lv_iload X.1.1 X.1.2.1 dX2_take_19 (lv_at hl 4 rfl) ?_
        refine lv_iadd X.1.1 X.1.2.1 dX2_take_21 ?_
        obtain ⟨u1002, e_u1002, hE⟩ := bd_some hE
        refine callRV (wsC := (wS cI cZ nN h hn nu)) (As := [.int ((v1 * (iI 10)) + v4_1001)]) (rest := [.int v4_1001, .ref d]) (ci := 2) X (c2_numberAt (l := l) e_u1002) o2_numberAt tw435 ⟨rfl, rfl, Nat.le_of_ble_eq_true rfl, Nat.le_of_ble_eq_true rfl⟩ (hP.sub [0, 1] rfl) hK 0 rfl rfl rfl rfl hl rfl (Nat.le_of_ble_eq_true rfl) ⟨Nat.le_refl _, Nat.le_refl _⟩ dX2_take_22 ?_
        obtain ⟨u1003, e_u1003, hE⟩ := bd_some hE
        refine callWV (wsC := (wD cI cZ d ds st_1001 ch ya ow ca hu le)) (w1 := (wD cI cZ d ds u1003 ch ya ow ca hu le)) (ws' := (wSD cI cZ nN h hn d ds nu u1003 ch ya ow ca hu le)) (As := [.int v4_1001, .int u1002]) (rest := []) (ov := none) (st1 := []) (ci := 0) X (c0_setStrength (l := l) e_u1003) o0_setStrength tw439 ⟨rfl, rfl, Nat.le_of_ble_eq_true rfl, Nat.le_of_ble_eq_true rfl⟩ hP hK hD hS hA [2, 3] (by decide) rfl rfl rfl (wSD_fst.trans wSD_fst.symm) 2 rfl rfl rfl rfl hl rfl (by decide) ⟨Nat.le_refl _, Nat.le_refl _⟩ rfl dX2_take_25 (fun H locs hP hD hS => ?_)
        refine lv_iinc (v := (v4_1001 + (iI 1))) (lv' := [(4, .int (v4_1001 + (iI 1))), (0, .ref h), (1, .int v1), (2, .ref d), (3, .int (v1 * (iI 10)))]) X.1.1 X.1.2.1 dX2_take_28 hl (k := 4) rfl rfl (by decide) rfl (fun ls hl => ?_)
        refine lv_goto (tgt := 8) X.1.1 X.1.2.1 dX2_take_31 (by decide) ?_
        exact ih (v4_1001 + (iI 1)) u1003 H locs ls hP hD hS (lv_sub hl [1, 2, 3, 4, 0] rfl) hE
  refine lp8 _ (fun v4_1001 st_1001 H locs ls hP hD hS hl hE => ?_) FU (iI 0) st _ _ ls hP hD hS (lv_sub hl [2, 3, 4, 1, 0] rfl) hE
  refine lv_iload_n X.1.1 X.1.2.1 dX2_take_34 rfl (lv_at hl 3 rfl) ?_
  refine lv_iconst (v := (iI 4)) X.1.1 X.1.2.1 dX2_take_35 rfl ?_
  refine lv_iadd X.1.1 X.1.2.1 dX2_take_36 ?_
  refine lv_istore (lv' := [(4, .int ((v1 * (iI 10)) + (iI 4))), (0, .ref h), (1, .int v1), (2, .ref d), (3, .int (v1 * (iI 10)))]) X.1.1 X.1.2.1 dX2_take_37 hl (by decide) rfl (fun ls hl => ?_)
  refine lv_aload_n X.1.1 X.1.2.1 dX2_take_39 rfl (lv_at hl 3 rfl) ?_
  refine lv_aload_n X.1.1 X.1.2.1 dX2_take_40 rfl (lv_at hl 1 rfl) ?_
  refine lv_iload X.1.1 X.1.2.1 dX2_take_41 (lv_at hl 0 rfl) ?_
  obtain ⟨u1004, e_u1004, hE⟩ := bd_some hE
  refine callRV (wsC := (wS cI cZ nN h hn nu)) (As := [.int ((v1 * (iI 10)) + (iI 4))]) (rest := [.ref d]) (ci := 2) X (c2_numberAt (l := l) e_u1004) o2_numberAt tw435 ⟨rfl, rfl, Nat.le_of_ble_eq_true rfl, Nat.le_of_ble_eq_true rfl⟩ (hP.sub [0, 1] rfl) hK 0 rfl rfl rfl rfl hl rfl (Nat.le_of_ble_eq_true rfl) ⟨Nat.le_refl _, Nat.le_refl _⟩ dX2_take_43 ?_
  refine pf2_25 (ws2 := (wSD cI cZ nN h hn d ds nu st_1001 u1004 ya ow ca hu le)) X hK hP hD hS 2 rfl (Nat.le_of_ble_eq_true rfl) rfl dX2_take_46 (fun H locs hP hD hS => ?_)
  refine lv_aload_n X.1.1 X.1.2.1 dX2_take_49 rfl (lv_at hl 3 rfl) ?_
  refine lv_aload_n X.1.1 X.1.2.1 dX2_take_50 rfl (lv_at hl 1 rfl) ?_
  refine lv_iload X.1.1 X.1.2.1 dX2_take_51 (lv_at hl 0 rfl) ?_
  refine lv_iconst (v := (iI 1)) X.1.1 X.1.2.1 dX2_take_53 rfl ?_
  refine lv_iadd X.1.1 X.1.2.1 dX2_take_54 ?_
  obtain ⟨u1005, e_u1005, hE⟩ := bd_some hE
  refine callRV (wsC := (wS cI cZ nN h hn nu)) (As := [.int (((v1 * (iI 10)) + (iI 4)) + (iI 1))]) (rest := [.ref d]) (ci := 2) X (c2_numberAt (l := l) e_u1005) o2_numberAt tw435 ⟨rfl, rfl, Nat.le_of_ble_eq_true rfl, Nat.le_of_ble_eq_true rfl⟩ (hP.sub [0, 1] rfl) hK 0 rfl rfl rfl rfl hl rfl (Nat.le_of_ble_eq_true rfl) ⟨Nat.le_refl _, Nat.le_refl _⟩ dX2_take_55 ?_
  refine pf2_29 (ws2 := (wSD cI cZ nN h hn d ds nu st_1001 u1004 u1005 ow ca hu le)) X hK hP hD hS 2 rfl (Nat.le_of_ble_eq_true rfl) rfl dX2_take_58 (fun H locs hP hD hS => ?_)
  refine lv_aload_n X.1.1 X.1.2.1 dX2_take_61 rfl (lv_at hl 3 rfl) ?_
  refine lv_aload_n X.1.1 X.1.2.1 dX2_take_62 rfl (lv_at hl 1 rfl) ?_
  refine lv_iload X.1.1 X.1.2.1 dX2_take_63 (lv_at hl 0 rfl) ?_
  refine lv_iconst (v := (iI 2)) X.1.1 X.1.2.1 dX2_take_65 rfl ?_
  refine lv_iadd X.1.1 X.1.2.1 dX2_take_66 ?_
  obtain ⟨u1006, e_u1006, hE⟩ := bd_some hE
  refine callRV (wsC := (wS cI cZ nN h hn nu)) (As := [.int (((v1 * (iI 10)) + (iI 4)) + (iI 2))]) (rest := [.ref d]) (ci := 2) X (c2_numberAt (l := l) e_u1006) o2_numberAt tw435 ⟨rfl, rfl, Nat.le_of_ble_eq_true rfl, Nat.le_of_ble_eq_true rfl⟩ (hP.sub [0, 1] rfl) hK 0 rfl rfl rfl rfl hl rfl (Nat.le_of_ble_eq_true rfl) ⟨Nat.le_refl _, Nat.le_refl _⟩ dX2_take_67 ?_
  refine pf2_32 (ws2 := (wSD cI cZ nN h hn d ds nu st_1001 u1004 u1005 u1006 ca hu le)) X hK hP hD hS 2 rfl (Nat.le_of_ble_eq_true rfl) rfl dX2_take_70 (fun H locs hP hD hS => ?_)
  refine lv_aload_n X.1.1 X.1.2.1 dX2_take_73 rfl (lv_at hl 3 rfl) ?_
  refine lv_aload_n X.1.1 X.1.2.1 dX2_take_74 rfl (lv_at hl 1 rfl) ?_
  refine lv_iload X.1.1 X.1.2.1 dX2_take_75 (lv_at hl 0 rfl) ?_
  refine lv_iconst (v := (iI 3)) X.1.1 X.1.2.1 dX2_take_77 rfl ?_
  refine lv_iadd X.1.1 X.1.2.1 dX2_take_78 ?_
  obtain ⟨u1007, e_u1007, hE⟩ := bd_some hE
  refine callRV (wsC := (wS cI cZ nN h hn nu)) (As := [.int (((v1 * (iI 10)) + (iI 4)) + (iI 3))]) (rest := [.ref d]) (ci := 2) X (c2_numberAt (l := l) e_u1007) o2_numberAt tw435 ⟨rfl, rfl, Nat.le_of_ble_eq_true rfl, Nat.le_of_ble_eq_true rfl⟩ (hP.sub [0, 1] rfl) hK 0 rfl rfl rfl rfl hl rfl (Nat.le_of_ble_eq_true rfl) ⟨Nat.le_refl _, Nat.le_refl _⟩ dX2_take_79 ?_
  refine pf2_35 (ws2 := (wSD cI cZ nN h hn d ds nu st_1001 u1004 u1005 u1006 u1007 hu le)) X hK hP hD hS 2 rfl (Nat.le_of_ble_eq_true rfl) rfl dX2_take_82 (fun H locs hP hD hS => ?_)
  refine lv_aload_n X.1.1 X.1.2.1 dX2_take_85 rfl (lv_at hl 3 rfl) ?_
  refine lv_aload_n X.1.1 X.1.2.1 dX2_take_86 rfl (lv_at hl 1 rfl) ?_
  refine lv_iload X.1.1 X.1.2.1 dX2_take_87 (lv_at hl 0 rfl) ?_
  refine lv_iconst (v := (iI 4)) X.1.1 X.1.2.1 dX2_take_89 rfl ?_
  refine lv_iadd X.1.1 X.1.2.1 dX2_take_90 ?_
  obtain ⟨u1008, e_u1008, hE⟩ := bd_some hE
  refine callRV (wsC := (wS cI cZ nN h hn nu)) (As := [.int (((v1 * (iI 10)) + (iI 4)) + (iI 4))]) (rest := [.ref d]) (ci := 2) X (c2_numberAt (l := l) e_u1008) o2_numberAt tw435 ⟨rfl, rfl, Nat.le_of_ble_eq_true rfl, Nat.le_of_ble_eq_true rfl⟩ (hP.sub [0, 1] rfl) hK 0 rfl rfl rfl rfl hl rfl (Nat.le_of_ble_eq_true rfl) ⟨Nat.le_refl _, Nat.le_refl _⟩ dX2_take_91 ?_
  refine lv_iconst (v := (iI 1)) X.1.1 X.1.2.1 dX2_take_94 rfl ?_
  refine lv_icmp_ne (tgt := 102) X.1.1 X.1.2.1 dX2_take_95 (by decide) (fun c_95 => ?_) (fun c_95 => ?_)
  · have hE := ite_f hE c_95
    refine lv_iconst (v := (iI 0)) X.1.1 X.1.2.1 dX2_take_102 rfl ?_
    refine pf2_38 (ws2 := (wSD cI cZ nN h hn d ds nu st_1001 u1004 u1005 u1006 u1007 (iI 0) le)) X hK hP hD hS 2 rfl okB_0 (Nat.le_of_ble_eq_true rfl) rfl dX2_take_103 (fun H locs hP hD hS => ?_)
    refine lv_aload_n X.1.1 X.1.2.1 dX2_take_106 rfl (lv_at hl 3 rfl) ?_
    refine lv_aload_n X.1.1 X.1.2.1 dX2_take_107 rfl (lv_at hl 1 rfl) ?_
    refine lv_iload X.1.1 X.1.2.1 dX2_take_108 (lv_at hl 0 rfl) ?_
    refine lv_iconst (v := (iI 5)) X.1.1 X.1.2.1 dX2_take_110 rfl ?_
    refine lv_iadd X.1.1 X.1.2.1 dX2_take_111 ?_
    obtain ⟨u1009, e_u1009, hE⟩ := bd_some hE
    refine callRV (wsC := (wS cI cZ nN h hn nu)) (As := [.int (((v1 * (iI 10)) + (iI 4)) + (iI 5))]) (rest := [.ref d]) (ci := 2) X (c2_numberAt (l := l) e_u1009) o2_numberAt tw435 ⟨rfl, rfl, Nat.le_of_ble_eq_true rfl, Nat.le_of_ble_eq_true rfl⟩ (hP.sub [0, 1] rfl) hK 0 rfl rfl rfl rfl hl rfl (Nat.le_of_ble_eq_true rfl) ⟨Nat.le_refl _, Nat.le_refl _⟩ dX2_take_112 ?_
    refine lv_iconst (v := (iI 1)) X.1.1 X.1.2.1 dX2_take_115 rfl ?_
    refine lv_icmp_ne (tgt := 123) X.1.1 X.1.2.1 dX2_take_116 (by decide) (fun c_116 => ?_) (fun c_116 => ?_)
    · have hE := ite_f hE c_116
      refine lv_iconst (v := (iI 0)) X.1.1 X.1.2.1 dX2_take_123 rfl ?_
      refine pf2_46 (ws2 := (wSD cI cZ nN h hn d ds nu st_1001 u1004 u1005 u1006 u1007 (iI 0) (iI 0))) X hK hP hD hS 2 rfl okB_0 (Nat.le_of_ble_eq_true rfl) rfl dX2_take_124 (fun H locs hP hD hS => ?_)
      cases hE
      exact retWV X hP hS dX2_take_127
    · have hE := ite_t hE c_116
      refine lv_iconst (v := (iI 1)) X.1.1 X.1.2.1 dX2_take_119 rfl ?_
      refine lv_goto (tgt := 124) X.1.1 X.1.2.1 dX2_take_120 (by decide) ?_
      refine pf2_46 (ws2 := (wSD cI cZ nN h hn d ds nu st_1001 u1004 u1005 u1006 u1007 (iI 0) (iI 1))) X hK hP hD hS 2 rfl okB_1 (Nat.le_of_ble_eq_true rfl) rfl dX2_take_124 (fun H locs hP hD hS => ?_)
      cases hE
      exact retWV X hP hS dX2_take_127
  · have hE := ite_t hE c_95
    refine lv_iconst (v := (iI 1)) X.1.1 X.1.2.1 dX2_take_98 rfl ?_
    refine lv_goto (tgt := 103) X.1.1 X.1.2.1 dX2_take_99 (by decide) ?_
    refine pf2_38 (ws2 := (wSD cI cZ nN h hn d ds nu st_1001 u1004 u1005 u1006 u1007 (iI 1) le)) X hK hP hD hS 2 rfl okB_1 (Nat.le_of_ble_eq_true rfl) rfl dX2_take_103 (fun H locs hP hD hS => ?_)
    refine lv_aload_n X.1.1 X.1.2.1 dX2_take_106 rfl (lv_at hl 3 rfl) ?_
    refine lv_aload_n X.1.1 X.1.2.1 dX2_take_107 rfl (lv_at hl 1 rfl) ?_
    refine lv_iload X.1.1 X.1.2.1 dX2_take_108 (lv_at hl 0 rfl) ?_
    refine lv_iconst (v := (iI 5)) X.1.1 X.1.2.1 dX2_take_110 rfl ?_
    refine lv_iadd X.1.1 X.1.2.1 dX2_take_111 ?_
    obtain ⟨u1010, e_u1010, hE⟩ := bd_some hE
    refine callRV (wsC := (wS cI cZ nN h hn nu)) (As := [.int (((v1 * (iI 10)) + (iI 4)) + (iI 5))]) (rest := [.ref d]) (ci := 2) X (c2_numberAt (l := l) e_u1010) o2_numberAt tw435 ⟨rfl, rfl, Nat.le_of_ble_eq_true rfl, Nat.le_of_ble_eq_true rfl⟩ (hP.sub [0, 1] rfl) hK 0 rfl rfl rfl rfl hl rfl (Nat.le_of_ble_eq_true rfl) ⟨Nat.le_refl _, Nat.le_refl _⟩ dX2_take_112 ?_
    refine lv_iconst (v := (iI 1)) X.1.1 X.1.2.1 dX2_take_115 rfl ?_
    refine lv_icmp_ne (tgt := 123) X.1.1 X.1.2.1 dX2_take_116 (by decide) (fun c_116 => ?_) (fun c_116 => ?_)
    · have hE := ite_f hE c_116
      refine lv_iconst (v := (iI 0)) X.1.1 X.1.2.1 dX2_take_123 rfl ?_
      refine pf2_46 (ws2 := (wSD cI cZ nN h hn d ds nu st_1001 u1004 u1005 u1006 u1007 (iI 1) (iI 0))) X hK hP hD hS 2 rfl okB_0 (Nat.le_of_ble_eq_true rfl) rfl dX2_take_124 (fun H locs hP hD hS => ?_)
      cases hE
      exact retWV X hP hS dX2_take_127
    · have hE := ite_t hE c_116
      refine lv_iconst (v := (iI 1)) X.1.1 X.1.2.1 dX2_take_119 rfl ?_
      refine lv_goto (tgt := 124) X.1.1 X.1.2.1 dX2_take_120 (by decide) ?_
      refine pf2_46 (ws2 := (wSD cI cZ nN h hn d ds nu st_1001 u1004 u1005 u1006 u1007 (iI 1) (iI 1))) X hK hP hD hS 2 rfl okB_1 (Nat.le_of_ble_eq_true rfl) rfl dX2_take_124 (fun H locs hP hD hS => ?_)
      cases hE
      exact retWV X hP hS dX2_take_127
theorem o2_dropFirst : oV yX2_dropFirst RX2 cX2_dropFirst 2 none 0 := ⟨tw363, tw361, tw362, tw43, ⟨by decide +kernel, by decide +kernel⟩, by decide +kernel⟩
abbrev rm2_dropFirst : Room := { frames := 1, cells := 0, slots := 0, locals := 22 }
set_option maxHeartbeats 4000000 in
set_option maxRecDepth 100000 in
theorem c2_dropFirst {l : Launch} {G : va_G} {cI cZ : ClassId} {h hn nN : Nat} {nu : Nat → Int32} {sz : Nat} {u : (Nat → Int32)} (hE : f2_dropFirst nN nu = some u) : Met l yX2_dropFirst (Cond.code yX2_dropFirst cX2_dropFirst 2 none :: TB) rm2_dropFirst (PcW G cI cZ (wS cI cZ nN h hn nu) sz ([.ref h] : List Value)) (QW G none (wS cI cZ nN h hn u) (va_A (wS cI cZ nN h hn nu) sz)) 0 0 (va_A (wS cI cZ nN h hn nu) sz) := by
  refine metW (own := RX2) (by decide +kernel) rfl (Nat.le_of_ble_eq_true rfl) ?_
  intro p e s m below meth c ls A X hA hP hK hD hl
  have hS : va_S A s.heap s.heap [] := va_S.rf
  have hl : lv_has ls 2 [(0, .ref h)] := hl
  unfold f2_dropFirst at hE
  refine lv_bipush (v := (iI 10)) X.1.1 X.1.2.1 dX2_dropFirst_0 (by decide) ?_
  refine lv_istore_n (lv' := [(1, .int (iI 10)), (0, .ref h)]) X.1.1 X.1.2.1 dX2_dropFirst_2 rfl hl (by decide) rfl (fun ls hl => ?_)
  have lp3 : ∀ (k : Int32 → (Nat → Int32) → Option (Nat → Int32)), (∀ (v1_1001 : Int32) (nu_1001 : Nat → Int32) (H : Heap) (locs : List Loc) (ls : Array Slot), va_P G vwCl (wS cI cZ nN h hn nu_1001) H → va_D A (wS cI cZ nN h hn nu_1001) → va_S A s.heap H locs → lv_has ls 2 [(0, .ref h), (1, .int v1_1001)] → k v1_1001 nu_1001 = some u → W p l e rm2_dropFirst s m ([.ref h] : List Value).toArray below meth c H locs 0 0 (MQ below (QW G none (wS cI cZ nN h hn u) A) ([.ref h] : List Value).toArray s 0 0 A) (F0 m 32 ls [])) → ∀ (n : Nat) (v1_1001 : Int32) (nu_1001 : Nat → Int32) (H : Heap) (locs : List Loc) (ls : Array Slot), va_P G vwCl (wS cI cZ nN h hn nu_1001) H → va_D A (wS cI cZ nN h hn nu_1001) → va_S A s.heap H locs → lv_has ls 2 [(0, .ref h), (1, .int v1_1001)] → l2_dropFirst_3 k nN n v1_1001 nu_1001 = some u → W p l e rm2_dropFirst s m ([.ref h] : List Value).toArray below meth c H locs 0 0 (MQ below (QW G none (wS cI cZ nN h hn u) A) ([.ref h] : List Value).toArray s 0 0 A) (F0 m 3 ls []) := by
    intro k hex n
    induction n with
    | zero =>
      intro v1_1001 nu_1001 H locs ls hP hD hS hl hE
      exact absurd (show (none : Option (Nat → Int32)) = some u from hE) (fun h => by cases h)
    | succ n ih =>
      intro v1_1001 nu_1001 H locs ls hP hD hS hl hE
      rw [l2_dropFirst_3] at hE
      refine lv_iload_n X.1.1 X.1.2.1 dX2_dropFirst_3 rfl (lv_at hl 1 rfl) ?_
      refine lv_aload_n X.1.1 X.1.2.1 dX2_dropFirst_4 rfl (lv_at hl 0 rfl) ?_
      refine gf2_11 X hK hP 0 rfl rfl dX2_dropFirst_5 ?_
      refine va_alen (v := (Int32.ofNat nN)) X.1.1 X.1.2.1 hK hP 1 0 rfl rfl rfl dX2_dropFirst_8 ?_
      refine lv_icmp_ge (tgt := 32) X.1.1 X.1.2.1 dX2_dropFirst_9 (by decide) (fun c_9 => ?_) (fun c_9 => ?_)
      · have hE := ite_t hE c_9
        exact hex v1_1001 nu_1001 H locs ls hP hD hS (lv_sub hl [0, 1] rfl) hE
      · have hE := ite_f hE c_9
        refine lv_aload_n X.1.1 X.1.2.1 dX2_dropFirst_12 rfl (lv_at hl 0 rfl) ?_
        refine lv_iload_n X.1.1 X.1.2.1 dX2_dropFirst_13 rfl (lv_at hl 1 rfl) ?_
        refine lv_bipush (v := (iI 10)) X.1.1 X.1.2.1 dX2_dropFirst_14 (by decide) ?_
        refine lv_isub X.1.1 X.1.2.1 dX2_dropFirst_16 ?_
        refine lv_aload_n X.1.1 X.1.2.1 dX2_dropFirst_17 rfl (lv_at hl 0 rfl) ?_
        refine gf2_11 X hK hP 0 rfl rfl dX2_dropFirst_18 ?_
        refine lv_iload_n X.1.1 X.1.2.1 dX2_dropFirst_21 rfl (lv_at hl 1 rfl) ?_
        obtain ⟨i_22, hE⟩ := ib_some hE
        refine va_iald X.1.1 X.1.2.1 hK hP 1 0 rfl rfl i_22 dX2_dropFirst_22 ?_
        obtain ⟨u1002, e_u1002, hE⟩ := bd_some hE
        refine callWF (ws := (wS cI cZ nN h hn nu_1001)) (ws' := (wS cI cZ nN h hn u1002)) (As := [.int (v1_1001 - (iI 10)), .int (nu_1001 v1_1001.toNatClampNeg)]) (rest := []) (ov := none) (st1 := []) (ci := 2) X (c2_setNumber (l := l) e_u1002) o2_setNumber tw364 ⟨rfl, rfl, Nat.le_of_ble_eq_true rfl, Nat.le_of_ble_eq_true rfl⟩ hP hK hD hS hA (wS_fst.trans wS_fst.symm) 0 rfl rfl rfl rfl hl rfl (by decide) ⟨Nat.le_refl _, Nat.le_refl _⟩ rfl dX2_dropFirst_23 (fun H locs hP hD hS => ?_)
        refine lv_iinc (v := (v1_1001 + (iI 1))) (lv' := [(1, .int (v1_1001 + (iI 1))), (0, .ref h)]) X.1.1 X.1.2.1 dX2_dropFirst_26 hl (k := 1) rfl rfl (by decide) rfl (fun ls hl => ?_)
        refine lv_goto (tgt := 3) X.1.1 X.1.2.1 dX2_dropFirst_29 (by decide) ?_
        exact ih (v1_1001 + (iI 1)) u1002 H locs ls hP hD hS (lv_sub hl [1, 0] rfl) hE
  refine lp3 _ (fun v1_1001 nu_1001 H locs ls hP hD hS hl hE => ?_) FU (iI 10) nu _ _ ls hP hD hS (lv_sub hl [1, 0] rfl) hE
  cases hE
  exact retWV X hP hS dX2_dropFirst_32
theorem o3_isFull : oV yX3_isFull RX3 cX3_isFull 1 (some .boolean) 0 := ⟨tw491, tw489, tw490, tw44, ⟨by decide +kernel, by decide +kernel⟩, by decide +kernel⟩
abbrev rm3_isFull : Room := { frames := 0, cells := 0, slots := 0, locals := 0 }
set_option maxHeartbeats 4000000 in
set_option maxRecDepth 100000 in
theorem c3_isFull {l : Launch} {G : va_G} {cI cZ : ClassId} {h ho hf hc : Nat} {so : Nat → Int32} {sf : Nat → Int32} {sc : Nat → Int32} {ss : Int32} {u : Int32} (hE : f3_isFull ss = some u) : Met l yX3_isFull (Cond.code yX3_isFull cX3_isFull 1 (some .boolean) :: TB) rm3_isFull (PcR G cI cZ (wG cI cZ h ho hf hc so sf sc ss) ([.ref h] : List Value)) (QcRead u) 0 0 (fun _ => False) := by
  refine metR (own := RX3) (by decide +kernel) rfl (Nat.le_of_ble_eq_true rfl) ?_
  intro p e s m below meth c ls X hP hK hl
  have hl : lv_has ls 1 [(0, .ref h)] := hl
  unfold f3_isFull at hE
  refine lv_aload_n X.1.1 X.1.2.1 dX3_isFull_0 rfl (lv_at hl 0 rfl) ?_
  refine gf3_22 X hK hP 0 rfl rfl dX3_isFull_1 ?_
  refine lv_aload_n X.1.1 X.1.2.1 dX3_isFull_4 rfl (lv_at hl 0 rfl) ?_
  refine gf3_9 X hK hP 0 rfl rfl dX3_isFull_5 ?_
  refine va_alen (v := (Int32.ofNat 6)) X.1.1 X.1.2.1 hK hP 1 0 rfl rfl rfl dX3_isFull_8 ?_
  refine lv_icmp_lt (tgt := 16) X.1.1 X.1.2.1 dX3_isFull_9 (by decide) (fun c_9 => ?_) (fun c_9 => ?_)
  · have hE := ite_t hE c_9
    refine lv_iconst (v := (iI 0)) X.1.1 X.1.2.1 dX3_isFull_16 rfl ?_
    cases hE
    exact retRZ X okB_0 dX3_isFull_17
  · have hE := ite_f hE c_9
    refine lv_iconst (v := (iI 1)) X.1.1 X.1.2.1 dX3_isFull_12 rfl ?_
    refine lv_goto (tgt := 17) X.1.1 X.1.2.1 dX3_isFull_13 (by decide) ?_
    cases hE
    exact retRZ X okB_1 dX3_isFull_17
theorem o3_holds : oV yX3_holds RX3 cX3_holds 2 (some .boolean) 1 := ⟨tw499, tw498, tw9, tw44, ⟨by decide +kernel, by decide +kernel⟩, by decide +kernel⟩
abbrev rm3_holds : Room := { frames := 0, cells := 0, slots := 0, locals := 0 }
set_option maxHeartbeats 4000000 in
set_option maxRecDepth 100000 in
theorem c3_holds {l : Launch} {G : va_G} {cI cZ : ClassId} {h ho hf hc : Nat} {so : Nat → Int32} {sf : Nat → Int32} {sc : Nat → Int32} {ss : Int32} {v1 : Int32} {u : Int32} (hE : f3_holds v1 = some u) : Met l yX3_holds (Cond.code yX3_holds cX3_holds 2 (some .boolean) :: TB) rm3_holds (PcR G cI cZ (wG cI cZ h ho hf hc so sf sc ss) ([.ref h, .int v1] : List Value)) (QcRead u) 0 0 (fun _ => False) := by
  refine metR (own := RX3) (by decide +kernel) rfl (Nat.le_of_ble_eq_true rfl) ?_
  intro p e s m below meth c ls X hP hK hl
  have hl : lv_has ls 2 [(0, .ref h), (1, .int v1)] := hl
  unfold f3_holds at hE
  refine lv_iload_n X.1.1 X.1.2.1 dX3_holds_0 rfl (lv_at hl 1 rfl) ?_
  refine lv_if_lt (tgt := 35) X.1.1 X.1.2.1 dX3_holds_1 (by decide) (fun c_1 => ?_) (fun c_1 => ?_)
  · have hE := ite_t hE c_1
    refine lv_iconst (v := (iI 0)) X.1.1 X.1.2.1 dX3_holds_35 rfl ?_
    cases hE
    exact retRZ X okB_0 dX3_holds_36
  · have hE := ite_f hE c_1
    refine lv_iload_n X.1.1 X.1.2.1 dX3_holds_4 rfl (lv_at hl 1 rfl) ?_
    refine lv_aload_n X.1.1 X.1.2.1 dX3_holds_5 rfl (lv_at hl 0 rfl) ?_
    refine gf3_9 X hK hP 0 rfl rfl dX3_holds_6 ?_
    refine va_alen (v := (Int32.ofNat 6)) X.1.1 X.1.2.1 hK hP 1 0 rfl rfl rfl dX3_holds_9 ?_
    refine lv_icmp_ge (tgt := 35) X.1.1 X.1.2.1 dX3_holds_10 (by decide) (fun c_10 => ?_) (fun c_10 => ?_)
    · have hE := ite_t hE c_10
      refine lv_iconst (v := (iI 0)) X.1.1 X.1.2.1 dX3_holds_35 rfl ?_
      cases hE
      exact retRZ X okB_0 dX3_holds_36
    · have hE := ite_f hE c_10
      refine lv_iload_n X.1.1 X.1.2.1 dX3_holds_13 rfl (lv_at hl 1 rfl) ?_
      refine lv_aload_n X.1.1 X.1.2.1 dX3_holds_14 rfl (lv_at hl 0 rfl) ?_
      refine gf3_15 X hK hP 0 rfl rfl dX3_holds_15 ?_
      refine va_alen (v := (Int32.ofNat 6)) X.1.1 X.1.2.1 hK hP 2 0 rfl rfl rfl dX3_holds_18 ?_
      refine lv_icmp_ge (tgt := 35) X.1.1 X.1.2.1 dX3_holds_19 (by decide) (fun c_19 => ?_) (fun c_19 => ?_)
      · have hE := ite_t hE c_19
        refine lv_iconst (v := (iI 0)) X.1.1 X.1.2.1 dX3_holds_35 rfl ?_
        cases hE
        exact retRZ X okB_0 dX3_holds_36
      · have hE := ite_f hE c_19
        refine lv_iload_n X.1.1 X.1.2.1 dX3_holds_22 rfl (lv_at hl 1 rfl) ?_
        refine lv_aload_n X.1.1 X.1.2.1 dX3_holds_23 rfl (lv_at hl 0 rfl) ?_
        refine gf3_18 X hK hP 0 rfl rfl dX3_holds_24 ?_
        refine va_alen (v := (Int32.ofNat 6)) X.1.1 X.1.2.1 hK hP 3 1 rfl rfl rfl dX3_holds_27 ?_
        refine lv_icmp_ge (tgt := 35) X.1.1 X.1.2.1 dX3_holds_28 (by decide) (fun c_28 => ?_) (fun c_28 => ?_)
        · have hE := ite_t hE c_28
          refine lv_iconst (v := (iI 0)) X.1.1 X.1.2.1 dX3_holds_35 rfl ?_
          cases hE
          exact retRZ X okB_0 dX3_holds_36
        · have hE := ite_f hE c_28
          refine lv_iconst (v := (iI 1)) X.1.1 X.1.2.1 dX3_holds_31 rfl ?_
          refine lv_goto (tgt := 36) X.1.1 X.1.2.1 dX3_holds_32 (by decide) ?_
          cases hE
          exact retRZ X okB_1 dX3_holds_36
theorem o3_add : oV yX3_add RX3 cX3_add 4 none 3 := ⟨tw495, tw493, tw494, tw44, ⟨by decide +kernel, by decide +kernel⟩, by decide +kernel⟩
abbrev rm3_add : Room := { frames := 1, cells := 0, slots := 0, locals := 21 }
set_option maxHeartbeats 4000000 in
set_option maxRecDepth 100000 in
theorem c3_add {l : Launch} {G : va_G} {cI cZ : ClassId} {h ho hf hc : Nat} {so : Nat → Int32} {sf : Nat → Int32} {sc : Nat → Int32} {ss : Int32} {v1 : Int32} {v2 : Int32} {v3 : Int32} {sz : Nat} {u : (Nat → Int32) × (Nat → Int32) × (Nat → Int32) × Int32} (hE : f3_add v1 v2 v3 so sf sc ss = some u) : Met l yX3_add (Cond.code yX3_add cX3_add 4 none :: TB) rm3_add (PcW G cI cZ (wG cI cZ h ho hf hc so sf sc ss) sz ([.ref h, .int v1, .int v2, .int v3] : List Value)) (QW G none (wG cI cZ h ho hf hc u.1 u.2.1 u.2.2.1 u.2.2.2) (va_A (wG cI cZ h ho hf hc so sf sc ss) sz)) 0 0 (va_A (wG cI cZ h ho hf hc so sf sc ss) sz) := by
  refine metW (own := RX3) (by decide +kernel) rfl (Nat.le_of_ble_eq_true rfl) ?_
  intro p e s m below meth c ls A X hA hP hK hD hl
  have hS : va_S A s.heap s.heap [] := va_S.rf
  have hl : lv_has ls 4 [(0, .ref h), (1, .int v1), (2, .int v2), (3, .int v3)] := hl
  unfold f3_add at hE
  refine lv_aload_n X.1.1 X.1.2.1 dX3_add_0 rfl (lv_at hl 0 rfl) ?_
  refine lv_aload_n X.1.1 X.1.2.1 dX3_add_1 rfl (lv_at hl 0 rfl) ?_
  refine gf3_22 X hK hP 0 rfl rfl dX3_add_2 ?_
  obtain ⟨u1001, e_u1001, hE⟩ := bd_some hE
  refine callRV (wsC := (wG cI cZ h ho hf hc so sf sc ss)) (As := [.int ss]) (rest := []) (ci := 3) X (c3_holds (l := l) e_u1001) o3_holds tw496 ⟨rfl, rfl, Nat.le_of_ble_eq_true rfl, Nat.le_of_ble_eq_true rfl⟩ hP hK 0 rfl rfl rfl rfl hl rfl (by decide) ⟨Nat.le_refl _, Nat.le_refl _⟩ dX3_add_5 ?_
  refine lv_if_ne (tgt := 12) X.1.1 X.1.2.1 dX3_add_8 (by decide) (fun c_8 => ?_) (fun c_8 => ?_)
  · have hE := ite_f hE c_8
    refine lv_aload_n X.1.1 X.1.2.1 dX3_add_12 rfl (lv_at hl 0 rfl) ?_
    refine gf3_9 X hK hP 0 rfl rfl dX3_add_13 ?_
    refine lv_aload_n X.1.1 X.1.2.1 dX3_add_16 rfl (lv_at hl 0 rfl) ?_
    refine gf3_22 X hK hP 0 rfl rfl dX3_add_17 ?_
    refine lv_iload_n X.1.1 X.1.2.1 dX3_add_20 rfl (lv_at hl 1 rfl) ?_
    obtain ⟨i_21, hE⟩ := ib_some hE
    refine astI (t0 := 0) (ws' := (wG cI cZ h ho hf hc (upd so ss.toNatClampNeg v1) sf sc ss)) X hK hP hD hS 1 0 rfl rfl i_21 rfl dX3_add_21 (fun H locs hP hD hS => ?_)
    refine lv_aload_n X.1.1 X.1.2.1 dX3_add_22 rfl (lv_at hl 0 rfl) ?_
    refine gf3_15 X hK hP 0 rfl rfl dX3_add_23 ?_
    refine lv_aload_n X.1.1 X.1.2.1 dX3_add_26 rfl (lv_at hl 0 rfl) ?_
    refine gf3_22 X hK hP 0 rfl rfl dX3_add_27 ?_
    refine lv_iload_n X.1.1 X.1.2.1 dX3_add_30 rfl (lv_at hl 2 rfl) ?_
    obtain ⟨i_31, hE⟩ := ib_some hE
    refine astI (t0 := 0) (ws' := (wG cI cZ h ho hf hc (upd so ss.toNatClampNeg v1) (upd sf ss.toNatClampNeg v2) sc ss)) X hK hP hD hS 2 0 rfl rfl i_31 rfl dX3_add_31 (fun H locs hP hD hS => ?_)
    refine lv_aload_n X.1.1 X.1.2.1 dX3_add_32 rfl (lv_at hl 0 rfl) ?_
    refine gf3_18 X hK hP 0 rfl rfl dX3_add_33 ?_
    refine lv_aload_n X.1.1 X.1.2.1 dX3_add_36 rfl (lv_at hl 0 rfl) ?_
    refine gf3_22 X hK hP 0 rfl rfl dX3_add_37 ?_
    refine lv_iload_n X.1.1 X.1.2.1 dX3_add_40 rfl (lv_at hl 3 rfl) ?_
    obtain ⟨i_41, hE⟩ := ib_some hE
    refine astZ (t0 := 0) (ws' := (wG cI cZ h ho hf hc (upd so ss.toNatClampNeg v1) (upd sf ss.toNatClampNeg v2) (upd sc ss.toNatClampNeg (vp_nar .boolean v3)) ss)) X hK hP hD hS 3 1 rfl rfl i_41 rfl dX3_add_41 (fun H locs hP hD hS => ?_)
    refine lv_aload_n X.1.1 X.1.2.1 dX3_add_42 rfl (lv_at hl 0 rfl) ?_
    refine lv_dup X.1.1 X.1.2.1 dX3_add_43 rfl ?_
    refine gf3_22 X hK hP 0 rfl rfl dX3_add_44 ?_
    refine lv_iconst (v := (iI 1)) X.1.1 X.1.2.1 dX3_add_47 rfl ?_
    refine lv_iadd X.1.1 X.1.2.1 dX3_add_48 ?_
    refine pf3_22 (ws2 := (wG cI cZ h ho hf hc (upd so ss.toNatClampNeg v1) (upd sf ss.toNatClampNeg v2) (upd sc ss.toNatClampNeg (vp_nar .boolean v3)) (ss + (iI 1)))) X hK hP hD hS 0 rfl (Nat.le_of_ble_eq_true rfl) rfl dX3_add_49 (fun H locs hP hD hS => ?_)
    cases hE
    exact retWV X hP hS dX3_add_52
  · have hE := ite_t hE c_8
    cases hE
    exact retWV X hP hS dX3_add_11
theorem o3_agree : oV yX3_agree RX3 cX3_agree 7 (some .boolean) 4 := ⟨tw511, tw509, tw510, tw44, ⟨by decide +kernel, by decide +kernel⟩, by decide +kernel⟩
abbrev rm3_agree : Room := { frames := 3, cells := 0, slots := 0, locals := 68 }
set_option maxHeartbeats 4000000 in
set_option maxRecDepth 100000 in
theorem c3_agree {l : Launch} {G : va_G} {cI cZ : ClassId} {h ho hf hc f fk fp ft : Nat} {so : Nat → Int32} {sf : Nat → Int32} {sc : Nat → Int32} {ss : Int32} {ki : Nat → Int32} {sp : Nat → Int32} {tu : Nat → Int32} {wo : Int32} {th : Int32} {v2 : Int32} {v3 : Int32} {v4 : Int32} {u : Int32} (hE : f3_agree v2 v3 v4 so sf sc ss ki sp tu th = some u) : Met l yX3_agree (Cond.code yX3_agree cX3_agree 7 (some .boolean) :: TB) rm3_agree (PcR G cI cZ (wGF cI cZ h ho hf hc f fk fp ft so sf sc ss ki sp tu wo th) ([.ref h, .ref f, .int v2, .int v3, .int v4] : List Value)) (QcRead u) 0 0 (fun _ => False) := by
  refine metR (own := RX3) (by decide +kernel) rfl (Nat.le_of_ble_eq_true rfl) ?_
  intro p e s m below meth c ls X hP hK hl
  have hl : lv_has ls 7 [(0, .ref h), (1, .ref f), (2, .int v2), (3, .int v3), (4, .int v4)] := hl
  unfold f3_agree at hE
  refine lv_iconst (v := (iI 0)) X.1.1 X.1.2.1 dX3_agree_0 rfl ?_
  refine lv_istore (lv' := [(5, .int (iI 0)), (0, .ref h), (1, .ref f), (2, .int v2), (3, .int v3), (4, .int v4)]) X.1.1 X.1.2.1 dX3_agree_1 hl (by decide) rfl (fun ls hl => ?_)
  have lp3 : ∀ (k : Int32 → Option Int32), (∀ (v5_1001 : Int32) (ls : Array Slot), lv_has ls 7 [(0, .ref h), (1, .ref f), (2, .int v2), (3, .int v3), (4, .int v4), (5, .int v5_1001)] → k v5_1001 = some u → W p l e rm3_agree s m ([.ref h, .ref f, .int v2, .int v3, .int v4] : List Value).toArray below meth c s.heap [] 0 0 (MQ below (QcRead u) ([.ref h, .ref f, .int v2, .int v3, .int v4] : List Value).toArray s 0 0 (fun _ => False)) (F0 m 85 ls [])) → ∀ (n : Nat) (v5_1001 : Int32) (ls : Array Slot), lv_has ls 7 [(0, .ref h), (1, .ref f), (2, .int v2), (3, .int v3), (4, .int v4), (5, .int v5_1001)] → l3_agree_3 k v2 v3 v4 so sf sc ss ki sp tu th n v5_1001 = some u → W p l e rm3_agree s m ([.ref h, .ref f, .int v2, .int v3, .int v4] : List Value).toArray below meth c s.heap [] 0 0 (MQ below (QcRead u) ([.ref h, .ref f, .int v2, .int v3, .int v4] : List Value).toArray s 0 0 (fun _ => False)) (F0 m 3 ls []) := by
    intro k hex n
    induction n with
    | zero =>
      intro v5_1001 ls hl hE
      exact absurd (show (none : Option Int32) = some u from hE) (fun h => by cases h)
    | succ n ih =>
      intro v5_1001 ls hl hE
      rw [l3_agree_3] at hE
      refine lv_iload X.1.1 X.1.2.1 dX3_agree_3 (lv_at hl 5 rfl) ?_
      refine lv_aload_n X.1.1 X.1.2.1 dX3_agree_5 rfl (lv_at hl 0 rfl) ?_
      refine gf3_22 X hK hP 0 rfl rfl dX3_agree_6 ?_
      refine lv_icmp_ge (tgt := 85) X.1.1 X.1.2.1 dX3_agree_9 (by decide) (fun c_9 => ?_) (fun c_9 => ?_)
      · have hE := ite_t hE c_9
        exact hex v5_1001 ls (lv_sub hl [0, 1, 2, 3, 4, 5] rfl) hE
      · have hE := ite_f hE c_9
        refine lv_aload_n X.1.1 X.1.2.1 dX3_agree_12 rfl (lv_at hl 0 rfl) ?_
        refine lv_iload X.1.1 X.1.2.1 dX3_agree_13 (lv_at hl 5 rfl) ?_
        obtain ⟨u1002, e_u1002, hE⟩ := bd_some hE
        refine callRV (wsC := (wG cI cZ h ho hf hc so sf sc ss)) (As := [.int v5_1001]) (rest := []) (ci := 3) X (c3_holds (l := l) e_u1002) o3_holds tw496 ⟨rfl, rfl, Nat.le_of_ble_eq_true rfl, Nat.le_of_ble_eq_true rfl⟩ (hP.sub [0, 1, 2, 3] rfl) hK 0 rfl rfl rfl rfl hl rfl (by decide) ⟨Nat.le_refl _, Nat.le_refl _⟩ dX3_agree_15 ?_
        refine lv_if_eq (tgt := 85) X.1.1 X.1.2.1 dX3_agree_18 (by decide) (fun c_18 => ?_) (fun c_18 => ?_)
        · have hE := ite_t hE c_18
          exact hex v5_1001 ls (lv_sub hl [0, 1, 2, 3, 4, 5] rfl) hE
        · have hE := ite_f hE c_18
          refine lv_aload_n X.1.1 X.1.2.1 dX3_agree_21 rfl (lv_at hl 0 rfl) ?_
          refine gf3_9 X hK hP 0 rfl rfl dX3_agree_22 ?_
          refine lv_iload X.1.1 X.1.2.1 dX3_agree_25 (lv_at hl 5 rfl) ?_
          obtain ⟨i_27, hE⟩ := ib_some hE
          refine va_iald X.1.1 X.1.2.1 hK hP 1 0 rfl rfl i_27 dX3_agree_27 ?_
          refine lv_iload_n X.1.1 X.1.2.1 dX3_agree_28 rfl (lv_at hl 2 rfl) ?_
          refine lv_icmp_eq (tgt := 35) X.1.1 X.1.2.1 dX3_agree_29 (by decide) (fun c_29 => ?_) (fun c_29 => ?_)
          · have hE := ite_t hE c_29
            refine lv_aload_n X.1.1 X.1.2.1 dX3_agree_35 rfl (lv_at hl 1 rfl) ?_
            refine lv_iload_n X.1.1 X.1.2.1 dX3_agree_36 rfl (lv_at hl 3 rfl) ?_
            refine lv_iload_n X.1.1 X.1.2.1 dX3_agree_37 rfl (lv_at hl 2 rfl) ?_
            refine lv_iload X.1.1 X.1.2.1 dX3_agree_38 (lv_at hl 4 rfl) ?_
            refine lv_aload_n X.1.1 X.1.2.1 dX3_agree_40 rfl (lv_at hl 0 rfl) ?_
            refine gf3_15 X hK hP 0 rfl rfl dX3_agree_41 ?_
            refine lv_iload X.1.1 X.1.2.1 dX3_agree_44 (lv_at hl 5 rfl) ?_
            obtain ⟨i_46, hE⟩ := ib_some hE
            refine va_iald X.1.1 X.1.2.1 hK hP 2 0 rfl rfl i_46 dX3_agree_46 ?_
            obtain ⟨u1003, e_u1003, hE⟩ := bd_some hE
            refine callRV (wsC := (wF cI cZ f fk fp ft ki sp tu wo th)) (As := [.int v3, .int v2, .int v4, .int (sf v5_1001.toNatClampNeg)]) (rest := []) (ci := 1) X (c1_powerWith (l := l) e_u1003) o1_powerWith tw512 ⟨rfl, rfl, Nat.le_of_ble_eq_true rfl, Nat.le_of_ble_eq_true rfl⟩ (hP.sub [4, 5, 6, 7] rfl) hK 0 rfl rfl rfl rfl hl rfl (by decide) ⟨Nat.le_refl _, Nat.le_refl _⟩ dX3_agree_47 ?_
            refine lv_istore (lv' := [(6, .int u1003), (0, .ref h), (1, .ref f), (2, .int v2), (3, .int v3), (4, .int v4), (5, .int v5_1001)]) X.1.1 X.1.2.1 dX3_agree_50 hl (by decide) rfl (fun ls hl => ?_)
            refine lv_aload_n X.1.1 X.1.2.1 dX3_agree_52 rfl (lv_at hl 2 rfl) ?_
            refine lv_iload X.1.1 X.1.2.1 dX3_agree_53 (lv_at hl 0 rfl) ?_
            refine lv_aload_n X.1.1 X.1.2.1 dX3_agree_55 rfl (lv_at hl 1 rfl) ?_
            refine gf3_15 X hK hP 0 rfl rfl dX3_agree_56 ?_
            refine lv_iload X.1.1 X.1.2.1 dX3_agree_59 (lv_at hl 6 rfl) ?_
            obtain ⟨i_61, hE⟩ := ib_some hE
            refine va_iald X.1.1 X.1.2.1 hK hP 2 0 rfl rfl i_61 dX3_agree_61 ?_
            refine lv_bipush (v := (iI 15)) X.1.1 X.1.2.1 dX3_agree_62 (by decide) ?_
            obtain ⟨u1004, e_u1004, hE⟩ := bd_some hE
            refine callRV (wsC := (wF cI cZ f fk fp ft ki sp tu wo th)) (As := [.int u1003, .int (sf v5_1001.toNatClampNeg), .int (iI 15)]) (rest := []) (ci := 1) X (c1_isEnough (l := l) e_u1004) o1_isEnough tw513 ⟨rfl, rfl, Nat.le_of_ble_eq_true rfl, Nat.le_of_ble_eq_true rfl⟩ (hP.sub [4, 5, 6, 7] rfl) hK 0 rfl rfl rfl rfl hl rfl (by decide) ⟨Nat.le_refl _, Nat.le_refl _⟩ dX3_agree_64 ?_
            refine lv_aload_n X.1.1 X.1.2.1 dX3_agree_67 rfl (lv_at hl 1 rfl) ?_
            refine gf3_18 X hK hP 0 rfl rfl dX3_agree_68 ?_
            refine lv_iload X.1.1 X.1.2.1 dX3_agree_71 (lv_at hl 6 rfl) ?_
            obtain ⟨i_73, hE⟩ := ib_some hE
            refine va_zald X.1.1 X.1.2.1 hK hP 3 1 rfl rfl i_73 dX3_agree_73 ?_
            refine lv_icmp_eq (tgt := 79) X.1.1 X.1.2.1 dX3_agree_74 (by decide) (fun c_74 => ?_) (fun c_74 => ?_)
            · have hE := ite_t hE c_74
              refine lv_iinc (v := (v5_1001 + (iI 1))) (lv' := [(5, .int (v5_1001 + (iI 1))), (6, .int u1003), (0, .ref h), (1, .ref f), (2, .int v2), (3, .int v3), (4, .int v4)]) X.1.1 X.1.2.1 dX3_agree_79 hl (k := 6) rfl rfl (by decide) rfl (fun ls hl => ?_)
              refine lv_goto (tgt := 3) X.1.1 X.1.2.1 dX3_agree_82 (by decide) ?_
              exact ih (v5_1001 + (iI 1)) ls (lv_sub hl [2, 3, 4, 5, 6, 0] rfl) hE
            · have hE := ite_f hE c_74
              refine lv_iconst (v := (iI 0)) X.1.1 X.1.2.1 dX3_agree_77 rfl ?_
              cases hE
              exact retRZ X okB_0 dX3_agree_78
          · have hE := ite_f hE c_29
            refine lv_goto (tgt := 79) X.1.1 X.1.2.1 dX3_agree_32 (by decide) ?_
            refine lv_iinc (v := (v5_1001 + (iI 1))) (lv' := [(5, .int (v5_1001 + (iI 1))), (0, .ref h), (1, .ref f), (2, .int v2), (3, .int v3), (4, .int v4)]) X.1.1 X.1.2.1 dX3_agree_79 hl (k := 5) rfl rfl (by decide) rfl (fun ls hl => ?_)
            refine lv_goto (tgt := 3) X.1.1 X.1.2.1 dX3_agree_82 (by decide) ?_
            exact ih (v5_1001 + (iI 1)) ls (lv_sub hl [1, 2, 3, 4, 5, 0] rfl) hE
  refine lp3 _ (fun v5_1001 ls hl hE => ?_) FU (iI 0) ls (lv_sub hl [1, 2, 3, 4, 5, 0] rfl) hE
  refine lv_iconst (v := (iI 1)) X.1.1 X.1.2.1 dX3_agree_85 rfl ?_
  cases hE
  exact retRZ X okB_1 dX3_agree_86
theorem o4_isFull : oV yX4_isFull RX4 cX4_isFull 1 (some .boolean) 0 := ⟨tw208, tw206, tw207, tw40, ⟨by decide +kernel, by decide +kernel⟩, by decide +kernel⟩
abbrev rm4_isFull : Room := { frames := 0, cells := 0, slots := 0, locals := 0 }
set_option maxHeartbeats 4000000 in
set_option maxRecDepth 100000 in
theorem c4_isFull {l : Launch} {G : va_G} {cI cZ : ClassId} {h hlt : Nat} {lt : Nat → Int32} {ln : Int32} {u : Int32} (hE : f4_isFull ln = some u) : Met l yX4_isFull (Cond.code yX4_isFull cX4_isFull 1 (some .boolean) :: TB) rm4_isFull (PcR G cI cZ (wT cI cZ h hlt lt ln) ([.ref h] : List Value)) (QcRead u) 0 0 (fun _ => False) := by
  refine metR (own := RX4) (by decide +kernel) rfl (Nat.le_of_ble_eq_true rfl) ?_
  intro p e s m below meth c ls X hP hK hl
  have hl : lv_has ls 1 [(0, .ref h)] := hl
  unfold f4_isFull at hE
  refine lv_aload_n X.1.1 X.1.2.1 dX4_isFull_0 rfl (lv_at hl 0 rfl) ?_
  refine gf4_15 X hK hP 0 rfl rfl dX4_isFull_1 ?_
  refine lv_aload_n X.1.1 X.1.2.1 dX4_isFull_4 rfl (lv_at hl 0 rfl) ?_
  refine gf4_9 X hK hP 0 rfl rfl dX4_isFull_5 ?_
  refine va_alen (v := (Int32.ofNat 36)) X.1.1 X.1.2.1 hK hP 1 0 rfl rfl rfl dX4_isFull_8 ?_
  refine lv_icmp_lt (tgt := 16) X.1.1 X.1.2.1 dX4_isFull_9 (by decide) (fun c_9 => ?_) (fun c_9 => ?_)
  · have hE := ite_t hE c_9
    refine lv_iconst (v := (iI 0)) X.1.1 X.1.2.1 dX4_isFull_16 rfl ?_
    cases hE
    exact retRZ X okB_0 dX4_isFull_17
  · have hE := ite_f hE c_9
    refine lv_iconst (v := (iI 1)) X.1.1 X.1.2.1 dX4_isFull_12 rfl ?_
    refine lv_goto (tgt := 17) X.1.1 X.1.2.1 dX4_isFull_13 (by decide) ?_
    cases hE
    exact retRZ X okB_1 dX4_isFull_17
theorem o4_append : oV yX4_append RX4 cX4_append 2 none 1 := ⟨tw212, tw210, tw211, tw40, ⟨by decide +kernel, by decide +kernel⟩, by decide +kernel⟩
abbrev rm4_append : Room := { frames := 0, cells := 0, slots := 0, locals := 0 }
set_option maxHeartbeats 4000000 in
set_option maxRecDepth 100000 in
theorem c4_append {l : Launch} {G : va_G} {cI cZ : ClassId} {h hlt : Nat} {lt : Nat → Int32} {ln : Int32} {v1 : Int32} {sz : Nat} {u : (Nat → Int32) × Int32} (hE : f4_append v1 lt ln = some u) : Met l yX4_append (Cond.code yX4_append cX4_append 2 none :: TB) rm4_append (PcW G cI cZ (wT cI cZ h hlt lt ln) sz ([.ref h, .int v1] : List Value)) (QW G none (wT cI cZ h hlt u.1 u.2) (va_A (wT cI cZ h hlt lt ln) sz)) 0 0 (va_A (wT cI cZ h hlt lt ln) sz) := by
  refine metW (own := RX4) (by decide +kernel) rfl (Nat.le_of_ble_eq_true rfl) ?_
  intro p e s m below meth c ls A X hA hP hK hD hl
  have hS : va_S A s.heap s.heap [] := va_S.rf
  have hl : lv_has ls 2 [(0, .ref h), (1, .int v1)] := hl
  unfold f4_append at hE
  refine lv_aload_n X.1.1 X.1.2.1 dX4_append_0 rfl (lv_at hl 0 rfl) ?_
  refine gf4_15 X hK hP 0 rfl rfl dX4_append_1 ?_
  refine lv_if_lt (tgt := 19) X.1.1 X.1.2.1 dX4_append_4 (by decide) (fun c_4 => ?_) (fun c_4 => ?_)
  · have hE := ite_t hE c_4
    cases hE
    exact retWV X hP hS dX4_append_19
  · have hE := ite_f hE c_4
    refine lv_aload_n X.1.1 X.1.2.1 dX4_append_7 rfl (lv_at hl 0 rfl) ?_
    refine gf4_15 X hK hP 0 rfl rfl dX4_append_8 ?_
    refine lv_aload_n X.1.1 X.1.2.1 dX4_append_11 rfl (lv_at hl 0 rfl) ?_
    refine gf4_9 X hK hP 0 rfl rfl dX4_append_12 ?_
    refine va_alen (v := (Int32.ofNat 36)) X.1.1 X.1.2.1 hK hP 1 0 rfl rfl rfl dX4_append_15 ?_
    refine lv_icmp_lt (tgt := 20) X.1.1 X.1.2.1 dX4_append_16 (by decide) (fun c_16 => ?_) (fun c_16 => ?_)
    · have hE := ite_t hE c_16
      refine lv_aload_n X.1.1 X.1.2.1 dX4_append_20 rfl (lv_at hl 0 rfl) ?_
      refine gf4_9 X hK hP 0 rfl rfl dX4_append_21 ?_
      refine lv_aload_n X.1.1 X.1.2.1 dX4_append_24 rfl (lv_at hl 0 rfl) ?_
      refine gf4_15 X hK hP 0 rfl rfl dX4_append_25 ?_
      refine lv_iload_n X.1.1 X.1.2.1 dX4_append_28 rfl (lv_at hl 1 rfl) ?_
      obtain ⟨i_29, hE⟩ := ib_some hE
      refine astI (t0 := 0) (ws' := (wT cI cZ h hlt (upd lt ln.toNatClampNeg v1) ln)) X hK hP hD hS 1 0 rfl rfl i_29 rfl dX4_append_29 (fun H locs hP hD hS => ?_)
      refine lv_aload_n X.1.1 X.1.2.1 dX4_append_30 rfl (lv_at hl 0 rfl) ?_
      refine lv_dup X.1.1 X.1.2.1 dX4_append_31 rfl ?_
      refine gf4_15 X hK hP 0 rfl rfl dX4_append_32 ?_
      refine lv_iconst (v := (iI 1)) X.1.1 X.1.2.1 dX4_append_35 rfl ?_
      refine lv_iadd X.1.1 X.1.2.1 dX4_append_36 ?_
      refine pf4_15 (ws2 := (wT cI cZ h hlt (upd lt ln.toNatClampNeg v1) (ln + (iI 1)))) X hK hP hD hS 0 rfl (Nat.le_of_ble_eq_true rfl) rfl dX4_append_37 (fun H locs hP hD hS => ?_)
      cases hE
      exact retWV X hP hS dX4_append_40
    · have hE := ite_f hE c_16
      cases hE
      exact retWV X hP hS dX4_append_19
theorem o4_letterAt : oV yX4_letterAt RX4 cX4_letterAt 2 (some .int) 1 := ⟨tw232, tw230, tw231, tw40, ⟨by decide +kernel, by decide +kernel⟩, by decide +kernel⟩
abbrev rm4_letterAt : Room := { frames := 0, cells := 0, slots := 0, locals := 0 }
set_option maxHeartbeats 4000000 in
set_option maxRecDepth 100000 in
theorem c4_letterAt {l : Launch} {G : va_G} {cI cZ : ClassId} {h hlt : Nat} {lt : Nat → Int32} {ln : Int32} {v1 : Int32} {u : Int32} (hE : f4_letterAt v1 lt = some u) : Met l yX4_letterAt (Cond.code yX4_letterAt cX4_letterAt 2 (some .int) :: TB) rm4_letterAt (PcR G cI cZ (wT cI cZ h hlt lt ln) ([.ref h, .int v1] : List Value)) (QcRead u) 0 0 (fun _ => False) := by
  refine metR (own := RX4) (by decide +kernel) rfl (Nat.le_of_ble_eq_true rfl) ?_
  intro p e s m below meth c ls X hP hK hl
  have hl : lv_has ls 2 [(0, .ref h), (1, .int v1)] := hl
  unfold f4_letterAt at hE
  refine lv_iload_n X.1.1 X.1.2.1 dX4_letterAt_0 rfl (lv_at hl 1 rfl) ?_
  refine lv_if_lt (tgt := 22) X.1.1 X.1.2.1 dX4_letterAt_1 (by decide) (fun c_1 => ?_) (fun c_1 => ?_)
  · have hE := ite_t hE c_1
    refine lv_iconst (v := (iI 0)) X.1.1 X.1.2.1 dX4_letterAt_22 rfl ?_
    cases hE
    exact retR X dX4_letterAt_23
  · have hE := ite_f hE c_1
    refine lv_iload_n X.1.1 X.1.2.1 dX4_letterAt_4 rfl (lv_at hl 1 rfl) ?_
    refine lv_aload_n X.1.1 X.1.2.1 dX4_letterAt_5 rfl (lv_at hl 0 rfl) ?_
    refine gf4_9 X hK hP 0 rfl rfl dX4_letterAt_6 ?_
    refine va_alen (v := (Int32.ofNat 36)) X.1.1 X.1.2.1 hK hP 1 0 rfl rfl rfl dX4_letterAt_9 ?_
    refine lv_icmp_ge (tgt := 22) X.1.1 X.1.2.1 dX4_letterAt_10 (by decide) (fun c_10 => ?_) (fun c_10 => ?_)
    · have hE := ite_t hE c_10
      refine lv_iconst (v := (iI 0)) X.1.1 X.1.2.1 dX4_letterAt_22 rfl ?_
      cases hE
      exact retR X dX4_letterAt_23
    · have hE := ite_f hE c_10
      refine lv_aload_n X.1.1 X.1.2.1 dX4_letterAt_13 rfl (lv_at hl 0 rfl) ?_
      refine gf4_9 X hK hP 0 rfl rfl dX4_letterAt_14 ?_
      refine lv_iload_n X.1.1 X.1.2.1 dX4_letterAt_17 rfl (lv_at hl 1 rfl) ?_
      obtain ⟨i_18, hE⟩ := ib_some hE
      refine va_iald X.1.1 X.1.2.1 hK hP 1 0 rfl rfl i_18 dX4_letterAt_18 ?_
      refine lv_goto (tgt := 23) X.1.1 X.1.2.1 dX4_letterAt_19 (by decide) ?_
      cases hE
      exact retR X dX4_letterAt_23
theorem o4_figureAt : oV yX4_figureAt RX4 cX4_figureAt 2 (some .int) 1 := ⟨tw244, tw242, tw243, tw40, ⟨by decide +kernel, by decide +kernel⟩, by decide +kernel⟩
abbrev rm4_figureAt : Room := { frames := 1, cells := 0, slots := 0, locals := 21 }
set_option maxHeartbeats 4000000 in
set_option maxRecDepth 100000 in
theorem c4_figureAt {l : Launch} {G : va_G} {cI cZ : ClassId} {h hlt : Nat} {lt : Nat → Int32} {ln : Int32} {v1 : Int32} {u : Int32} (hE : f4_figureAt v1 lt = some u) : Met l yX4_figureAt (Cond.code yX4_figureAt cX4_figureAt 2 (some .int) :: TB) rm4_figureAt (PcR G cI cZ (wT cI cZ h hlt lt ln) ([.ref h, .int v1] : List Value)) (QcRead u) 0 0 (fun _ => False) := by
  refine metR (own := RX4) (by decide +kernel) rfl (Nat.le_of_ble_eq_true rfl) ?_
  intro p e s m below meth c ls X hP hK hl
  have hl : lv_has ls 2 [(0, .ref h), (1, .int v1)] := hl
  unfold f4_figureAt at hE
  refine lv_aload_n X.1.1 X.1.2.1 dX4_figureAt_0 rfl (lv_at hl 0 rfl) ?_
  refine lv_iload_n X.1.1 X.1.2.1 dX4_figureAt_1 rfl (lv_at hl 1 rfl) ?_
  obtain ⟨u1001, e_u1001, hE⟩ := bd_some hE
  refine callRV (wsC := (wT cI cZ h hlt lt ln)) (As := [.int v1]) (rest := []) (ci := 4) X (c4_letterAt (l := l) e_u1001) o4_letterAt tw229 ⟨rfl, rfl, Nat.le_of_ble_eq_true rfl, Nat.le_of_ble_eq_true rfl⟩ hP hK 0 rfl rfl rfl rfl hl rfl (by decide) ⟨Nat.le_refl _, Nat.le_refl _⟩ dX4_figureAt_2 ?_
  refine lv_bipush (v := (iI 48)) X.1.1 X.1.2.1 dX4_figureAt_5 (by decide) ?_
  refine lv_isub X.1.1 X.1.2.1 dX4_figureAt_7 ?_
  cases hE
  exact retR X dX4_figureAt_8
theorem o4_endsPart : oV yX4_endsPart RX4 cX4_endsPart 3 (some .boolean) 2 := ⟨tw236, tw234, tw235, tw40, ⟨by decide +kernel, by decide +kernel⟩, by decide +kernel⟩
abbrev rm4_endsPart : Room := { frames := 0, cells := 0, slots := 0, locals := 0 }
set_option maxHeartbeats 4000000 in
set_option maxRecDepth 100000 in
theorem c4_endsPart {l : Launch} {G : va_G} {cI cZ : ClassId} {h hlt : Nat} {lt : Nat → Int32} {ln : Int32} {v1 : Int32} {v2 : Int32} {u : Int32} (hE : f4_endsPart v1 v2 = some u) : Met l yX4_endsPart (Cond.code yX4_endsPart cX4_endsPart 3 (some .boolean) :: TB) rm4_endsPart (PcR G cI cZ (wT cI cZ h hlt lt ln) ([.ref h, .int v1, .int v2] : List Value)) (QcRead u) 0 0 (fun _ => False) := by
  refine metR (own := RX4) (by decide +kernel) rfl (Nat.le_of_ble_eq_true rfl) ?_
  intro p e s m below meth c ls X hP hK hl
  have hl : lv_has ls 3 [(0, .ref h), (1, .int v1), (2, .int v2)] := hl
  unfold f4_endsPart at hE
  refine lv_iload_n X.1.1 X.1.2.1 dX4_endsPart_0 rfl (lv_at hl 1 rfl) ?_
  refine lv_bipush (v := (iI 87)) X.1.1 X.1.2.1 dX4_endsPart_1 (by decide) ?_
  refine lv_icmp_ne (tgt := 24) X.1.1 X.1.2.1 dX4_endsPart_3 (by decide) (fun c_3 => ?_) (fun c_3 => ?_)
  · have hE := ite_f hE c_3
    refine lv_iload_n X.1.1 X.1.2.1 dX4_endsPart_24 rfl (lv_at hl 1 rfl) ?_
    refine lv_bipush (v := (iI 84)) X.1.1 X.1.2.1 dX4_endsPart_25 (by decide) ?_
    refine lv_icmp_ne (tgt := 48) X.1.1 X.1.2.1 dX4_endsPart_27 (by decide) (fun c_27 => ?_) (fun c_27 => ?_)
    · have hE := ite_f hE c_27
      refine lv_iload_n X.1.1 X.1.2.1 dX4_endsPart_48 rfl (lv_at hl 2 rfl) ?_
      refine lv_bipush (v := (iI 48)) X.1.1 X.1.2.1 dX4_endsPart_49 (by decide) ?_
      refine lv_icmp_lt (tgt := 64) X.1.1 X.1.2.1 dX4_endsPart_51 (by decide) (fun c_51 => ?_) (fun c_51 => ?_)
      · have hE := ite_t hE c_51
        refine lv_iconst (v := (iI 0)) X.1.1 X.1.2.1 dX4_endsPart_64 rfl ?_
        cases hE
        exact retRZ X okB_0 dX4_endsPart_65
      · have hE := ite_f hE c_51
        refine lv_iload_n X.1.1 X.1.2.1 dX4_endsPart_54 rfl (lv_at hl 2 rfl) ?_
        refine lv_bipush (v := (iI 57)) X.1.1 X.1.2.1 dX4_endsPart_55 (by decide) ?_
        refine lv_icmp_gt (tgt := 64) X.1.1 X.1.2.1 dX4_endsPart_57 (by decide) (fun c_57 => ?_) (fun c_57 => ?_)
        · have hE := ite_t hE c_57
          refine lv_iconst (v := (iI 0)) X.1.1 X.1.2.1 dX4_endsPart_64 rfl ?_
          cases hE
          exact retRZ X okB_0 dX4_endsPart_65
        · have hE := ite_f hE c_57
          refine lv_iconst (v := (iI 1)) X.1.1 X.1.2.1 dX4_endsPart_60 rfl ?_
          refine lv_goto (tgt := 65) X.1.1 X.1.2.1 dX4_endsPart_61 (by decide) ?_
          cases hE
          exact retRZ X okB_1 dX4_endsPart_65
    · have hE := ite_t hE c_27
      refine lv_iload_n X.1.1 X.1.2.1 dX4_endsPart_30 rfl (lv_at hl 2 rfl) ?_
      refine lv_bipush (v := (iI 49)) X.1.1 X.1.2.1 dX4_endsPart_31 (by decide) ?_
      refine lv_icmp_lt (tgt := 46) X.1.1 X.1.2.1 dX4_endsPart_33 (by decide) (fun c_33 => ?_) (fun c_33 => ?_)
      · have hE := ite_t hE c_33
        refine lv_iconst (v := (iI 0)) X.1.1 X.1.2.1 dX4_endsPart_46 rfl ?_
        cases hE
        exact retRZ X okB_0 dX4_endsPart_47
      · have hE := ite_f hE c_33
        refine lv_iload_n X.1.1 X.1.2.1 dX4_endsPart_36 rfl (lv_at hl 2 rfl) ?_
        refine lv_bipush (v := (iI 57)) X.1.1 X.1.2.1 dX4_endsPart_37 (by decide) ?_
        refine lv_icmp_gt (tgt := 46) X.1.1 X.1.2.1 dX4_endsPart_39 (by decide) (fun c_39 => ?_) (fun c_39 => ?_)
        · have hE := ite_t hE c_39
          refine lv_iconst (v := (iI 0)) X.1.1 X.1.2.1 dX4_endsPart_46 rfl ?_
          cases hE
          exact retRZ X okB_0 dX4_endsPart_47
        · have hE := ite_f hE c_39
          refine lv_iconst (v := (iI 1)) X.1.1 X.1.2.1 dX4_endsPart_42 rfl ?_
          refine lv_goto (tgt := 47) X.1.1 X.1.2.1 dX4_endsPart_43 (by decide) ?_
          cases hE
          exact retRZ X okB_1 dX4_endsPart_47
  · have hE := ite_t hE c_3
    refine lv_iload_n X.1.1 X.1.2.1 dX4_endsPart_6 rfl (lv_at hl 2 rfl) ?_
    refine lv_bipush (v := (iI 48)) X.1.1 X.1.2.1 dX4_endsPart_7 (by decide) ?_
    refine lv_icmp_lt (tgt := 22) X.1.1 X.1.2.1 dX4_endsPart_9 (by decide) (fun c_9 => ?_) (fun c_9 => ?_)
    · have hE := ite_t hE c_9
      refine lv_iconst (v := (iI 0)) X.1.1 X.1.2.1 dX4_endsPart_22 rfl ?_
      cases hE
      exact retRZ X okB_0 dX4_endsPart_23
    · have hE := ite_f hE c_9
      refine lv_iload_n X.1.1 X.1.2.1 dX4_endsPart_12 rfl (lv_at hl 2 rfl) ?_
      refine lv_bipush (v := (iI 51)) X.1.1 X.1.2.1 dX4_endsPart_13 (by decide) ?_
      refine lv_icmp_gt (tgt := 22) X.1.1 X.1.2.1 dX4_endsPart_15 (by decide) (fun c_15 => ?_) (fun c_15 => ?_)
      · have hE := ite_t hE c_15
        refine lv_iconst (v := (iI 0)) X.1.1 X.1.2.1 dX4_endsPart_22 rfl ?_
        cases hE
        exact retRZ X okB_0 dX4_endsPart_23
      · have hE := ite_f hE c_15
        refine lv_iconst (v := (iI 1)) X.1.1 X.1.2.1 dX4_endsPart_18 rfl ?_
        refine lv_goto (tgt := 23) X.1.1 X.1.2.1 dX4_endsPart_19 (by decide) ?_
        cases hE
        exact retRZ X okB_1 dX4_endsPart_23
theorem o4_fits : oV yX4_fits RX4 cX4_fits 5 (some .boolean) 3 := ⟨tw228, tw226, tw227, tw40, ⟨by decide +kernel, by decide +kernel⟩, by decide +kernel⟩
abbrev rm4_fits : Room := { frames := 1, cells := 0, slots := 0, locals := 22 }
set_option maxHeartbeats 4000000 in
set_option maxRecDepth 100000 in
theorem c4_fits {l : Launch} {G : va_G} {cI cZ : ClassId} {h hlt : Nat} {lt : Nat → Int32} {ln : Int32} {v1 : Int32} {v2 : Int32} {v3 : Int32} {u : Int32} (hE : f4_fits v1 v2 v3 lt = some u) : Met l yX4_fits (Cond.code yX4_fits cX4_fits 5 (some .boolean) :: TB) rm4_fits (PcR G cI cZ (wT cI cZ h hlt lt ln) ([.ref h, .int v1, .int v2, .int v3] : List Value)) (QcRead u) 0 0 (fun _ => False) := by
  refine metR (own := RX4) (by decide +kernel) rfl (Nat.le_of_ble_eq_true rfl) ?_
  intro p e s m below meth c ls X hP hK hl
  have hl : lv_has ls 5 [(0, .ref h), (1, .int v1), (2, .int v2), (3, .int v3)] := hl
  unfold f4_fits at hE
  refine lv_aload_n X.1.1 X.1.2.1 dX4_fits_0 rfl (lv_at hl 0 rfl) ?_
  refine lv_iload_n X.1.1 X.1.2.1 dX4_fits_1 rfl (lv_at hl 1 rfl) ?_
  obtain ⟨u1001, e_u1001, hE⟩ := bd_some hE
  refine callRV (wsC := (wT cI cZ h hlt lt ln)) (As := [.int v1]) (rest := []) (ci := 4) X (c4_letterAt (l := l) e_u1001) o4_letterAt tw229 ⟨rfl, rfl, Nat.le_of_ble_eq_true rfl, Nat.le_of_ble_eq_true rfl⟩ hP hK 0 rfl rfl rfl rfl hl rfl (by decide) ⟨Nat.le_refl _, Nat.le_refl _⟩ dX4_fits_2 ?_
  refine lv_istore (lv' := [(4, .int u1001), (0, .ref h), (1, .int v1), (2, .int v2), (3, .int v3)]) X.1.1 X.1.2.1 dX4_fits_5 hl (by decide) rfl (fun ls hl => ?_)
  refine lv_iload_n X.1.1 X.1.2.1 dX4_fits_7 rfl (lv_at hl 2 rfl) ?_
  refine lv_if_ne (tgt := 24) X.1.1 X.1.2.1 dX4_fits_8 (by decide) (fun c_8 => ?_) (fun c_8 => ?_)
  · have hE := ite_f hE c_8
    refine lv_iload_n X.1.1 X.1.2.1 dX4_fits_24 rfl (lv_at hl 2 rfl) ?_
    refine lv_iconst (v := (iI 3)) X.1.1 X.1.2.1 dX4_fits_25 rfl ?_
    refine r_irem X.1.1 X.1.2.1 dX4_fits_26 (by decide) ?_
    by_cases s_27_0 : (rmI v1 (iI 3)) = (iI 0)
    · have hE := ite_t hE s_27_0
      refine lv_lookup (off := 25) (tgt := 52) X.1.1 X.1.2.1 dX4_fits_27 (by decide) (by rw [s_27_0]; decide) (by decide) ?_
      refine lv_iload X.1.1 X.1.2.1 dX4_fits_52 (lv_at hl 0 rfl) ?_
      refine lv_bipush (v := (iI 87)) X.1.1 X.1.2.1 dX4_fits_54 (by decide) ?_
      refine lv_icmp_ne (tgt := 64) X.1.1 X.1.2.1 dX4_fits_56 (by decide) (fun c_56 => ?_) (fun c_56 => ?_)
      · have hE := ite_f hE c_56
        refine lv_iload X.1.1 X.1.2.1 dX4_fits_64 (lv_at hl 0 rfl) ?_
        refine lv_bipush (v := (iI 84)) X.1.1 X.1.2.1 dX4_fits_66 (by decide) ?_
        refine lv_icmp_ne (tgt := 80) X.1.1 X.1.2.1 dX4_fits_68 (by decide) (fun c_68 => ?_) (fun c_68 => ?_)
        · have hE := ite_f hE c_68
          refine lv_iconst (v := (iI 0)) X.1.1 X.1.2.1 dX4_fits_80 rfl ?_
          cases hE
          exact retRZ X okB_0 dX4_fits_81
        · have hE := ite_t hE c_68
          refine lv_iload_n X.1.1 X.1.2.1 dX4_fits_71 rfl (lv_at hl 4 rfl) ?_
          refine lv_iconst (v := (iI 4)) X.1.1 X.1.2.1 dX4_fits_72 rfl ?_
          refine lv_icmp_ge (tgt := 80) X.1.1 X.1.2.1 dX4_fits_73 (by decide) (fun c_73 => ?_) (fun c_73 => ?_)
          · have hE := ite_t hE c_73
            refine lv_iconst (v := (iI 0)) X.1.1 X.1.2.1 dX4_fits_80 rfl ?_
            cases hE
            exact retRZ X okB_0 dX4_fits_81
          · have hE := ite_f hE c_73
            refine lv_iconst (v := (iI 1)) X.1.1 X.1.2.1 dX4_fits_76 rfl ?_
            refine lv_goto (tgt := 81) X.1.1 X.1.2.1 dX4_fits_77 (by decide) ?_
            cases hE
            exact retRZ X okB_1 dX4_fits_81
      · have hE := ite_t hE c_56
        refine lv_iload_n X.1.1 X.1.2.1 dX4_fits_59 rfl (lv_at hl 3 rfl) ?_
        refine lv_iconst (v := (iI 4)) X.1.1 X.1.2.1 dX4_fits_60 rfl ?_
        refine lv_icmp_lt (tgt := 76) X.1.1 X.1.2.1 dX4_fits_61 (by decide) (fun c_61 => ?_) (fun c_61 => ?_)
        · have hE := ite_t hE c_61
          refine lv_iconst (v := (iI 1)) X.1.1 X.1.2.1 dX4_fits_76 rfl ?_
          refine lv_goto (tgt := 81) X.1.1 X.1.2.1 dX4_fits_77 (by decide) ?_
          cases hE
          exact retRZ X okB_1 dX4_fits_81
        · have hE := ite_f hE c_61
          refine lv_iload X.1.1 X.1.2.1 dX4_fits_64 (lv_at hl 0 rfl) ?_
          refine lv_bipush (v := (iI 84)) X.1.1 X.1.2.1 dX4_fits_66 (by decide) ?_
          refine lv_icmp_ne (tgt := 80) X.1.1 X.1.2.1 dX4_fits_68 (by decide) (fun c_68 => ?_) (fun c_68 => ?_)
          · have hE := ite_f hE c_68
            refine lv_iconst (v := (iI 0)) X.1.1 X.1.2.1 dX4_fits_80 rfl ?_
            cases hE
            exact retRZ X okB_0 dX4_fits_81
          · have hE := ite_t hE c_68
            refine lv_iload_n X.1.1 X.1.2.1 dX4_fits_71 rfl (lv_at hl 4 rfl) ?_
            refine lv_iconst (v := (iI 4)) X.1.1 X.1.2.1 dX4_fits_72 rfl ?_
            refine lv_icmp_ge (tgt := 80) X.1.1 X.1.2.1 dX4_fits_73 (by decide) (fun c_73 => ?_) (fun c_73 => ?_)
            · have hE := ite_t hE c_73
              refine lv_iconst (v := (iI 0)) X.1.1 X.1.2.1 dX4_fits_80 rfl ?_
              cases hE
              exact retRZ X okB_0 dX4_fits_81
            · have hE := ite_f hE c_73
              refine lv_iconst (v := (iI 1)) X.1.1 X.1.2.1 dX4_fits_76 rfl ?_
              refine lv_goto (tgt := 81) X.1.1 X.1.2.1 dX4_fits_77 (by decide) ?_
              cases hE
              exact retRZ X okB_1 dX4_fits_81
    · have hE := ite_f hE s_27_0
      by_cases s_27_1 : (rmI v1 (iI 3)) = (iI 1)
      · have hE := ite_t hE s_27_1
        refine lv_lookup (off := 55) (tgt := 82) X.1.1 X.1.2.1 dX4_fits_27 (by decide) (by rw [s_27_1]; decide) (by decide) ?_
        refine lv_iload X.1.1 X.1.2.1 dX4_fits_82 (lv_at hl 0 rfl) ?_
        refine lv_bipush (v := (iI 48)) X.1.1 X.1.2.1 dX4_fits_84 (by decide) ?_
        refine lv_icmp_lt (tgt := 100) X.1.1 X.1.2.1 dX4_fits_86 (by decide) (fun c_86 => ?_) (fun c_86 => ?_)
        · have hE := ite_t hE c_86
          refine lv_iconst (v := (iI 0)) X.1.1 X.1.2.1 dX4_fits_100 rfl ?_
          cases hE
          exact retRZ X okB_0 dX4_fits_101
        · have hE := ite_f hE c_86
          refine lv_iload X.1.1 X.1.2.1 dX4_fits_89 (lv_at hl 0 rfl) ?_
          refine lv_bipush (v := (iI 57)) X.1.1 X.1.2.1 dX4_fits_91 (by decide) ?_
          refine lv_icmp_gt (tgt := 100) X.1.1 X.1.2.1 dX4_fits_93 (by decide) (fun c_93 => ?_) (fun c_93 => ?_)
          · have hE := ite_t hE c_93
            refine lv_iconst (v := (iI 0)) X.1.1 X.1.2.1 dX4_fits_100 rfl ?_
            cases hE
            exact retRZ X okB_0 dX4_fits_101
          · have hE := ite_f hE c_93
            refine lv_iconst (v := (iI 1)) X.1.1 X.1.2.1 dX4_fits_96 rfl ?_
            refine lv_goto (tgt := 101) X.1.1 X.1.2.1 dX4_fits_97 (by decide) ?_
            cases hE
            exact retRZ X okB_1 dX4_fits_101
      · have hE := ite_f hE s_27_1
        refine lv_lookup (off := 75) (tgt := 102) X.1.1 X.1.2.1 dX4_fits_27 (by decide) ((lv_osw s_27_0 (by decide)).trans ((lv_osw s_27_1 (by decide)).trans (rfl))) (by decide) ?_
        refine lv_aload_n X.1.1 X.1.2.1 dX4_fits_102 rfl (lv_at hl 1 rfl) ?_
        refine lv_aload_n X.1.1 X.1.2.1 dX4_fits_103 rfl (lv_at hl 1 rfl) ?_
        refine lv_iload_n X.1.1 X.1.2.1 dX4_fits_104 rfl (lv_at hl 2 rfl) ?_
        refine lv_iconst (v := (iI 2)) X.1.1 X.1.2.1 dX4_fits_105 rfl ?_
        refine lv_isub X.1.1 X.1.2.1 dX4_fits_106 ?_
        obtain ⟨u1002, e_u1002, hE⟩ := bd_some hE
        refine callRV (wsC := (wT cI cZ h hlt lt ln)) (As := [.int (v1 - (iI 2))]) (rest := [.ref h]) (ci := 4) X (c4_letterAt (l := l) e_u1002) o4_letterAt tw229 ⟨rfl, rfl, Nat.le_of_ble_eq_true rfl, Nat.le_of_ble_eq_true rfl⟩ hP hK 0 rfl rfl rfl rfl hl rfl (Nat.le_of_ble_eq_true rfl) ⟨Nat.le_refl _, Nat.le_refl _⟩ dX4_fits_107 ?_
        refine lv_iload X.1.1 X.1.2.1 dX4_fits_110 (lv_at hl 0 rfl) ?_
        obtain ⟨u1003, e_u1003, hE⟩ := bd_some hE
        refine callRV (wsC := (wT cI cZ h hlt lt ln)) (As := [.int u1002, .int u1001]) (rest := []) (ci := 4) X (c4_endsPart (l := l) e_u1003) o4_endsPart tw233 ⟨rfl, rfl, Nat.le_of_ble_eq_true rfl, Nat.le_of_ble_eq_true rfl⟩ hP hK 0 rfl rfl rfl rfl hl rfl (by decide) ⟨Nat.le_refl _, Nat.le_refl _⟩ dX4_fits_112 ?_
        obtain ⟨z_r, hE⟩ := okB_some hE
        cases hE
        exact retRZ X z_r dX4_fits_115
  · have hE := ite_t hE c_8
    refine lv_iload X.1.1 X.1.2.1 dX4_fits_11 (lv_at hl 0 rfl) ?_
    refine lv_bipush (v := (iI 68)) X.1.1 X.1.2.1 dX4_fits_13 (by decide) ?_
    refine lv_icmp_ne (tgt := 22) X.1.1 X.1.2.1 dX4_fits_15 (by decide) (fun c_15 => ?_) (fun c_15 => ?_)
    · have hE := ite_f hE c_15
      refine lv_iconst (v := (iI 0)) X.1.1 X.1.2.1 dX4_fits_22 rfl ?_
      cases hE
      exact retRZ X okB_0 dX4_fits_23
    · have hE := ite_t hE c_15
      refine lv_iconst (v := (iI 1)) X.1.1 X.1.2.1 dX4_fits_18 rfl ?_
      refine lv_goto (tgt := 23) X.1.1 X.1.2.1 dX4_fits_19 (by decide) ?_
      cases hE
      exact retRZ X okB_1 dX4_fits_23
theorem o4_firstFault : oV yX4_firstFault RX4 cX4_firstFault 4 (some .int) 0 := ⟨tw224, tw222, tw223, tw40, ⟨by decide +kernel, by decide +kernel⟩, by decide +kernel⟩
abbrev rm4_firstFault : Room := { frames := 2, cells := 0, slots := 0, locals := 46 }
set_option maxHeartbeats 4000000 in
set_option maxRecDepth 100000 in
theorem c4_firstFault {l : Launch} {G : va_G} {cI cZ : ClassId} {h hlt : Nat} {lt : Nat → Int32} {ln : Int32} {u : Int32} (hE : f4_firstFault lt ln = some u) : Met l yX4_firstFault (Cond.code yX4_firstFault cX4_firstFault 4 (some .int) :: TB) rm4_firstFault (PcR G cI cZ (wT cI cZ h hlt lt ln) ([.ref h] : List Value)) (QcRead u) 0 0 (fun _ => False) := by
  refine metR (own := RX4) (by decide +kernel) rfl (Nat.le_of_ble_eq_true rfl) ?_
  intro p e s m below meth c ls X hP hK hl
  have hl : lv_has ls 4 [(0, .ref h)] := hl
  unfold f4_firstFault at hE
  refine lv_iconst (v := (iI 0)) X.1.1 X.1.2.1 dX4_firstFault_0 rfl ?_
  refine lv_istore_n (lv' := [(1, .int (iI 0)), (0, .ref h)]) X.1.1 X.1.2.1 dX4_firstFault_1 rfl hl (by decide) rfl (fun ls hl => ?_)
  refine lv_iconst (v := (iI 0)) X.1.1 X.1.2.1 dX4_firstFault_2 rfl ?_
  refine lv_istore_n (lv' := [(2, .int (iI 0)), (1, .int (iI 0)), (0, .ref h)]) X.1.1 X.1.2.1 dX4_firstFault_3 rfl hl (by decide) rfl (fun ls hl => ?_)
  refine lv_iconst (v := (iI 0)) X.1.1 X.1.2.1 dX4_firstFault_4 rfl ?_
  refine lv_istore_n (lv' := [(3, .int (iI 0)), (2, .int (iI 0)), (1, .int (iI 0)), (0, .ref h)]) X.1.1 X.1.2.1 dX4_firstFault_5 rfl hl (by decide) rfl (fun ls hl => ?_)
  have lp6 : ∀ (k : Int32 → Int32 → Int32 → Option Int32), (∀ (v1_1001 : Int32) (v2_1001 : Int32) (v3_1001 : Int32) (ls : Array Slot), lv_has ls 4 [(0, .ref h), (1, .int v1_1001), (2, .int v2_1001), (3, .int v3_1001)] → k v1_1001 v2_1001 v3_1001 = some u → W p l e rm4_firstFault s m ([.ref h] : List Value).toArray below meth c s.heap [] 0 0 (MQ below (QcRead u) ([.ref h] : List Value).toArray s 0 0 (fun _ => False)) (F0 m 58 ls [])) → ∀ (n : Nat) (v1_1001 : Int32) (v2_1001 : Int32) (v3_1001 : Int32) (ls : Array Slot), lv_has ls 4 [(0, .ref h), (1, .int v1_1001), (2, .int v2_1001), (3, .int v3_1001)] → l4_firstFault_6 k lt ln n v1_1001 v2_1001 v3_1001 = some u → W p l e rm4_firstFault s m ([.ref h] : List Value).toArray below meth c s.heap [] 0 0 (MQ below (QcRead u) ([.ref h] : List Value).toArray s 0 0 (fun _ => False)) (F0 m 6 ls []) := by
    intro k hex n
    induction n with
    | zero =>
      intro v1_1001 v2_1001 v3_1001 ls hl hE
      exact absurd (show (none : Option Int32) = some u from hE) (fun h => by cases h)
    | succ n ih =>
      intro v1_1001 v2_1001 v3_1001 ls hl hE
      rw [l4_firstFault_6] at hE
      refine lv_iload_n X.1.1 X.1.2.1 dX4_firstFault_6 rfl (lv_at hl 3 rfl) ?_
      refine lv_aload_n X.1.1 X.1.2.1 dX4_firstFault_7 rfl (lv_at hl 0 rfl) ?_
      refine gf4_15 X hK hP 0 rfl rfl dX4_firstFault_8 ?_
      refine lv_icmp_ge (tgt := 58) X.1.1 X.1.2.1 dX4_firstFault_11 (by decide) (fun c_11 => ?_) (fun c_11 => ?_)
      · have hE := ite_t hE c_11
        exact hex v1_1001 v2_1001 v3_1001 ls (lv_sub hl [0, 1, 2, 3] rfl) hE
      · have hE := ite_f hE c_11
        refine lv_aload_n X.1.1 X.1.2.1 dX4_firstFault_14 rfl (lv_at hl 0 rfl) ?_
        refine lv_iload_n X.1.1 X.1.2.1 dX4_firstFault_15 rfl (lv_at hl 3 rfl) ?_
        refine lv_iload_n X.1.1 X.1.2.1 dX4_firstFault_16 rfl (lv_at hl 1 rfl) ?_
        refine lv_iload_n X.1.1 X.1.2.1 dX4_firstFault_17 rfl (lv_at hl 2 rfl) ?_
        obtain ⟨u1002, e_u1002, hE⟩ := bd_some hE
        refine callRV (wsC := (wT cI cZ h hlt lt ln)) (As := [.int v3_1001, .int v1_1001, .int v2_1001]) (rest := []) (ci := 4) X (c4_fits (l := l) e_u1002) o4_fits tw225 ⟨rfl, rfl, Nat.le_of_ble_eq_true rfl, Nat.le_of_ble_eq_true rfl⟩ hP hK 0 rfl rfl rfl rfl hl rfl (by decide) ⟨Nat.le_refl _, Nat.le_refl _⟩ dX4_firstFault_18 ?_
        refine lv_if_ne (tgt := 26) X.1.1 X.1.2.1 dX4_firstFault_21 (by decide) (fun c_21 => ?_) (fun c_21 => ?_)
        · have hE := ite_f hE c_21
          refine lv_aload_n X.1.1 X.1.2.1 dX4_firstFault_26 rfl (lv_at hl 0 rfl) ?_
          refine lv_iload_n X.1.1 X.1.2.1 dX4_firstFault_27 rfl (lv_at hl 3 rfl) ?_
          obtain ⟨u1003, e_u1003, hE⟩ := bd_some hE
          refine callRV (wsC := (wT cI cZ h hlt lt ln)) (As := [.int v3_1001]) (rest := []) (ci := 4) X (c4_letterAt (l := l) e_u1003) o4_letterAt tw229 ⟨rfl, rfl, Nat.le_of_ble_eq_true rfl, Nat.le_of_ble_eq_true rfl⟩ hP hK 0 rfl rfl rfl rfl hl rfl (by decide) ⟨Nat.le_refl _, Nat.le_refl _⟩ dX4_firstFault_28 ?_
          refine lv_bipush (v := (iI 87)) X.1.1 X.1.2.1 dX4_firstFault_31 (by decide) ?_
          refine lv_icmp_ne (tgt := 39) X.1.1 X.1.2.1 dX4_firstFault_33 (by decide) (fun c_33 => ?_) (fun c_33 => ?_)
          · have hE := ite_f hE c_33
            refine lv_aload_n X.1.1 X.1.2.1 dX4_firstFault_39 rfl (lv_at hl 0 rfl) ?_
            refine lv_iload_n X.1.1 X.1.2.1 dX4_firstFault_40 rfl (lv_at hl 3 rfl) ?_
            obtain ⟨u1004, e_u1004, hE⟩ := bd_some hE
            refine callRV (wsC := (wT cI cZ h hlt lt ln)) (As := [.int v3_1001]) (rest := []) (ci := 4) X (c4_letterAt (l := l) e_u1004) o4_letterAt tw229 ⟨rfl, rfl, Nat.le_of_ble_eq_true rfl, Nat.le_of_ble_eq_true rfl⟩ hP hK 0 rfl rfl rfl rfl hl rfl (by decide) ⟨Nat.le_refl _, Nat.le_refl _⟩ dX4_firstFault_41 ?_
            refine lv_bipush (v := (iI 84)) X.1.1 X.1.2.1 dX4_firstFault_44 (by decide) ?_
            refine lv_icmp_ne (tgt := 52) X.1.1 X.1.2.1 dX4_firstFault_46 (by decide) (fun c_46 => ?_) (fun c_46 => ?_)
            · have hE := ite_f hE c_46
              refine lv_iinc (v := (v3_1001 + (iI 1))) (lv' := [(3, .int (v3_1001 + (iI 1))), (0, .ref h), (1, .int v1_1001), (2, .int v2_1001)]) X.1.1 X.1.2.1 dX4_firstFault_52 hl (k := 3) rfl rfl (by decide) rfl (fun ls hl => ?_)
              refine lv_goto (tgt := 6) X.1.1 X.1.2.1 dX4_firstFault_55 (by decide) ?_
              exact ih v1_1001 v2_1001 (v3_1001 + (iI 1)) ls (lv_sub hl [1, 2, 3, 0] rfl) hE
            · have hE := ite_t hE c_46
              refine lv_iinc (v := (v2_1001 + (iI 1))) (lv' := [(2, .int (v2_1001 + (iI 1))), (0, .ref h), (1, .int v1_1001), (3, .int v3_1001)]) X.1.1 X.1.2.1 dX4_firstFault_49 hl (k := 2) rfl rfl (by decide) rfl (fun ls hl => ?_)
              refine lv_iinc (v := (v3_1001 + (iI 1))) (lv' := [(3, .int (v3_1001 + (iI 1))), (2, .int (v2_1001 + (iI 1))), (0, .ref h), (1, .int v1_1001)]) X.1.1 X.1.2.1 dX4_firstFault_52 hl (k := 3) rfl rfl (by decide) rfl (fun ls hl => ?_)
              refine lv_goto (tgt := 6) X.1.1 X.1.2.1 dX4_firstFault_55 (by decide) ?_
              exact ih v1_1001 (v2_1001 + (iI 1)) (v3_1001 + (iI 1)) ls (lv_sub hl [2, 3, 1, 0] rfl) hE
          · have hE := ite_t hE c_33
            refine lv_iinc (v := (v1_1001 + (iI 1))) (lv' := [(1, .int (v1_1001 + (iI 1))), (0, .ref h), (2, .int v2_1001), (3, .int v3_1001)]) X.1.1 X.1.2.1 dX4_firstFault_36 hl (k := 1) rfl rfl (by decide) rfl (fun ls hl => ?_)
            refine lv_aload_n X.1.1 X.1.2.1 dX4_firstFault_39 rfl (lv_at hl 1 rfl) ?_
            refine lv_iload_n X.1.1 X.1.2.1 dX4_firstFault_40 rfl (lv_at hl 3 rfl) ?_
            obtain ⟨u1005, e_u1005, hE⟩ := bd_some hE
            refine callRV (wsC := (wT cI cZ h hlt lt ln)) (As := [.int v3_1001]) (rest := []) (ci := 4) X (c4_letterAt (l := l) e_u1005) o4_letterAt tw229 ⟨rfl, rfl, Nat.le_of_ble_eq_true rfl, Nat.le_of_ble_eq_true rfl⟩ hP hK 0 rfl rfl rfl rfl hl rfl (by decide) ⟨Nat.le_refl _, Nat.le_refl _⟩ dX4_firstFault_41 ?_
            refine lv_bipush (v := (iI 84)) X.1.1 X.1.2.1 dX4_firstFault_44 (by decide) ?_
            refine lv_icmp_ne (tgt := 52) X.1.1 X.1.2.1 dX4_firstFault_46 (by decide) (fun c_46 => ?_) (fun c_46 => ?_)
            · have hE := ite_f hE c_46
              refine lv_iinc (v := (v3_1001 + (iI 1))) (lv' := [(3, .int (v3_1001 + (iI 1))), (1, .int (v1_1001 + (iI 1))), (0, .ref h), (2, .int v2_1001)]) X.1.1 X.1.2.1 dX4_firstFault_52 hl (k := 3) rfl rfl (by decide) rfl (fun ls hl => ?_)
              refine lv_goto (tgt := 6) X.1.1 X.1.2.1 dX4_firstFault_55 (by decide) ?_
              exact ih (v1_1001 + (iI 1)) v2_1001 (v3_1001 + (iI 1)) ls (lv_sub hl [2, 1, 3, 0] rfl) hE
            · have hE := ite_t hE c_46
              refine lv_iinc (v := (v2_1001 + (iI 1))) (lv' := [(2, .int (v2_1001 + (iI 1))), (1, .int (v1_1001 + (iI 1))), (0, .ref h), (3, .int v3_1001)]) X.1.1 X.1.2.1 dX4_firstFault_49 hl (k := 2) rfl rfl (by decide) rfl (fun ls hl => ?_)
              refine lv_iinc (v := (v3_1001 + (iI 1))) (lv' := [(3, .int (v3_1001 + (iI 1))), (2, .int (v2_1001 + (iI 1))), (1, .int (v1_1001 + (iI 1))), (0, .ref h)]) X.1.1 X.1.2.1 dX4_firstFault_52 hl (k := 3) rfl rfl (by decide) rfl (fun ls hl => ?_)
              refine lv_goto (tgt := 6) X.1.1 X.1.2.1 dX4_firstFault_55 (by decide) ?_
              exact ih (v1_1001 + (iI 1)) (v2_1001 + (iI 1)) (v3_1001 + (iI 1)) ls (lv_sub hl [3, 2, 1, 0] rfl) hE
        · have hE := ite_t hE c_21
          refine lv_iload_n X.1.1 X.1.2.1 dX4_firstFault_24 rfl (lv_at hl 3 rfl) ?_
          cases hE
          exact retR X dX4_firstFault_25
  refine lp6 _ (fun v1_1001 v2_1001 v3_1001 ls hl hE => ?_) FU (iI 0) (iI 0) (iI 0) ls (lv_sub hl [3, 2, 1, 0] rfl) hE
  refine lv_aload_n X.1.1 X.1.2.1 dX4_firstFault_58 rfl (lv_at hl 0 rfl) ?_
  refine gf4_15 X hK hP 0 rfl rfl dX4_firstFault_59 ?_
  refine lv_if_eq (tgt := 74) X.1.1 X.1.2.1 dX4_firstFault_62 (by decide) (fun c_62 => ?_) (fun c_62 => ?_)
  · have hE := ite_t hE c_62
    refine lv_aload_n X.1.1 X.1.2.1 dX4_firstFault_74 rfl (lv_at hl 0 rfl) ?_
    refine gf4_15 X hK hP 0 rfl rfl dX4_firstFault_75 ?_
    refine lv_goto (tgt := 83) X.1.1 X.1.2.1 dX4_firstFault_78 (by decide) ?_
    cases hE
    exact retR X dX4_firstFault_83
  · have hE := ite_f hE c_62
    refine lv_aload_n X.1.1 X.1.2.1 dX4_firstFault_65 rfl (lv_at hl 0 rfl) ?_
    refine gf4_15 X hK hP 0 rfl rfl dX4_firstFault_66 ?_
    refine lv_iconst (v := (iI 3)) X.1.1 X.1.2.1 dX4_firstFault_69 rfl ?_
    refine r_irem X.1.1 X.1.2.1 dX4_firstFault_70 (by decide) ?_
    refine lv_if_eq (tgt := 81) X.1.1 X.1.2.1 dX4_firstFault_71 (by decide) (fun c_71 => ?_) (fun c_71 => ?_)
    · have hE := ite_t hE c_71
      refine lv_bipush (v := (iI (-9))) X.1.1 X.1.2.1 dX4_firstFault_81 (by decide) ?_
      cases hE
      exact retR X dX4_firstFault_83
    · have hE := ite_f hE c_71
      refine lv_aload_n X.1.1 X.1.2.1 dX4_firstFault_74 rfl (lv_at hl 0 rfl) ?_
      refine gf4_15 X hK hP 0 rfl rfl dX4_firstFault_75 ?_
      refine lv_goto (tgt := 83) X.1.1 X.1.2.1 dX4_firstFault_78 (by decide) ?_
      cases hE
      exact retR X dX4_firstFault_83
