/-! two worlds side by side; the script read; the room that the law's run asks for -/
abbrev R5 : Room := { frames := 9, cells := 34, slots := 561, locals := 330 }
def D2 (A : Nat → Prop) (w1 w2 : va_W) : Prop := va_D A w1 ∧ va_D A w2 ∧ ∀ (i j : Nat) (p q : Nat × va_E), w1[i]? = some p → w2[j]? = some q → p.1 ≠ q.1
theorem D2.swap {A : Nat → Prop} {w1 w2 : va_W} (h : D2 A w1 w2) : D2 A w2 w1 := ⟨h.2.1, h.1, fun i j p q hp hq e => h.2.2 j i q p hq hp e.symm⟩
theorem D2.same {A : Nat → Prop} {w1 w1' w2 : va_W} (h : D2 A w1 w2) (e : w1.map Prod.fst = w1'.map Prod.fst) : D2 A w1' w2 := by
  refine ⟨h.1.same e, h.2.1, fun i j p q hp hq => ?_⟩
  have h1 : (w1'.map Prod.fst)[i]? = some p.1 := by rw [List.getElem?_map, hp]; rfl
  rw [← e, List.getElem?_map] at h1
  cases hz : w1[i]? with
  | none => rw [hz] at h1; cases h1
  | some z =>
    rw [hz] at h1
    have h2 : z.1 = p.1 := Option.some.inj h1
    rw [← h2]
    exact h.2.2 i j z q hz hq
theorem P_left {G : va_G} {cl : List vw_C} {w1 w2 : va_W} {H : Heap} (h : va_P G cl (w1 ++ w2) H) : va_P G cl w1 H := fun k q hk => h k q (by rw [List.getElem?_append_left (List.getElem?_eq_some_iff.mp hk).1]; exact hk)
theorem P_right {G : va_G} {cl : List vw_C} {w1 w2 : va_W} {H : Heap} (h : va_P G cl (w1 ++ w2) H) : va_P G cl w2 H := fun k q hk => h (w1.length + k) q (by rw [List.getElem?_append_right (Nat.le_add_right _ _), Nat.add_sub_cancel_left]; exact hk)
theorem D2_of {A : Nat → Prop} {w1 w2 : va_W} (h : va_D A (w1 ++ w2)) : D2 A w1 w2 := by
  have e1 : ∀ (i : Nat) (p : Nat × va_E), w1[i]? = some p → (w1 ++ w2)[i]? = some p := fun i p hp => by rw [List.getElem?_append_left (List.getElem?_eq_some_iff.mp hp).1]; exact hp
  have e2 : ∀ (i : Nat) (p : Nat × va_E), w2[i]? = some p → (w1 ++ w2)[w1.length + i]? = some p := fun i p hp => by rw [List.getElem?_append_right (Nat.le_add_right _ _), Nat.add_sub_cancel_left]; exact hp
  refine ⟨⟨fun i j p q hp hq e => h.1 i j p q (e1 i p hp) (e1 j q hq) e, fun k q hk => h.2 k q (e1 k q hk)⟩, ⟨fun i j p q hp hq e => ?_, fun k q hk => h.2 _ q (e2 k q hk)⟩, fun i j p q hp hq e => ?_⟩
  · have := h.1 _ _ p q (e2 i p hp) (e2 j q hq) e
    omega
  · have h1 := h.1 _ _ p q (e1 i p hp) (e2 j q hq) e
    have h2 := (List.getElem?_eq_some_iff.mp hp).1
    omega
section
variable {p : Program} {l : Launch} {e : Env} {R : Room} {s : State} {m : MethodId} {args : Array Value} {below : List Frame} {meth : Method} {c : Code} {H H0 : Heap} {locs : List Loc} {cells slots mc ms : Nat} {Q : State → Prop} {cc : ByteArray} {pc : Nat} {ls : Array Slot} {rest st0 st1 : List Value} {G : va_G} {A0 : Nat → Prop} {w1 w1' w2 : va_W} {nL n idx ml ci : Nat} {cI cZ : ClassId} {own C : String} {y : MethodName} {cb : ByteArray} {ret ret2 : Option FieldType} {rm : Room} {b : Nat} {As : List Value} {lv : List (Nat × Value)} {fs : List Value} {cq : vw_C} {ov : Option Value} {Pw : va_W → Prop} {en : va_E}
theorem callW2 (X : Cx p m meth c cc nL s args own ret2) (hM : Met l y (Cond.code y cb ml ret :: TB) rm (PcW G cI cZ w1 H.size (.ref b :: As)) (QW G ov w1' (va_A w1 H.size)) 0 0 (va_A w1 H.size)) (o : oV y C cb ml ret n) (hl : Cond.methodLink own idx y ∈ TB) (hrm : rm.cells = 0 ∧ rm.slots = 0 ∧ rm.frames + 1 ≤ R.frames ∧ 8 + (ml + 11) + rm.locals ≤ R.locals) (hP : va_P G vwCl w1 H) (hP2 : va_P G vwCl w2 H) (hK : va_K G vwCl (tyL cI cZ) s) (hD : D2 A0 w1 w2) (hS : va_S A0 H0 H locs) (hA : ∀ q : Nat, H0.size ≤ q → A0 q) (had : w1.map Prod.fst = w1'.map Prod.fst) (q0 : Nat) (hc : vwCl[ci]? = some cq) (he : w1[q0]? = some (b, .inr (ci, fs))) (hCC : cq.1 = C) (hn : As.length = n) (hls : lv_has ls nL lv) (hst : st0 = As.reverse ++ .ref b :: rest) (hW8 : (rest.map fun v => v.category).sum ≤ 8) (hcs : cells ≤ R.cells ∧ slots ≤ R.slots) (hs1 : ov.toList ++ rest = st1) (hdg : decode cc pc = .ok (.invokevirtual idx, 3))
    (kk : ∀ (H1 : Heap) (locs1 : List Loc), va_P G vwCl w1' H1 → va_P G vwCl w2 H1 → D2 A0 w1' w2 → va_S A0 H0 H1 locs1 → W p l e R s m args below meth c H1 locs1 cells slots Q (F0 m (pc + 3) ls st1)) : W p l e R s m args below meth c H locs cells slots Q (F0 m pc ls st0) := by
  obtain ⟨o1, o2, o3, o4, o5, o6⟩ := o
  subst hCC
  subst hs1
  have hF : ∀ q, va_A w1 H.size q → A0 q := by
    intro q h
    rcases h with ⟨k, e, h⟩ | h
    · exact hD.1.2 k (q, e) h
    · exact hA q (Nat.le_trans hS.1 h)
  intro T hT X1
  obtain ⟨v, st₀, t, T', L, h0, X', hL, e1, e2, ⟨hv, hp, hz, hk⟩, st⟩ := va_runV (As := As) (rest := rest) (C := cq.1) X.1 hM ⟨mkB X.1.2.2.2.2 o1 o4 o5 o6 hl hrm, X.1.2.2.2.2 _ o2, X.1.2.2.2.2 _ o3⟩ ⟨PcW_blind, va_recv hK hP hc he, fun U hU hW => ⟨rfl, by rw [hU], by rw [hU]; exact hP, va_K.moved hW.alike hK, hD.1.weaken (fun _ _ _ _ => trivial), NWs_warm hW X.2.1⟩⟩ (g := F0 m pc ls st0) rfl hn hls.1 hst (lv_room hW8) hdg hcs T hT X1
  have hv2 : v = ov := by injection hv
  subst hv2
  rw [h0] at hz hk
  rw [← e1] at hp hz hk
  have hP3 : va_P G vwCl w2 T'.heap := hP2.kept fun k q hq => hk q.1 (hP2 k q hq).lt fun h => by
    rcases h with ⟨k2, e, h⟩ | h
    · exact hD.2.2 k2 k (q.1, e) q h hq rfl
    · exact absurd (hP2 k q hq).lt (Nat.not_lt.mpr h)
  obtain ⟨t2, a1, b1⟩ := kk T'.heap (locs ++ L) hp hP3 (hD.same had)
    ⟨Nat.le_trans hS.1 hz, fun q h1 h2 => by rw [hk q (Nat.lt_of_lt_of_le h1 hS.1) (fun z => h2 (hF q z))]; exact hS.2.1 q h1 h2, fun q hq => by
      rcases List.mem_append.mp hq with h | h
      · exact hS.2.2 q h
      · exact hF _ (hL q h)⟩ T' rfl X'
  exact ⟨t2, st t2 a1, b1⟩
theorem callN2 (X : Cx p m meth c cc nL s args own ret2) (hM : Met l y (Cond.code y cb ml none :: TB) rm (PcW G cI cZ [(b, en)] H.size (.ref b :: As)) (QN G Pw (va_A [(b, en)] H.size)) mc ms (va_A [(b, en)] H.size)) (o : oI y cb ml n) (hl : Cond.methodLink own idx y ∈ TB) (hrm : rm.cells = mc ∧ rm.slots = ms ∧ rm.frames + 1 ≤ R.frames ∧ 8 + (ml + 11) + rm.locals ≤ R.locals) (hP2 : va_P G vwCl w2 H) (hP : va_P G vwCl [(b, en)] H) (hK : va_K G vwCl (tyL cI cZ) s) (hD : D2 A0 w2 [(b, en)]) (hS : va_S A0 H0 H locs) (hA : ∀ q : Nat, H0.size ≤ q → A0 q) (hn : As.length = n) (hls : lv_has ls nL lv) (hst : st0 = As.reverse ++ .ref b :: rest) (hW8 : (rest.map fun v => v.category).sum ≤ 8) (hcs : cells + mc ≤ R.cells ∧ slots + ms ≤ R.slots) (hdg : decode cc pc = .ok (.invokespecial idx, 3))
    (kk : ∀ (H1 : Heap) (locs1 : List Loc) (w1 : va_W), Pw w1 → va_P G vwCl w2 H1 → va_P G vwCl w1 H1 → D2 A0 w2 w1 → va_S A0 H0 H1 locs1 → W p l e R s m args below meth c H1 locs1 (cells + mc) (slots + ms) Q (F0 m (pc + 3) ls rest)) : W p l e R s m args below meth c H locs cells slots Q (F0 m pc ls st0) := by
  obtain ⟨o1, o2, o3, o4, o5, o6⟩ := o
  have hF : ∀ q, va_A [(b, en)] H.size q → A0 q := by
    intro q h
    rcases h with ⟨k, e, h⟩ | h
    · exact hD.2.1.2 k (q, e) h
    · exact hA q (Nat.le_trans hS.1 h)
  have hN : ∀ (k : Nat) (q : Nat × va_E), w2[k]? = some q → ¬ va_A [(b, en)] H.size q.1 := fun k q hq h => by
    rcases h with ⟨k2, e, h⟩ | h
    · exact hD.2.2 k k2 q (q.1, e) hq h rfl
    · exact absurd (hP2 k q hq).lt (Nat.not_lt.mpr h)
  intro T hT X1
  obtain ⟨v, st₀, t, T', L, h0, X', hL, e1, e2, ⟨hv, ⟨w1, hw1, hp1, hd1⟩, hz, hk⟩, st⟩ := va_runI (As := As) (rest := rest) X.1 hM ⟨mkB X.1.2.2.2.2 o1 o4 o5 o6 hl hrm, o3, X.1.2.2.2.2 _ o2⟩ ⟨PcW_blind, fun U hU hW => ⟨rfl, by rw [hU], by rw [hU]; exact hP, va_K.moved hW.alike hK, hD.2.1.weaken (fun _ _ _ _ => trivial), NWs_warm hW X.2.1⟩⟩ (g := F0 m pc ls st0) rfl hn hls.1 hst (lv_room hW8) hdg hcs T hT X1
  have hv2 : v = none := by injection hv
  subst hv2
  rw [h0] at hz hk
  rw [← e1] at hp1 hz hk
  obtain ⟨t2, a1, b1⟩ := kk T'.heap (locs ++ L) w1 hw1 (hP2.kept fun k q hq => hk q.1 (hP2 k q hq).lt (hN k q hq)) hp1 ⟨hD.1, ⟨hd1.1, fun k q h => hF _ (hd1.2 k q h)⟩, fun i j p q hp hq e => hN i p hp (by rw [e]; exact hd1.2 j q hq)⟩
    ⟨Nat.le_trans hS.1 hz, fun q h1 h2 => by rw [hk q (Nat.lt_of_lt_of_le h1 hS.1) (fun z => h2 (hF q z))]; exact hS.2.1 q h1 h2, fun q hq => by
      rcases List.mem_append.mp hq with h | h
      · exact hS.2.2 q h
      · exact hF _ (hL q h)⟩ T' rfl X'
  exact ⟨t2, st t2 a1, b1⟩
end
theorem lawin {i L : Nat} (j : Int) (h0 : 0 ≤ j) (h : (i : Int) + j < (L : Int)) (hL : L ≤ 2048) : vp_in (iI (i : Int) + iI j) L := by
  rw [iI_add]
  exact vin (ib_iI (by omega) h (by omega))
theorem lawin0 {i L : Nat} (h : (i : Int) < (L : Int)) (hL : L ≤ 2048) : vp_in (iI (i : Int)) L := vin (ib_iI (by omega) h (by omega))
theorem cmp_self (x : Int64) : lg_cmp x x = 0 := by
  unfold lg_cmp
  rw [if_neg (show ¬ x > x by simp only [gt_iff_lt, Int64.lt_iff_toInt_lt]; omega), if_pos rfl]
theorem r_lcmp {p : Program} {l : Launch} {e : Env} {R : Room} {s : State} {m : MethodId} {args : Array Value} {below : List Frame} {meth : Method} {c : Code} {H : Heap} {locs : List Loc} {cells slots : Nat} {Q : State → Prop} {cc : ByteArray} {pc : Nat} {ls : Array Slot} {rest : List Value} (hexec : p.tables.exec = Jvm.exec) (hb : c.code = cc) {x y : Int64} (hdg : decode cc pc = .ok (.lcmp, 1)) (kk : W p l e R s m args below meth c H locs cells slots Q (F0 m (pc + 1) ls (.int (lg_cmp x y) :: rest))) : W p l e R s m args below meth c H locs cells slots Q (F0 m pc ls (.long y :: .long x :: rest)) := W.lcmp hexec hb hdg kk
def nz (v : Int32) : Int32 := if v = 0 then iI 0 else iI 1
abbrev AL (s : State) : Nat → Prop := fun q => s.heap.size ≤ q
section
variable {p : Program} {l : Launch} {e : Env} {s : State} {m : MethodId} {below : List Frame} {meth : Method} {c : Code} {H : Heap} {locs : List Loc} {cells slots : Nat} {Q : State → Prop} {pc : Nat} {ls : Array Slot} {rest : List Value} {R : Room} {b L i q0 m0 : Nat} {xs : Nat → Int32}
theorem rd (X : Cx p m meth c cL_law 4 s #[Value.ref b] RL (some .boolean)) (hX : va_X b L xs s s.heap) (hbl : b < s.heap.size) (hL : L ≤ 2048) (hS : va_S (AL s) s.heap H locs) (hl : lv_has ls 4 [(0, .ref b), (1, .ref q0), (2, .ref m0), (3, .int (iI (i : Int)))]) {j : Int} {v : Int32} (hj0 : 0 ≤ j) (hj : (i : Int) + j < (L : Int)) (hv : xs (iI (i : Int) + iI j).toNatClampNeg = v) (h1 : decode cL_law pc = .ok (.aload_n 0, 1)) (h2 : decode cL_law (pc + 1) = .ok (.iload_n 3, 1)) (h3 : decode cL_law (pc + 2) = .ok (.iconst j, 1)) (h4 : decode cL_law (pc + 3) = .ok (.iadd, 1)) (h5 : decode cL_law (pc + 4) = .ok (.iaload, 1))
    (kk : W p l e R s m #[Value.ref b] below meth c H locs cells slots Q (F0 m (pc + 5) ls (.int v :: rest))) : W p l e R s m #[Value.ref b] below meth c H locs cells slots Q (F0 m pc ls rest) := by
  subst hv
  refine lv_aload_n X.1.1 X.1.2.1 h1 rfl (lv_at hl 0 rfl) ?_
  refine lv_iload_n X.1.1 X.1.2.1 h2 rfl (lv_at hl 3 rfl) ?_
  refine lv_iconst (v := iI j) X.1.1 X.1.2.1 h3 rfl ?_
  refine lv_iadd X.1.1 X.1.2.1 h4 ?_
  exact va_sld X.1.1 X.1.2.1 hX hbl (Nat.not_le.mpr hbl) hS (lawin j hj0 hj hL) h5 kk
theorem rz (X : Cx p m meth c cL_law 4 s #[Value.ref b] RL (some .boolean)) {v : Int32} (h6 : decode cL_law pc = .ok (.ifCond .eq 7, 3)) (h7 : decode cL_law (pc + 3) = .ok (.iconst 1, 1)) (h8 : decode cL_law (pc + 4) = .ok (.goto 4, 3)) (h9 : decode cL_law (pc + 7) = .ok (.iconst 0, 1))
    (kk : W p l e R s m #[Value.ref b] below meth c H locs cells slots Q (F0 m (pc + 8) ls (.int (nz v) :: rest))) : W p l e R s m #[Value.ref b] below meth c H locs cells slots Q (F0 m pc ls (.int v :: rest)) := by
  refine lv_if_eq (tgt := pc + 7) X.1.1 X.1.2.1 h6 (by omega) (fun hz => ?_) (fun hz => ?_)
  · refine lv_iconst (v := iI 0) X.1.1 X.1.2.1 h9 rfl ?_
    rw [show nz v = iI 0 from if_pos hz] at kk
    exact kk
  · refine lv_iconst (v := iI 1) X.1.1 X.1.2.1 h7 rfl ?_
    refine lv_goto (tgt := pc + 8) X.1.1 X.1.2.1 h8 (by omega) ?_
    rw [show nz v = iI 1 from if_neg hz] at kk
    exact kk
end
def PAIR (cI cZ : ClassId) (q0 q1 q2 q3 q4 q5 q6 q7 q8 q9 q10 q11 q12 q13 q14 q15 q16 q17 q18 q19 m0 m1 m2 m3 m4 m5 m6 m7 m8 m9 m10 m11 m12 m13 : Nat) (wb wm : va_W) : Prop := ∃ (X K P U M O F C A AK RO RK kz R0 R1 TS : Int → Int) (n W T a x S : Int) (d : DZ) (tch tya tow tca thu tle mrn mrm mat mfa : Int32) (sd : Int64), TOK X n ∧ CX K P U W T d M ∧ AR W A a RO x ∧ SOK O F C S ∧ KR W AK RK kz ∧ wb = (wB cI cZ q0 q1 q2 q3 q4 q5 q6 q7 q8 q9 q10 q11 q12 q13 q14 q15 q16 q17 q18 q19 (aI X) (iI n) (aI K) (aI P) (aI U) (iI W) (iI T) (aI (dS d)) (iI (dC d)) (iI (dY d)) (iI (dO d)) (iI (dK d)) (iI (dH d)) (iI (dL d)) (aI TS) tch tya tow tca thu tle (aI A) (aI AK) (aI kz) (aI O) (aI F) (aI C) (iI S) (iI a) sd) ∧ wm = (wM cI cZ m0 m1 m2 m3 m4 m5 m6 m7 m8 m9 m10 m11 m12 m13 (iI W) (iI T) mrn mrm (iI n) mat mfa (iI a) (iI x) (iI S) (sd) (aI K) (aI P) (aI U) (aI M) (aI R0) (aI R1) (aI X) (aI RO) (aI O) (aI F) (aI C) (aI kz) (aI RK))
set_option maxHeartbeats 4000000 in
set_option maxRecDepth 100000 in
theorem PAIR_of {cI cZ : ClassId} {q0 q1 q2 q3 q4 q5 q6 q7 q8 q9 q10 q11 q12 q13 q14 q15 q16 q17 q18 q19 m0 m1 m2 m3 m4 m5 m6 m7 m8 m9 m10 m11 m12 m13 : Nat} {lt : Nat → Int32} {ln : Int32} {ki : Nat → Int32} {sp : Nat → Int32} {tu : Nat → Int32} {wo : Int32} {th : Int32} {st : Nat → Int32} {ch : Int32} {ya : Int32} {ow : Int32} {ca : Int32} {hu : Int32} {le : Int32} {tst : Nat → Int32} {tch : Int32} {tya : Int32} {tow : Int32} {tca : Int32} {thu : Int32} {tle : Int32} {an : Nat → Int32} {sn : Nat → Int32} {kp : Nat → Int32} {so : Nat → Int32} {sf : Nat → Int32} {sc : Nat → Int32} {ss : Int32} {ai : Int32} {sd : Int64} {mwo : Int32} {mth : Int32} {mrn : Int32} {mrm : Int32} {mln : Int32} {mat : Int32} {mfa : Int32} {mac : Int32} {mnx : Int32} {mse : Int32} {msd : Int64} {mki : Nat → Int32} {mof : Nat → Int32} {mpu : Nat → Int32} {mno : Nat → Int32} {mrw : Nat → Int32} {mrt : Nat → Int32} {mtx : Nat → Int32} {mro : Nat → Int32} {mso : Nat → Int32} {msf : Nat → Int32} {msc : Nat → Int32} {mik : Nat → Int32} {mkt : Nat → Int32} (h : INV lt ln ki sp tu wo th st ch ya ow ca hu le tst tch tya tow tca thu tle an sn kp so sf sc ss ai sd mwo mth mrn mrm mln mat mfa mac mnx mse msd mki mof mpu mno mrw mrt mtx mro mso msf msc mik mkt) : PAIR cI cZ q0 q1 q2 q3 q4 q5 q6 q7 q8 q9 q10 q11 q12 q13 q14 q15 q16 q17 q18 q19 m0 m1 m2 m3 m4 m5 m6 m7 m8 m9 m10 m11 m12 m13 (wB cI cZ q0 q1 q2 q3 q4 q5 q6 q7 q8 q9 q10 q11 q12 q13 q14 q15 q16 q17 q18 q19 lt ln ki sp tu wo th st ch ya ow ca hu le tst tch tya tow tca thu tle an sn kp so sf sc ss ai sd) (wM cI cZ m0 m1 m2 m3 m4 m5 m6 m7 m8 m9 m10 m11 m12 m13 mwo mth mrn mrm mln mat mfa mac mnx mse msd mki mof mpu mno mrw mrt mtx mro mso msf msc mik mkt) := by
  obtain ⟨X, K, P, U, M, O, F, C, A, AK, RO, RK, kz, R0, R1, TS, n, W, T, a, x, S, d, hT, hC, hA, hS, hK, rfl, rfl, rfl, rfl, rfl, rfl, rfl, rfl, rfl, rfl, rfl, rfl, rfl, rfl, rfl, rfl, rfl, rfl, rfl, rfl, rfl, rfl, rfl, rfl, rfl, rfl, rfl, rfl, rfl, rfl, rfl, rfl, rfl, rfl, rfl, rfl, rfl, rfl, rfl, rfl, rfl, rfl, rfl⟩ := h
  exact ⟨X, K, P, U, M, O, F, C, A, AK, RO, RK, kz, R0, R1, TS, n, W, T, a, x, S, d, tch, tya, tow, tca, thu, tle, mrn, mrm, mat, mfa, _, hT, hC, hA, hS, hK, rfl, rfl⟩
